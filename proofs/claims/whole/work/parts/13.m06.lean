def f_X3_liftAt_48  (K4 : Nat → Int32 → Int32 → Int32 → ah_H → Option (Int32 × ah_H)) (x0 : Nat) (x1 : Int32) (x2 : Int32) (x3 : Int32) (σ : ah_H) : Option (Int32 × ah_H) :=
  K4 x0 x1 x2 (x3 + (1 : Int32)) σ
def f_X3_liftAt_4_b  (K4 : Nat → Int32 → Int32 → Int32 → ah_H → Option (Int32 × ah_H)) (x0 : Nat) (x1 : Int32) (x2 : Int32) (x3 : Int32) (σ : ah_H) : Option (Int32 × ah_H) :=
  (op_gR 3 6 σ x0).bind fun v1 => (op_gI 9 0 σ v1).bind fun v2 => if v2 ≤ x3 then (some (x2, σ)) else ((f_X3_runsTo x0 x3 x1 σ).bind fun r3 => if r3.1 = 0 then (f_X3_liftAt_48 K4 x0 x1 x2 x3 r3.2) else ((op_gR 3 5 r3.2 x0).bind fun v4 => (op_gR 5 3 r3.2 v4).bind fun v5 => (op_aI r3.2 v5 x3).bind fun v6 => (op_gR 3 5 r3.2 x0).bind fun v7 => (op_gR 5 2 r3.2 v7).bind fun v8 => (op_aI r3.2 v8 x1).bind fun v9 => f_X3_liftAt_48 K4 x0 x1 (op_maxi x2 (v6 - v9)) x3 r3.2))
def f_X3_liftAt_4   : Nat → Nat → Int32 → Int32 → Int32 → ah_H → Option (Int32 × ah_H)
  | 0, _, _, _, _, _ => none
  | n + 1, x0, x1, x2, x3, σ => f_X3_liftAt_4_b (f_X3_liftAt_4 n) x0 x1 x2 x3 σ
def f_X3_liftAt_0   (x0 : Nat) (x1 : Int32) (σ : ah_H) : Option (Int32 × ah_H) :=
  f_X3_liftAt_4 5000 x0 x1 (0 : Int32) (0 : Int32) σ
def f_X3_liftAt  (x0 : Nat) (x1 : Int32) (σ : ah_H) : Option (Int32 × ah_H) := op_ck 3 σ x0 (f_X3_liftAt_0 x0 x1 σ)
set_option maxRecDepth 100000 in
set_option maxHeartbeats 4000000 in
theorem c_X3_liftAt_48 {G : ah_G}  (K4 : Nat → Int32 → Int32 → Int32 → ah_H → Option (Int32 × ah_H)) (hK4 : ∀ (x0 : Nat) (x1 : Int32) (x2 : Int32) (x3 : Int32) (σ : ah_H) (r : Int32 × ah_H), K4 x0 x1 x2 x3 σ = some r → AW G m_X3_liftAt 2 0 0 4 [(0, .ref x0), (1, .int x1), (2, .int x2), (3, .int x3)] [] σ (ah_N G (ah_ri r))) : ∀ (x0 : Nat) (x1 : Int32) (x2 : Int32) (x3 : Int32) (σ : ah_H) (r : Int32 × ah_H), f_X3_liftAt_48  K4 x0 x1 x2 x3 σ = some r → AW G m_X3_liftAt 2 0 0 48 [(0, .ref x0), (1, .int x1), (2, .int x2), (3, .int x3)] [] σ (ah_N G (ah_ri r)) := by
  intro x0 x1 x2 x3 σ r h
  unfold f_X3_liftAt_48 at h
  refine aw_iinc (pc := 48) 3 [(3, .int (x3 + (1 : Int32))), (0, .ref x0), (1, .int x1), (2, .int x2)] (x3 + (1 : Int32)) dX3_liftAt_48 rfl rfl (by decide) rfl ?_
  refine aw_goto (pc := 51) 4 dX3_liftAt_51 (by decide) ?_
  refine aw_sub [1, 2, 3, 0] rfl ?_
  exact hK4 _ _ _ _ _ _ h
set_option maxRecDepth 100000 in
set_option maxHeartbeats 4000000 in
theorem c_X3_liftAt_4_b {G : ah_G}  (K4 : Nat → Int32 → Int32 → Int32 → ah_H → Option (Int32 × ah_H)) (hK4 : ∀ (x0 : Nat) (x1 : Int32) (x2 : Int32) (x3 : Int32) (σ : ah_H) (r : Int32 × ah_H), K4 x0 x1 x2 x3 σ = some r → AW G m_X3_liftAt 2 0 0 4 [(0, .ref x0), (1, .int x1), (2, .int x2), (3, .int x3)] [] σ (ah_N G (ah_ri r))) : ∀ (x0 : Nat) (x1 : Int32) (x2 : Int32) (x3 : Int32) (σ : ah_H) (r : Int32 × ah_H), f_X3_liftAt_4_b  K4 x0 x1 x2 x3 σ = some r → AW G m_X3_liftAt 2 0 0 4 [(0, .ref x0), (1, .int x1), (2, .int x2), (3, .int x3)] [] σ (ah_N G (ah_ri r)) := by
  intro x0 x1 x2 x3 σ r h
  unfold f_X3_liftAt_4_b at h
  refine aw_iload_n (pc := 4) 3 dX3_liftAt_4 rfl ?_
  refine aw_aload_n (pc := 5) 0 dX3_liftAt_5 rfl ?_
  obtain ⟨v1, e, h⟩ := op_bd h
  refine ow_gR (pc := 6) e dX3_liftAt_6 fd_X3_37 rfl ?_
  obtain ⟨v2, e, h⟩ := op_bd h
  refine ow_gI (pc := 9) e dX3_liftAt_9 fd_X3_45 rfl ?_
  refine aw_icmp_ge (pc := 12) 54 dX3_liftAt_12 (by decide) (fun z => ?_) (fun z => ?_)
  · replace h := (if_pos z).symm.trans h
    refine aw_iload_n (pc := 54) 2 dX3_liftAt_54 rfl ?_
    exact ow_iret (pc := 55) h dX3_liftAt_55 rfl
  · replace h := (if_neg z).symm.trans h
    refine aw_aload_n (pc := 15) 0 dX3_liftAt_15 rfl ?_
    refine aw_iload_n (pc := 16) 3 dX3_liftAt_16 rfl ?_
    refine aw_iload_n (pc := 17) 1 dX3_liftAt_17 rfl ?_
    obtain ⟨r3, e, h⟩ := op_bd h
    refine ow_cVi (pc := 18) [.int x3, .int x1] ((c_X3_runsTo _ _ _ _ _ e).mono (by decide)) (op_ck_sh e) rfl dX3_liftAt_18 cw_X3_121 rfl (Nat.le_of_ble_eq_true rfl) ?_
    refine aw_if_eq (pc := 21) 48 dX3_liftAt_21 (by decide) (fun z => ?_) (fun z => ?_)
    · replace h := (if_pos z).symm.trans h
      exact c_X3_liftAt_48 K4 hK4 _ _ _ _ _ _ h
    · replace h := (if_neg z).symm.trans h
      refine aw_iload_n (pc := 24) 2 dX3_liftAt_24 rfl ?_
      refine aw_aload_n (pc := 25) 0 dX3_liftAt_25 rfl ?_
      obtain ⟨v4, e, h⟩ := op_bd h
      refine ow_gR (pc := 26) e dX3_liftAt_26 fd_X3_9 rfl ?_
      obtain ⟨v5, e, h⟩ := op_bd h
      refine ow_gR (pc := 29) e dX3_liftAt_29 fd_X3_73 rfl ?_
      refine aw_iload_n (pc := 32) 3 dX3_liftAt_32 rfl ?_
      obtain ⟨v6, e, h⟩ := op_bd h
      refine ow_aI (pc := 33) e dX3_liftAt_33 ?_
      refine aw_aload_n (pc := 34) 0 dX3_liftAt_34 rfl ?_
      obtain ⟨v7, e, h⟩ := op_bd h
      refine ow_gR (pc := 35) e dX3_liftAt_35 fd_X3_9 rfl ?_
      obtain ⟨v8, e, h⟩ := op_bd h
      refine ow_gR (pc := 38) e dX3_liftAt_38 fd_X3_70 rfl ?_
      refine aw_iload_n (pc := 41) 1 dX3_liftAt_41 rfl ?_
      obtain ⟨v9, e, h⟩ := op_bd h
      refine ow_aI (pc := 42) e dX3_liftAt_42 ?_
      refine aw_isub (pc := 43) dX3_liftAt_43 ?_
      refine ow_maxi (pc := 44) dX3_liftAt_44 mt_X3_125 (Nat.le_of_ble_eq_true rfl) ?_
      refine aw_istore_n (pc := 47) [(2, .int (op_maxi x2 (v6 - v9))), (0, .ref x0), (1, .int x1), (3, .int x3)] dX3_liftAt_47 rfl (by decide) rfl ?_
      refine aw_sub [1, 2, 0, 3] rfl ?_
      exact c_X3_liftAt_48 K4 hK4 _ _ _ _ _ _ h
theorem c_X3_liftAt_4 {G : ah_G}   : ∀ (n : Nat) (x0 : Nat) (x1 : Int32) (x2 : Int32) (x3 : Int32) (σ : ah_H) (r : Int32 × ah_H), f_X3_liftAt_4   n x0 x1 x2 x3 σ = some r → AW G m_X3_liftAt 2 0 0 4 [(0, .ref x0), (1, .int x1), (2, .int x2), (3, .int x3)] [] σ (ah_N G (ah_ri r)) := by
  intro n
  induction n with
  | zero => intro x0 x1 x2 x3 σ r h; cases h
  | succ n ih => intro x0 x1 x2 x3 σ r h; exact c_X3_liftAt_4_b   _ ih x0 x1 x2 x3 σ r h
set_option maxRecDepth 100000 in
set_option maxHeartbeats 4000000 in
theorem c_X3_liftAt_0 {G : ah_G}   : ∀ (x0 : Nat) (x1 : Int32) (σ : ah_H) (r : Int32 × ah_H), f_X3_liftAt_0   x0 x1 σ = some r → AW G m_X3_liftAt 2 0 0 0 [(0, .ref x0), (1, .int x1)] [] σ (ah_N G (ah_ri r)) := by
  intro x0 x1 σ r h
  unfold f_X3_liftAt_0 at h
  refine aw_iconst (pc := 0) (v := (0 : Int32)) dX3_liftAt_0 (by decide) ?_
  refine aw_istore_n (pc := 1) [(2, .int (0 : Int32)), (0, .ref x0), (1, .int x1)] dX3_liftAt_1 rfl (by decide) rfl ?_
  refine aw_iconst (pc := 2) (v := (0 : Int32)) dX3_liftAt_2 (by decide) ?_
  refine aw_istore_n (pc := 3) [(3, .int (0 : Int32)), (2, .int (0 : Int32)), (0, .ref x0), (1, .int x1)] dX3_liftAt_3 rfl (by decide) rfl ?_
  refine aw_sub [2, 3, 1, 0] rfl ?_
  exact c_X3_liftAt_4  _ _ _ _ _ _ _ h
theorem c_X3_liftAt {G : ah_G}   (x0 : Nat) (x1 : Int32) (σ : ah_H) (r : Int32 × ah_H) (h : f_X3_liftAt  x0 x1 σ = some r) : AM G m_X3_liftAt 2 0 0 [.ref x0, .int x1] σ (ah_ri r) := aw_enter (by decide) (Nat.le_of_ble_eq_true rfl) (c_X3_liftAt_0 _ _ _ _ (op_ck_k h))
def f_X3_refresh_51  (K10 : Nat → Int32 → ah_H → Option (ah_H)) (x0 : Nat) (x1 : Int32) (s0 : Nat) (s1 : Int32) (s2 : Int64) (σ : ah_H) : Option (ah_H) :=
  (op_sL σ s0 s1 s2).bind fun σ1 => K10 x0 (x1 + (1 : Int32)) σ1
def f_X3_refresh_58   (x0 : Nat) (σ : ah_H) : Option (ah_H) :=
  (op_gR 3 0 σ x0).bind fun v1 => (op_gR 3 6 σ x0).bind fun v2 => (f_X1_run v1 v2 σ).bind fun r3 => (op_gR 3 1 r3 x0).bind fun v4 => (op_gR 3 6 r3 x0).bind fun v5 => (f_X1_run v4 v5 r3).bind fun r6 => (op_pZ 3 2 r6 x0 (1 : Int32)).bind fun σ7 => some σ7
def f_X3_refresh_10_b  (K10 : Nat → Int32 → ah_H → Option (ah_H)) (x0 : Nat) (x1 : Int32) (σ : ah_H) : Option (ah_H) :=
  (op_gR 3 6 σ x0).bind fun v1 => (op_gI 9 0 σ v1).bind fun v2 => if v2 ≤ x1 then (f_X3_refresh_58 x0 σ) else ((op_gR 3 1 σ x0).bind fun v3 => (op_gR 1 2 σ v3).bind fun v4 => (op_gR 3 5 σ x0).bind fun v5 => (op_gR 5 0 σ v5).bind fun v6 => (op_aI σ v6 x1).bind fun v7 => if v7 = (-1 : Int32) then (f_X3_refresh_51 K10 x0 x1 v4 x1 (0 : Int64) σ) else ((f_X3_carriedBy x0 x1 σ).bind fun r8 => f_X3_refresh_51 K10 x0 x1 v4 x1 r8.1 r8.2))
def f_X3_refresh_10   : Nat → Nat → Int32 → ah_H → Option (ah_H)
  | 0, _, _, _ => none
  | n + 1, x0, x1, σ => f_X3_refresh_10_b (f_X3_refresh_10 n) x0 x1 σ
def f_X3_refresh_0   (x0 : Nat) (σ : ah_H) : Option (ah_H) :=
  (op_gI 3 2 σ x0).bind fun v1 => if v1 = 0 then (f_X3_refresh_10 5000 x0 (0 : Int32) σ) else (some σ)
def f_X3_refresh  (x0 : Nat) (σ : ah_H) : Option (ah_H) := op_ck 3 σ x0 (f_X3_refresh_0 x0 σ)
set_option maxRecDepth 100000 in
set_option maxHeartbeats 4000000 in
theorem c_X3_refresh_51 {G : ah_G}  (K10 : Nat → Int32 → ah_H → Option (ah_H)) (hK10 : ∀ (x0 : Nat) (x1 : Int32) (σ : ah_H) (r : ah_H), K10 x0 x1 σ = some r → AW G m_X3_refresh 4 0 0 10 [(0, .ref x0), (1, .int x1)] [] σ (ah_N G (ah_rv r))) : ∀ (x0 : Nat) (x1 : Int32) (s0 : Nat) (s1 : Int32) (s2 : Int64) (σ : ah_H) (r : ah_H), f_X3_refresh_51  K10 x0 x1 s0 s1 s2 σ = some r → AW G m_X3_refresh 4 0 0 51 [(0, .ref x0), (1, .int x1)] [.long s2, .int s1, .ref s0] σ (ah_N G (ah_rv r)) := by
  intro x0 x1 s0 s1 s2 σ r h
  unfold f_X3_refresh_51 at h
  obtain ⟨σ1, e, h⟩ := op_bd h
  refine ow_sL (pc := 51) e dX3_refresh_51 ?_
  refine aw_iinc (pc := 52) 1 [(1, .int (x1 + (1 : Int32))), (0, .ref x0)] (x1 + (1 : Int32)) dX3_refresh_52 rfl rfl (by decide) rfl ?_
  refine aw_goto (pc := 55) 10 dX3_refresh_55 (by decide) ?_
  refine aw_sub [1, 0] rfl ?_
  exact hK10 _ _ _ _ h
set_option maxRecDepth 100000 in
set_option maxHeartbeats 4000000 in
theorem c_X3_refresh_58 {G : ah_G}   : ∀ (x0 : Nat) (σ : ah_H) (r : ah_H), f_X3_refresh_58   x0 σ = some r → AW G m_X3_refresh 4 0 0 58 [(0, .ref x0)] [] σ (ah_N G (ah_rv r)) := by
  intro x0 σ r h
  unfold f_X3_refresh_58 at h
  refine aw_aload_n (pc := 58) 0 dX3_refresh_58 rfl ?_
  obtain ⟨v1, e, h⟩ := op_bd h
  refine ow_gR (pc := 59) e dX3_refresh_59 fd_X3_26 rfl ?_
  refine aw_aload_n (pc := 62) 0 dX3_refresh_62 rfl ?_
  obtain ⟨v2, e, h⟩ := op_bd h
  refine ow_gR (pc := 63) e dX3_refresh_63 fd_X3_37 rfl ?_
  obtain ⟨r3, e, h⟩ := op_bd h
  refine ow_cVv (pc := 66) [.ref v2] ((c_X1_run _ _ _ _ e).mono (by decide)) (op_ck_sh e) rfl dX3_refresh_66 cw_X3_59 rfl (Nat.le_of_ble_eq_true rfl) ?_
  refine aw_aload_n (pc := 69) 0 dX3_refresh_69 rfl ?_
  obtain ⟨v4, e, h⟩ := op_bd h
  refine ow_gR (pc := 70) e dX3_refresh_70 fd_X3_30 rfl ?_
  refine aw_aload_n (pc := 73) 0 dX3_refresh_73 rfl ?_
  obtain ⟨v5, e, h⟩ := op_bd h
  refine ow_gR (pc := 74) e dX3_refresh_74 fd_X3_37 rfl ?_
  obtain ⟨r6, e, h⟩ := op_bd h
  refine ow_cVv (pc := 77) [.ref v5] ((c_X1_run _ _ _ _ e).mono (by decide)) (op_ck_sh e) rfl dX3_refresh_77 cw_X3_59 rfl (Nat.le_of_ble_eq_true rfl) ?_
  refine aw_aload_n (pc := 80) 0 dX3_refresh_80 rfl ?_
  refine aw_iconst (pc := 81) (v := (1 : Int32)) dX3_refresh_81 (by decide) ?_
  obtain ⟨σ7, e, h⟩ := op_bd h
  refine ow_pZ (pc := 82) e dX3_refresh_82 fd_X3_41 ?_
  exact ow_vret (pc := 85) h dX3_refresh_85 rfl
set_option maxRecDepth 100000 in
set_option maxHeartbeats 4000000 in
theorem c_X3_refresh_10_b {G : ah_G}  (K10 : Nat → Int32 → ah_H → Option (ah_H)) (hK10 : ∀ (x0 : Nat) (x1 : Int32) (σ : ah_H) (r : ah_H), K10 x0 x1 σ = some r → AW G m_X3_refresh 4 0 0 10 [(0, .ref x0), (1, .int x1)] [] σ (ah_N G (ah_rv r))) : ∀ (x0 : Nat) (x1 : Int32) (σ : ah_H) (r : ah_H), f_X3_refresh_10_b  K10 x0 x1 σ = some r → AW G m_X3_refresh 4 0 0 10 [(0, .ref x0), (1, .int x1)] [] σ (ah_N G (ah_rv r)) := by
  intro x0 x1 σ r h
  unfold f_X3_refresh_10_b at h
  refine aw_iload_n (pc := 10) 1 dX3_refresh_10 rfl ?_
  refine aw_aload_n (pc := 11) 0 dX3_refresh_11 rfl ?_
  obtain ⟨v1, e, h⟩ := op_bd h
  refine ow_gR (pc := 12) e dX3_refresh_12 fd_X3_37 rfl ?_
  obtain ⟨v2, e, h⟩ := op_bd h
  refine ow_gI (pc := 15) e dX3_refresh_15 fd_X3_45 rfl ?_
  refine aw_icmp_ge (pc := 18) 58 dX3_refresh_18 (by decide) (fun z => ?_) (fun z => ?_)
  · replace h := (if_pos z).symm.trans h
    refine aw_sub [0] rfl ?_
    exact c_X3_refresh_58  _ _ _ h
  · replace h := (if_neg z).symm.trans h
    refine aw_aload_n (pc := 21) 0 dX3_refresh_21 rfl ?_
    obtain ⟨v3, e, h⟩ := op_bd h
    refine ow_gR (pc := 22) e dX3_refresh_22 fd_X3_30 rfl ?_
    obtain ⟨v4, e, h⟩ := op_bd h
    refine ow_gR (pc := 25) e dX3_refresh_25 fd_X3_51 rfl ?_
    refine aw_iload_n (pc := 28) 1 dX3_refresh_28 rfl ?_
    refine aw_aload_n (pc := 29) 0 dX3_refresh_29 rfl ?_
    obtain ⟨v5, e, h⟩ := op_bd h
    refine ow_gR (pc := 30) e dX3_refresh_30 fd_X3_9 rfl ?_
    obtain ⟨v6, e, h⟩ := op_bd h
    refine ow_gR (pc := 33) e dX3_refresh_33 fd_X3_17 rfl ?_
    refine aw_iload_n (pc := 36) 1 dX3_refresh_36 rfl ?_
    obtain ⟨v7, e, h⟩ := op_bd h
    refine ow_aI (pc := 37) e dX3_refresh_37 ?_
    refine aw_iconst (pc := 38) (v := (-1 : Int32)) dX3_refresh_38 (by decide) ?_
    refine aw_icmp_ne (pc := 39) 46 dX3_refresh_39 (by decide) (fun z => ?_) (fun z => ?_)
    · replace h := (if_neg z).symm.trans h
      refine aw_aload_n (pc := 46) 0 dX3_refresh_46 rfl ?_
      refine aw_iload_n (pc := 47) 1 dX3_refresh_47 rfl ?_
      obtain ⟨r8, e, h⟩ := op_bd h
      refine ow_cVl (pc := 48) [.int x1] ((c_X3_carriedBy _ _ _ _ e).mono (by decide)) (op_ck_sh e) rfl dX3_refresh_48 cw_X3_55 rfl (Nat.le_of_ble_eq_true rfl) ?_
      exact c_X3_refresh_51 K10 hK10 _ _ _ _ _ _ _ h
    · replace h := (if_pos z).symm.trans h
      refine aw_lconst (pc := 42) (v := (0 : Int64)) dX3_refresh_42 (by decide) ?_
      refine aw_goto (pc := 43) 51 dX3_refresh_43 (by decide) ?_
      exact c_X3_refresh_51 K10 hK10 _ _ _ _ _ _ _ h
theorem c_X3_refresh_10 {G : ah_G}   : ∀ (n : Nat) (x0 : Nat) (x1 : Int32) (σ : ah_H) (r : ah_H), f_X3_refresh_10   n x0 x1 σ = some r → AW G m_X3_refresh 4 0 0 10 [(0, .ref x0), (1, .int x1)] [] σ (ah_N G (ah_rv r)) := by
  intro n
  induction n with
  | zero => intro x0 x1 σ r h; cases h
  | succ n ih => intro x0 x1 σ r h; exact c_X3_refresh_10_b   _ ih x0 x1 σ r h
set_option maxRecDepth 100000 in
set_option maxHeartbeats 4000000 in
theorem c_X3_refresh_0 {G : ah_G}   : ∀ (x0 : Nat) (σ : ah_H) (r : ah_H), f_X3_refresh_0   x0 σ = some r → AW G m_X3_refresh 4 0 0 0 [(0, .ref x0)] [] σ (ah_N G (ah_rv r)) := by
  intro x0 σ r h
  unfold f_X3_refresh_0 at h
  refine aw_aload_n (pc := 0) 0 dX3_refresh_0 rfl ?_
  obtain ⟨v1, e, h⟩ := op_bd h
  refine ow_gI (pc := 1) e dX3_refresh_1 fd_X3_41 rfl ?_
  refine aw_if_eq (pc := 4) 8 dX3_refresh_4 (by decide) (fun z => ?_) (fun z => ?_)
  · replace h := (if_pos z).symm.trans h
    refine aw_iconst (pc := 8) (v := (0 : Int32)) dX3_refresh_8 (by decide) ?_
    refine aw_istore_n (pc := 9) [(1, .int (0 : Int32)), (0, .ref x0)] dX3_refresh_9 rfl (by decide) rfl ?_
    refine aw_sub [1, 0] rfl ?_
    exact c_X3_refresh_10  _ _ _ _ _ h
  · replace h := (if_neg z).symm.trans h
    exact ow_vret (pc := 7) h dX3_refresh_7 rfl
theorem c_X3_refresh {G : ah_G}   (x0 : Nat) (σ : ah_H) (r : ah_H) (h : f_X3_refresh  x0 σ = some r) : AM G m_X3_refresh 4 0 0 [.ref x0] σ (ah_rv r) := aw_enter (by decide) (Nat.le_of_ble_eq_true rfl) (c_X3_refresh_0 _ _ _ (op_ck_k h))
def f_X3_pumpCost_0   (x0 : Nat) (x1 : Int32) (σ : ah_H) : Option (Int64 × ah_H) :=
  (f_X3_liftAt x0 x1 σ).bind fun r1 => if r1.1 = 0 then (some ((0 : Int64), r1.2)) else ((f_X3_refresh x0 r1.2).bind fun r2 => (op_gR 3 6 r2 x0).bind fun v3 => (op_gR 9 15 r2 v3).bind fun v4 => (op_gR 3 0 r2 x0).bind fun v5 => (f_X1_greatest v5 x1 r2).bind fun r6 => (f_X4_pumps v4 r1.1 r6.1 r6.2).bind fun r7 => some (r7.1, r7.2))
def f_X3_pumpCost  (x0 : Nat) (x1 : Int32) (σ : ah_H) : Option (Int64 × ah_H) := op_ck 3 σ x0 (f_X3_pumpCost_0 x0 x1 σ)
set_option maxRecDepth 100000 in
set_option maxHeartbeats 4000000 in
theorem c_X3_pumpCost_0 {G : ah_G}   : ∀ (x0 : Nat) (x1 : Int32) (σ : ah_H) (r : Int64 × ah_H), f_X3_pumpCost_0   x0 x1 σ = some r → AW G m_X3_pumpCost 5 0 0 0 [(0, .ref x0), (1, .int x1)] [] σ (ah_N G (ah_rl r)) := by
  intro x0 x1 σ r h
  unfold f_X3_pumpCost_0 at h
  refine aw_aload_n (pc := 0) 0 dX3_pumpCost_0 rfl ?_
  refine aw_iload_n (pc := 1) 1 dX3_pumpCost_1 rfl ?_
  obtain ⟨r1, e, h⟩ := op_bd h
  refine ow_cVi (pc := 2) [.int x1] ((c_X3_liftAt _ _ _ _ e).mono (by decide)) (op_ck_sh e) rfl dX3_pumpCost_2 cw_X3_108 rfl (Nat.le_of_ble_eq_true rfl) ?_
  refine aw_istore_n (pc := 5) [(2, .int r1.1), (0, .ref x0), (1, .int x1)] dX3_pumpCost_5 rfl (by decide) rfl ?_
  refine aw_iload_n (pc := 6) 0 dX3_pumpCost_6 rfl ?_
  refine aw_if_ne (pc := 7) 12 dX3_pumpCost_7 (by decide) (fun z => ?_) (fun z => ?_)
  · replace h := (if_neg z).symm.trans h
    refine aw_aload_n (pc := 12) 1 dX3_pumpCost_12 rfl ?_
    obtain ⟨r2, e, h⟩ := op_bd h
    refine ow_cVv (pc := 13) [] ((c_X3_refresh _ _ _ e).mono (by decide)) (op_ck_sh e) rfl dX3_pumpCost_13 cw_X3_111 rfl (Nat.le_of_ble_eq_true rfl) ?_
    refine aw_aload_n (pc := 16) 1 dX3_pumpCost_16 rfl ?_
    obtain ⟨v3, e, h⟩ := op_bd h
    refine ow_gR (pc := 17) e dX3_pumpCost_17 fd_X3_37 rfl ?_
    obtain ⟨v4, e, h⟩ := op_bd h
    refine ow_gR (pc := 20) e dX3_pumpCost_20 fd_X3_82 rfl ?_
    refine aw_iload_n (pc := 23) 0 dX3_pumpCost_23 rfl ?_
    refine aw_aload_n (pc := 24) 1 dX3_pumpCost_24 rfl ?_
    obtain ⟨v5, e, h⟩ := op_bd h
    refine ow_gR (pc := 25) e dX3_pumpCost_25 fd_X3_26 rfl ?_
    refine aw_iload_n (pc := 28) 2 dX3_pumpCost_28 rfl ?_
    obtain ⟨r6, e, h⟩ := op_bd h
    refine ow_cVl (pc := 29) [.int x1] ((c_X1_greatest _ _ _ _ e).mono (by decide)) (op_ck_sh e) rfl dX3_pumpCost_29 cw_X3_114 rfl (Nat.le_of_ble_eq_true rfl) ?_
    obtain ⟨r7, e, h⟩ := op_bd h
    refine ow_cVl (pc := 32) [.int r1.1, .long r6.1] ((c_X4_pumps _ _ _ _ _ e).mono (by decide)) (op_ck_sh e) rfl dX3_pumpCost_32 cw_X3_117 rfl (Nat.le_of_ble_eq_true rfl) ?_
    exact ow_lret (pc := 35) h dX3_pumpCost_35 rfl
  · replace h := (if_pos z).symm.trans h
    refine aw_lconst (pc := 10) (v := (0 : Int64)) dX3_pumpCost_10 (by decide) ?_
    exact ow_lret (pc := 11) h dX3_pumpCost_11 rfl
theorem c_X3_pumpCost {G : ah_G}   (x0 : Nat) (x1 : Int32) (σ : ah_H) (r : Int64 × ah_H) (h : f_X3_pumpCost  x0 x1 σ = some r) : AM G m_X3_pumpCost 5 0 0 [.ref x0, .int x1] σ (ah_rl r) := aw_enter (by decide) (Nat.le_of_ble_eq_true rfl) (c_X3_pumpCost_0 _ _ _ _ (op_ck_k h))
def f_X11_cost_0   (x0 : Nat) (x1 : Int32) (x2 : Int32) (σ : ah_H) : Option (Int64 × ah_H) :=
  (f_X11_hasPipe x0 x1 σ).bind fun r1 => if r1.1 = 0 then (some ((-1 : Int64), r1.2)) else (if x2 < 0 then (some ((-1 : Int64), r1.2)) else (if x2 ≤ (1 : Int32) then (if x2 = 0 then ((op_gR 11 6 r1.2 x0).bind fun v4 => (f_X3_pipeCost v4 x1 r1.2).bind fun r5 => some (r5.1, r5.2)) else ((op_gR 11 6 r1.2 x0).bind fun v2 => (f_X3_pumpCost v2 x1 r1.2).bind fun r3 => some (r3.1, r3.2))) else (some ((-1 : Int64), r1.2))))
def f_X11_cost  (x0 : Nat) (x1 : Int32) (x2 : Int32) (σ : ah_H) : Option (Int64 × ah_H) := op_ck 11 σ x0 (f_X11_cost_0 x0 x1 x2 σ)
set_option maxRecDepth 100000 in
set_option maxHeartbeats 4000000 in
theorem c_X11_cost_0 {G : ah_G}   : ∀ (x0 : Nat) (x1 : Int32) (x2 : Int32) (σ : ah_H) (r : Int64 × ah_H), f_X11_cost_0   x0 x1 x2 σ = some r → AW G m_X11_cost 6 0 0 0 [(0, .ref x0), (1, .int x1), (2, .int x2)] [] σ (ah_N G (ah_rl r)) := by
  intro x0 x1 x2 σ r h
  unfold f_X11_cost_0 at h
  refine aw_aload_n (pc := 0) 0 dX11_cost_0 rfl ?_
  refine aw_iload_n (pc := 1) 1 dX11_cost_1 rfl ?_
  obtain ⟨r1, e, h⟩ := op_bd h
  refine ow_cVi (pc := 2) [.int x1] ((c_X11_hasPipe _ _ _ _ e).mono (by decide)) (op_ck_sh e) rfl dX11_cost_2 cw_X11_137 rfl (Nat.le_of_ble_eq_true rfl) ?_
  refine aw_if_eq (pc := 5) 17 dX11_cost_5 (by decide) (fun z => ?_) (fun z => ?_)
  · replace h := (if_pos z).symm.trans h
    refine aw_ldc2 (pc := 17) dX11_cost_17 kl_X11_166 ?_
    exact ow_lret (pc := 20) h dX11_cost_20 rfl
  · replace h := (if_neg z).symm.trans h
    refine aw_iload_n (pc := 8) 2 dX11_cost_8 rfl ?_
    refine aw_if_lt (pc := 9) 17 dX11_cost_9 (by decide) (fun z => ?_) (fun z => ?_)
    · replace h := (if_pos z).symm.trans h
      refine aw_ldc2 (pc := 17) dX11_cost_17 kl_X11_166 ?_
      exact ow_lret (pc := 20) h dX11_cost_20 rfl
    · replace h := (if_neg z).symm.trans h
      refine aw_iload_n (pc := 12) 2 dX11_cost_12 rfl ?_
      refine aw_iconst (pc := 13) (v := (1 : Int32)) dX11_cost_13 (by decide) ?_
      refine aw_icmp_le (pc := 14) 21 dX11_cost_14 (by decide) (fun z => ?_) (fun z => ?_)
      · replace h := (if_pos z).symm.trans h
        refine aw_iload_n (pc := 21) 2 dX11_cost_21 rfl ?_
        refine aw_if_ne (pc := 22) 36 dX11_cost_22 (by decide) (fun z => ?_) (fun z => ?_)
        · replace h := (if_neg z).symm.trans h
          refine aw_aload_n (pc := 36) 0 dX11_cost_36 rfl ?_
          obtain ⟨v2, e, h⟩ := op_bd h
          refine ow_gR (pc := 37) e dX11_cost_37 fd_X11_48 rfl ?_
          refine aw_iload_n (pc := 40) 1 dX11_cost_40 rfl ?_
          obtain ⟨r3, e, h⟩ := op_bd h
          refine ow_cVl (pc := 41) [.int x1] ((c_X3_pumpCost _ _ _ _ e).mono (by decide)) (op_ck_sh e) rfl dX11_cost_41 cw_X11_171 rfl (Nat.le_of_ble_eq_true rfl) ?_
          exact ow_lret (pc := 44) h dX11_cost_44 rfl
        · replace h := (if_pos z).symm.trans h
          refine aw_aload_n (pc := 25) 0 dX11_cost_25 rfl ?_
          obtain ⟨v4, e, h⟩ := op_bd h
          refine ow_gR (pc := 26) e dX11_cost_26 fd_X11_48 rfl ?_
          refine aw_iload_n (pc := 29) 1 dX11_cost_29 rfl ?_
          obtain ⟨r5, e, h⟩ := op_bd h
          refine ow_cVl (pc := 30) [.int x1] ((c_X3_pipeCost _ _ _ _ e).mono (by decide)) (op_ck_sh e) rfl dX11_cost_30 cw_X11_168 rfl (Nat.le_of_ble_eq_true rfl) ?_
          refine aw_goto (pc := 33) 44 dX11_cost_33 (by decide) ?_
          exact ow_lret (pc := 44) h dX11_cost_44 rfl
      · replace h := (if_neg z).symm.trans h
        refine aw_ldc2 (pc := 17) dX11_cost_17 kl_X11_166 ?_
        exact ow_lret (pc := 20) h dX11_cost_20 rfl
theorem c_X11_cost {G : ah_G}   (x0 : Nat) (x1 : Int32) (x2 : Int32) (σ : ah_H) (r : Int64 × ah_H) (h : f_X11_cost  x0 x1 x2 σ = some r) : AM G m_X11_cost 6 0 0 [.ref x0, .int x1, .int x2] σ (ah_rl r) := aw_enter (by decide) (Nat.le_of_ble_eq_true rfl) (c_X11_cost_0 _ _ _ _ _ (op_ck_k h))
def f_X11_all_43  (K4 : Nat → Int64 → Int32 → ah_H → Option (Int64 × ah_H)) (x0 : Nat) (x1 : Int64) (x3 : Int32) (σ : ah_H) : Option (Int64 × ah_H) :=
  K4 x0 x1 (x3 + (1 : Int32)) σ
def f_X11_all_4_b  (K4 : Nat → Int64 → Int32 → ah_H → Option (Int64 × ah_H)) (x0 : Nat) (x1 : Int64) (x3 : Int32) (σ : ah_H) : Option (Int64 × ah_H) :=
  (op_gR 11 2 σ x0).bind fun v1 => (op_gI 9 0 σ v1).bind fun v2 => if v2 ≤ x3 then (some (x1, σ)) else ((f_X11_hasPipe x0 x3 σ).bind fun r3 => if r3.1 = 0 then (f_X11_all_43 K4 x0 x1 x3 r3.2) else ((op_gR 11 6 r3.2 x0).bind fun v4 => (f_X3_pipeCost v4 x3 r3.2).bind fun r5 => (op_gR 11 6 r5.2 x0).bind fun v6 => (f_X3_pumpCost v6 x3 r5.2).bind fun r7 => f_X11_all_43 K4 x0 (x1 + (r5.1 + r7.1)) x3 r7.2))
def f_X11_all_4   : Nat → Nat → Int64 → Int32 → ah_H → Option (Int64 × ah_H)
  | 0, _, _, _, _ => none
  | n + 1, x0, x1, x3, σ => f_X11_all_4_b (f_X11_all_4 n) x0 x1 x3 σ
def f_X11_all_0   (x0 : Nat) (σ : ah_H) : Option (Int64 × ah_H) :=
  f_X11_all_4 5000 x0 (0 : Int64) (0 : Int32) σ
def f_X11_all  (x0 : Nat) (σ : ah_H) : Option (Int64 × ah_H) := op_ck 11 σ x0 (f_X11_all_0 x0 σ)
set_option maxRecDepth 100000 in
set_option maxHeartbeats 4000000 in
theorem c_X11_all_43 {G : ah_G}  (K4 : Nat → Int64 → Int32 → ah_H → Option (Int64 × ah_H)) (hK4 : ∀ (x0 : Nat) (x1 : Int64) (x3 : Int32) (σ : ah_H) (r : Int64 × ah_H), K4 x0 x1 x3 σ = some r → AW G m_X11_all 6 0 0 4 [(0, .ref x0), (1, .long x1), (3, .int x3)] [] σ (ah_N G (ah_rl r))) : ∀ (x0 : Nat) (x1 : Int64) (x3 : Int32) (σ : ah_H) (r : Int64 × ah_H), f_X11_all_43  K4 x0 x1 x3 σ = some r → AW G m_X11_all 6 0 0 43 [(0, .ref x0), (1, .long x1), (3, .int x3)] [] σ (ah_N G (ah_rl r)) := by
  intro x0 x1 x3 σ r h
  unfold f_X11_all_43 at h
  refine aw_iinc (pc := 43) 2 [(3, .int (x3 + (1 : Int32))), (0, .ref x0), (1, .long x1)] (x3 + (1 : Int32)) dX11_all_43 rfl rfl (by decide) rfl ?_
  refine aw_goto (pc := 46) 4 dX11_all_46 (by decide) ?_
  refine aw_sub [1, 2, 0] rfl ?_
  exact hK4 _ _ _ _ _ h
set_option maxRecDepth 100000 in
set_option maxHeartbeats 4000000 in
theorem c_X11_all_4_b {G : ah_G}  (K4 : Nat → Int64 → Int32 → ah_H → Option (Int64 × ah_H)) (hK4 : ∀ (x0 : Nat) (x1 : Int64) (x3 : Int32) (σ : ah_H) (r : Int64 × ah_H), K4 x0 x1 x3 σ = some r → AW G m_X11_all 6 0 0 4 [(0, .ref x0), (1, .long x1), (3, .int x3)] [] σ (ah_N G (ah_rl r))) : ∀ (x0 : Nat) (x1 : Int64) (x3 : Int32) (σ : ah_H) (r : Int64 × ah_H), f_X11_all_4_b  K4 x0 x1 x3 σ = some r → AW G m_X11_all 6 0 0 4 [(0, .ref x0), (1, .long x1), (3, .int x3)] [] σ (ah_N G (ah_rl r)) := by
  intro x0 x1 x3 σ r h
  unfold f_X11_all_4_b at h
  refine aw_iload_n (pc := 4) 2 dX11_all_4 rfl ?_
  refine aw_aload_n (pc := 5) 0 dX11_all_5 rfl ?_
  obtain ⟨v1, e, h⟩ := op_bd h
  refine ow_gR (pc := 6) e dX11_all_6 fd_X11_20 rfl ?_
  obtain ⟨v2, e, h⟩ := op_bd h
  refine ow_gI (pc := 9) e dX11_all_9 fd_X11_174 rfl ?_
  refine aw_icmp_ge (pc := 12) 49 dX11_all_12 (by decide) (fun z => ?_) (fun z => ?_)
  · replace h := (if_pos z).symm.trans h
    refine aw_lload_n (pc := 49) 1 dX11_all_49 rfl ?_
    exact ow_lret (pc := 50) h dX11_all_50 rfl
  · replace h := (if_neg z).symm.trans h
    refine aw_aload_n (pc := 15) 0 dX11_all_15 rfl ?_
    refine aw_iload_n (pc := 16) 2 dX11_all_16 rfl ?_
    obtain ⟨r3, e, h⟩ := op_bd h
    refine ow_cVi (pc := 17) [.int x3] ((c_X11_hasPipe _ _ _ _ e).mono (by decide)) (op_ck_sh e) rfl dX11_all_17 cw_X11_137 rfl (Nat.le_of_ble_eq_true rfl) ?_
    refine aw_if_eq (pc := 20) 43 dX11_all_20 (by decide) (fun z => ?_) (fun z => ?_)
    · replace h := (if_pos z).symm.trans h
      exact c_X11_all_43 K4 hK4 _ _ _ _ _ h
    · replace h := (if_neg z).symm.trans h
      refine aw_lload_n (pc := 23) 1 dX11_all_23 rfl ?_
      refine aw_aload_n (pc := 24) 0 dX11_all_24 rfl ?_
      obtain ⟨v4, e, h⟩ := op_bd h
      refine ow_gR (pc := 25) e dX11_all_25 fd_X11_48 rfl ?_
      refine aw_iload_n (pc := 28) 2 dX11_all_28 rfl ?_
      obtain ⟨r5, e, h⟩ := op_bd h
      refine ow_cVl (pc := 29) [.int x3] ((c_X3_pipeCost _ _ _ _ e).mono (by decide)) (op_ck_sh e) rfl dX11_all_29 cw_X11_168 rfl (Nat.le_of_ble_eq_true rfl) ?_
      refine aw_aload_n (pc := 32) 0 dX11_all_32 rfl ?_
      obtain ⟨v6, e, h⟩ := op_bd h
      refine ow_gR (pc := 33) e dX11_all_33 fd_X11_48 rfl ?_
      refine aw_iload_n (pc := 36) 2 dX11_all_36 rfl ?_
      obtain ⟨r7, e, h⟩ := op_bd h
      refine ow_cVl (pc := 37) [.int x3] ((c_X3_pumpCost _ _ _ _ e).mono (by decide)) (op_ck_sh e) rfl dX11_all_37 cw_X11_171 rfl (Nat.le_of_ble_eq_true rfl) ?_
      refine aw_ladd (pc := 40) dX11_all_40 ?_
      refine aw_ladd (pc := 41) dX11_all_41 ?_
      refine aw_lstore_n (pc := 42) [(1, .long (x1 + (r5.1 + r7.1))), (0, .ref x0), (3, .int x3)] dX11_all_42 rfl (by decide) rfl ?_
      refine aw_sub [1, 0, 2] rfl ?_
      exact c_X11_all_43 K4 hK4 _ _ _ _ _ h
theorem c_X11_all_4 {G : ah_G}   : ∀ (n : Nat) (x0 : Nat) (x1 : Int64) (x3 : Int32) (σ : ah_H) (r : Int64 × ah_H), f_X11_all_4   n x0 x1 x3 σ = some r → AW G m_X11_all 6 0 0 4 [(0, .ref x0), (1, .long x1), (3, .int x3)] [] σ (ah_N G (ah_rl r)) := by
  intro n
  induction n with
  | zero => intro x0 x1 x3 σ r h; cases h
  | succ n ih => intro x0 x1 x3 σ r h; exact c_X11_all_4_b   _ ih x0 x1 x3 σ r h
set_option maxRecDepth 100000 in
set_option maxHeartbeats 4000000 in
theorem c_X11_all_0 {G : ah_G}   : ∀ (x0 : Nat) (σ : ah_H) (r : Int64 × ah_H), f_X11_all_0   x0 σ = some r → AW G m_X11_all 6 0 0 0 [(0, .ref x0)] [] σ (ah_N G (ah_rl r)) := by
  intro x0 σ r h
  unfold f_X11_all_0 at h
  refine aw_lconst (pc := 0) (v := (0 : Int64)) dX11_all_0 (by decide) ?_
  refine aw_lstore_n (pc := 1) [(1, .long (0 : Int64)), (0, .ref x0)] dX11_all_1 rfl (by decide) rfl ?_
  refine aw_iconst (pc := 2) (v := (0 : Int32)) dX11_all_2 (by decide) ?_
  refine aw_istore_n (pc := 3) [(3, .int (0 : Int32)), (1, .long (0 : Int64)), (0, .ref x0)] dX11_all_3 rfl (by decide) rfl ?_
  refine aw_sub [2, 1, 0] rfl ?_
  exact c_X11_all_4  _ _ _ _ _ _ h
theorem c_X11_all {G : ah_G}   (x0 : Nat) (σ : ah_H) (r : Int64 × ah_H) (h : f_X11_all  x0 σ = some r) : AM G m_X11_all 6 0 0 [.ref x0] σ (ah_rl r) := aw_enter (by decide) (Nat.le_of_ble_eq_true rfl) (c_X11_all_0 _ _ _ (op_ck_k h))
def f_X3_isCovered_0   (x0 : Nat) (x1 : Int32) (σ : ah_H) : Option (Int32 × ah_H) :=
  (op_gR 3 6 σ x0).bind fun v1 => (op_gR 9 12 σ v1).bind fun v2 => (op_aI σ v2 (0 : Int32)).bind fun v3 => if x1 < v3 then ((op_rz (0 : Int32)).map fun q => (q, σ)) else ((op_gR 3 6 σ x0).bind fun v4 => (op_gR 9 12 σ v4).bind fun v5 => (op_aI σ v5 (1 : Int32)).bind fun v6 => if v6 < x1 then ((op_rz (0 : Int32)).map fun q => (q, σ)) else ((op_rz (1 : Int32)).map fun q => (q, σ)))
def f_X3_isCovered  (x0 : Nat) (x1 : Int32) (σ : ah_H) : Option (Int32 × ah_H) := op_ck 3 σ x0 (f_X3_isCovered_0 x0 x1 σ)
set_option maxRecDepth 100000 in
set_option maxHeartbeats 4000000 in
theorem c_X3_isCovered_0 {G : ah_G}   : ∀ (x0 : Nat) (x1 : Int32) (σ : ah_H) (r : Int32 × ah_H), f_X3_isCovered_0   x0 x1 σ = some r → AW G m_X3_isCovered 0 0 0 0 [(0, .ref x0), (1, .int x1)] [] σ (ah_N G (ah_ri r)) := by
  intro x0 x1 σ r h
  unfold f_X3_isCovered_0 at h
  refine aw_iload_n (pc := 0) 1 dX3_isCovered_0 rfl ?_
  refine aw_aload_n (pc := 1) 0 dX3_isCovered_1 rfl ?_
  obtain ⟨v1, e, h⟩ := op_bd h
  refine ow_gR (pc := 2) e dX3_isCovered_2 fd_X3_37 rfl ?_
  obtain ⟨v2, e, h⟩ := op_bd h
  refine ow_gR (pc := 5) e dX3_isCovered_5 fd_X3_130 rfl ?_
  refine aw_iconst (pc := 8) (v := (0 : Int32)) dX3_isCovered_8 (by decide) ?_
  obtain ⟨v3, e, h⟩ := op_bd h
  refine ow_aI (pc := 9) e dX3_isCovered_9 ?_
  refine aw_icmp_lt (pc := 10) 30 dX3_isCovered_10 (by decide) (fun z => ?_) (fun z => ?_)
  · replace h := (if_pos z).symm.trans h
    refine aw_iconst (pc := 30) (v := (0 : Int32)) dX3_isCovered_30 (by decide) ?_
    exact ow_zret (pc := 31) h dX3_isCovered_31 rfl
  · replace h := (if_neg z).symm.trans h
    refine aw_iload_n (pc := 13) 1 dX3_isCovered_13 rfl ?_
    refine aw_aload_n (pc := 14) 0 dX3_isCovered_14 rfl ?_
    obtain ⟨v4, e, h⟩ := op_bd h
    refine ow_gR (pc := 15) e dX3_isCovered_15 fd_X3_37 rfl ?_
    obtain ⟨v5, e, h⟩ := op_bd h
    refine ow_gR (pc := 18) e dX3_isCovered_18 fd_X3_130 rfl ?_
    refine aw_iconst (pc := 21) (v := (1 : Int32)) dX3_isCovered_21 (by decide) ?_
    obtain ⟨v6, e, h⟩ := op_bd h
    refine ow_aI (pc := 22) e dX3_isCovered_22 ?_
    refine aw_icmp_gt (pc := 23) 30 dX3_isCovered_23 (by decide) (fun z => ?_) (fun z => ?_)
    · replace h := (if_pos z).symm.trans h
      refine aw_iconst (pc := 30) (v := (0 : Int32)) dX3_isCovered_30 (by decide) ?_
      exact ow_zret (pc := 31) h dX3_isCovered_31 rfl
    · replace h := (if_neg z).symm.trans h
      refine aw_iconst (pc := 26) (v := (1 : Int32)) dX3_isCovered_26 (by decide) ?_
      refine aw_goto (pc := 27) 31 dX3_isCovered_27 (by decide) ?_
      exact ow_zret (pc := 31) h dX3_isCovered_31 rfl
theorem c_X3_isCovered {G : ah_G}   (x0 : Nat) (x1 : Int32) (σ : ah_H) (r : Int32 × ah_H) (h : f_X3_isCovered  x0 x1 σ = some r) : AM G m_X3_isCovered 0 0 0 [.ref x0, .int x1] σ (ah_ri r) := aw_enter (by decide) (Nat.le_of_ble_eq_true rfl) (c_X3_isCovered_0 _ _ _ _ (op_ck_k h))
def f_X3_meetsWider_45  (K2 : Nat → Int32 → Int32 → ah_H → Option (Int32 × ah_H)) (x0 : Nat) (x1 : Int32) (x2 : Int32) (σ : ah_H) : Option (Int32 × ah_H) :=
  K2 x0 x1 (x2 + (1 : Int32)) σ
def f_X3_meetsWider_2_b  (K2 : Nat → Int32 → Int32 → ah_H → Option (Int32 × ah_H)) (x0 : Nat) (x1 : Int32) (x2 : Int32) (σ : ah_H) : Option (Int32 × ah_H) :=
  (op_gR 3 6 σ x0).bind fun v1 => (op_gI 9 0 σ v1).bind fun v2 => if v2 ≤ x2 then ((op_rz (0 : Int32)).map fun q => (q, σ)) else ((f_X3_runsTo x0 x2 x1 σ).bind fun r3 => if r3.1 = 0 then (f_X3_meetsWider_45 K2 x0 x1 x2 r3.2) else ((op_gR 3 5 r3.2 x0).bind fun v4 => (op_gR 5 1 r3.2 v4).bind fun v5 => (op_aI r3.2 v5 x2).bind fun v6 => (op_gR 3 5 r3.2 x0).bind fun v7 => (op_gR 5 1 r3.2 v7).bind fun v8 => (op_aI r3.2 v8 x1).bind fun v9 => if v6 ≤ v9 then (f_X3_meetsWider_45 K2 x0 x1 x2 r3.2) else ((op_rz (1 : Int32)).map fun q => (q, r3.2))))
def f_X3_meetsWider_2   : Nat → Nat → Int32 → Int32 → ah_H → Option (Int32 × ah_H)
  | 0, _, _, _, _ => none
  | n + 1, x0, x1, x2, σ => f_X3_meetsWider_2_b (f_X3_meetsWider_2 n) x0 x1 x2 σ
def f_X3_meetsWider_0   (x0 : Nat) (x1 : Int32) (σ : ah_H) : Option (Int32 × ah_H) :=
  f_X3_meetsWider_2 5000 x0 x1 (0 : Int32) σ
def f_X3_meetsWider  (x0 : Nat) (x1 : Int32) (σ : ah_H) : Option (Int32 × ah_H) := op_ck 3 σ x0 (f_X3_meetsWider_0 x0 x1 σ)
set_option maxRecDepth 100000 in
set_option maxHeartbeats 4000000 in
theorem c_X3_meetsWider_45 {G : ah_G}  (K2 : Nat → Int32 → Int32 → ah_H → Option (Int32 × ah_H)) (hK2 : ∀ (x0 : Nat) (x1 : Int32) (x2 : Int32) (σ : ah_H) (r : Int32 × ah_H), K2 x0 x1 x2 σ = some r → AW G m_X3_meetsWider 2 0 0 2 [(0, .ref x0), (1, .int x1), (2, .int x2)] [] σ (ah_N G (ah_ri r))) : ∀ (x0 : Nat) (x1 : Int32) (x2 : Int32) (σ : ah_H) (r : Int32 × ah_H), f_X3_meetsWider_45  K2 x0 x1 x2 σ = some r → AW G m_X3_meetsWider 2 0 0 45 [(0, .ref x0), (1, .int x1), (2, .int x2)] [] σ (ah_N G (ah_ri r)) := by
  intro x0 x1 x2 σ r h
  unfold f_X3_meetsWider_45 at h
  refine aw_iinc (pc := 45) 2 [(2, .int (x2 + (1 : Int32))), (0, .ref x0), (1, .int x1)] (x2 + (1 : Int32)) dX3_meetsWider_45 rfl rfl (by decide) rfl ?_
  refine aw_goto (pc := 48) 2 dX3_meetsWider_48 (by decide) ?_
  refine aw_sub [1, 2, 0] rfl ?_
  exact hK2 _ _ _ _ _ h
set_option maxRecDepth 100000 in
set_option maxHeartbeats 4000000 in
theorem c_X3_meetsWider_2_b {G : ah_G}  (K2 : Nat → Int32 → Int32 → ah_H → Option (Int32 × ah_H)) (hK2 : ∀ (x0 : Nat) (x1 : Int32) (x2 : Int32) (σ : ah_H) (r : Int32 × ah_H), K2 x0 x1 x2 σ = some r → AW G m_X3_meetsWider 2 0 0 2 [(0, .ref x0), (1, .int x1), (2, .int x2)] [] σ (ah_N G (ah_ri r))) : ∀ (x0 : Nat) (x1 : Int32) (x2 : Int32) (σ : ah_H) (r : Int32 × ah_H), f_X3_meetsWider_2_b  K2 x0 x1 x2 σ = some r → AW G m_X3_meetsWider 2 0 0 2 [(0, .ref x0), (1, .int x1), (2, .int x2)] [] σ (ah_N G (ah_ri r)) := by
  intro x0 x1 x2 σ r h
  unfold f_X3_meetsWider_2_b at h
  refine aw_iload_n (pc := 2) 2 dX3_meetsWider_2 rfl ?_
  refine aw_aload_n (pc := 3) 0 dX3_meetsWider_3 rfl ?_
  obtain ⟨v1, e, h⟩ := op_bd h
  refine ow_gR (pc := 4) e dX3_meetsWider_4 fd_X3_37 rfl ?_
  obtain ⟨v2, e, h⟩ := op_bd h
  refine ow_gI (pc := 7) e dX3_meetsWider_7 fd_X3_45 rfl ?_
  refine aw_icmp_ge (pc := 10) 51 dX3_meetsWider_10 (by decide) (fun z => ?_) (fun z => ?_)
  · replace h := (if_pos z).symm.trans h
    refine aw_iconst (pc := 51) (v := (0 : Int32)) dX3_meetsWider_51 (by decide) ?_
    exact ow_zret (pc := 52) h dX3_meetsWider_52 rfl
  · replace h := (if_neg z).symm.trans h
    refine aw_aload_n (pc := 13) 0 dX3_meetsWider_13 rfl ?_
    refine aw_iload_n (pc := 14) 2 dX3_meetsWider_14 rfl ?_
    refine aw_iload_n (pc := 15) 1 dX3_meetsWider_15 rfl ?_
    obtain ⟨r3, e, h⟩ := op_bd h
    refine ow_cVi (pc := 16) [.int x2, .int x1] ((c_X3_runsTo _ _ _ _ _ e).mono (by decide)) (op_ck_sh e) rfl dX3_meetsWider_16 cw_X3_121 rfl (Nat.le_of_ble_eq_true rfl) ?_
    refine aw_if_eq (pc := 19) 45 dX3_meetsWider_19 (by decide) (fun z => ?_) (fun z => ?_)
    · replace h := (if_pos z).symm.trans h
      exact c_X3_meetsWider_45 K2 hK2 _ _ _ _ _ h
    · replace h := (if_neg z).symm.trans h
      refine aw_aload_n (pc := 22) 0 dX3_meetsWider_22 rfl ?_
      obtain ⟨v4, e, h⟩ := op_bd h
      refine ow_gR (pc := 23) e dX3_meetsWider_23 fd_X3_9 rfl ?_
      obtain ⟨v5, e, h⟩ := op_bd h
      refine ow_gR (pc := 26) e dX3_meetsWider_26 fd_X3_79 rfl ?_
      refine aw_iload_n (pc := 29) 2 dX3_meetsWider_29 rfl ?_
      obtain ⟨v6, e, h⟩ := op_bd h
      refine ow_aI (pc := 30) e dX3_meetsWider_30 ?_
      refine aw_aload_n (pc := 31) 0 dX3_meetsWider_31 rfl ?_
      obtain ⟨v7, e, h⟩ := op_bd h
      refine ow_gR (pc := 32) e dX3_meetsWider_32 fd_X3_9 rfl ?_
      obtain ⟨v8, e, h⟩ := op_bd h
      refine ow_gR (pc := 35) e dX3_meetsWider_35 fd_X3_79 rfl ?_
      refine aw_iload_n (pc := 38) 1 dX3_meetsWider_38 rfl ?_
      obtain ⟨v9, e, h⟩ := op_bd h
      refine ow_aI (pc := 39) e dX3_meetsWider_39 ?_
      refine aw_icmp_le (pc := 40) 45 dX3_meetsWider_40 (by decide) (fun z => ?_) (fun z => ?_)
      · replace h := (if_pos z).symm.trans h
        exact c_X3_meetsWider_45 K2 hK2 _ _ _ _ _ h
      · replace h := (if_neg z).symm.trans h
        refine aw_iconst (pc := 43) (v := (1 : Int32)) dX3_meetsWider_43 (by decide) ?_
        exact ow_zret (pc := 44) h dX3_meetsWider_44 rfl
theorem c_X3_meetsWider_2 {G : ah_G}   : ∀ (n : Nat) (x0 : Nat) (x1 : Int32) (x2 : Int32) (σ : ah_H) (r : Int32 × ah_H), f_X3_meetsWider_2   n x0 x1 x2 σ = some r → AW G m_X3_meetsWider 2 0 0 2 [(0, .ref x0), (1, .int x1), (2, .int x2)] [] σ (ah_N G (ah_ri r)) := by
  intro n
  induction n with
  | zero => intro x0 x1 x2 σ r h; cases h
  | succ n ih => intro x0 x1 x2 σ r h; exact c_X3_meetsWider_2_b   _ ih x0 x1 x2 σ r h
set_option maxRecDepth 100000 in
set_option maxHeartbeats 4000000 in
theorem c_X3_meetsWider_0 {G : ah_G}   : ∀ (x0 : Nat) (x1 : Int32) (σ : ah_H) (r : Int32 × ah_H), f_X3_meetsWider_0   x0 x1 σ = some r → AW G m_X3_meetsWider 2 0 0 0 [(0, .ref x0), (1, .int x1)] [] σ (ah_N G (ah_ri r)) := by
  intro x0 x1 σ r h
  unfold f_X3_meetsWider_0 at h
  refine aw_iconst (pc := 0) (v := (0 : Int32)) dX3_meetsWider_0 (by decide) ?_
  refine aw_istore_n (pc := 1) [(2, .int (0 : Int32)), (0, .ref x0), (1, .int x1)] dX3_meetsWider_1 rfl (by decide) rfl ?_
  refine aw_sub [1, 2, 0] rfl ?_
  exact c_X3_meetsWider_2  _ _ _ _ _ _ h
theorem c_X3_meetsWider {G : ah_G}   (x0 : Nat) (x1 : Int32) (σ : ah_H) (r : Int32 × ah_H) (h : f_X3_meetsWider  x0 x1 σ = some r) : AM G m_X3_meetsWider 2 0 0 [.ref x0, .int x1] σ (ah_ri r) := aw_enter (by decide) (Nat.le_of_ble_eq_true rfl) (c_X3_meetsWider_0 _ _ _ _ (op_ck_k h))
def f_X3_lawBrokenBy_128   (x0 : Nat) (x1 : Int32) (σ : ah_H) : Option (Int32 × ah_H) :=
  (f_X3_refresh x0 σ).bind fun r1 => (op_gR 3 0 r1 x0).bind fun v2 => (f_X1_greatest v2 x1 r1).bind fun r3 => (f_X3_carriedBy x0 x1 r3.2).bind fun r4 => if (lg_cmp r3.1 r4.1) ≤ 0 then (some ((0 : Int32), r4.2)) else (some ((6 : Int32), r4.2))
def f_X3_lawBrokenBy_0   (x0 : Nat) (x1 : Int32) (σ : ah_H) : Option (Int32 × ah_H) :=
  (op_gR 3 5 σ x0).bind fun v1 => (op_gR 5 2 σ v1).bind fun v2 => (op_aI σ v2 x1).bind fun v3 => (f_X3_isCovered x0 v3 σ).bind fun r4 => if r4.1 = 0 then (some ((1 : Int32), r4.2)) else ((op_gR 3 5 r4.2 x0).bind fun v5 => (op_gR 5 3 r4.2 v5).bind fun v6 => (op_aI r4.2 v6 x1).bind fun v7 => (f_X3_isCovered x0 v7 r4.2).bind fun r8 => if r8.1 = 0 then (some ((1 : Int32), r8.2)) else ((f_X3_fallOf x0 x1 r8.2).bind fun r9 => (op_gR 3 6 r9.2 x0).bind fun v10 => (op_gR 9 5 r9.2 v10).bind fun v11 => (op_gR 3 5 r9.2 x0).bind fun v12 => (op_gR 5 0 r9.2 v12).bind fun v13 => (op_aI r9.2 v13 x1).bind fun v14 => (op_aR .int r9.2 v11 v14).bind fun v15 => (op_aI r9.2 v15 (2 : Int32)).bind fun v16 => (op_gR 3 6 r9.2 x0).bind fun v17 => (op_gR 9 11 r9.2 v17).bind fun v18 => (op_aI r9.2 v18 (0 : Int32)).bind fun v19 => if (v16 * v19) ≤ r9.1 then ((op_gR 3 6 r9.2 x0).bind fun v20 => (op_gR 9 11 r9.2 v20).bind fun v21 => (op_aI r9.2 v21 (1 : Int32)).bind fun v22 => if r9.1 ≤ (v16 * v22) then ((f_X3_meetsWider x0 x1 r9.2).bind fun r23 => if r23.1 = 0 then ((f_X3_liftAt x0 x1 r23.2).bind fun r24 => if r24.1 ≤ 0 then (f_X3_lawBrokenBy_128 x0 x1 r24.2) else ((op_gR 3 6 r24.2 x0).bind fun v25 => (op_gR 9 15 r24.2 v25).bind fun v26 => (f_X4_isTold v26 (2 : Int32) r24.2).bind fun r27 => if r27.1 = 0 then (some ((5 : Int32), r27.2)) else (f_X3_lawBrokenBy_128 x0 x1 r27.2))) else (some ((4 : Int32), r23.2))) else (some ((3 : Int32), r9.2))) else (some ((2 : Int32), r9.2))))
def f_X3_lawBrokenBy  (x0 : Nat) (x1 : Int32) (σ : ah_H) : Option (Int32 × ah_H) := op_ck 3 σ x0 (f_X3_lawBrokenBy_0 x0 x1 σ)
set_option maxRecDepth 100000 in
set_option maxHeartbeats 4000000 in
theorem c_X3_lawBrokenBy_128 {G : ah_G}   : ∀ (x0 : Nat) (x1 : Int32) (σ : ah_H) (r : Int32 × ah_H), f_X3_lawBrokenBy_128   x0 x1 σ = some r → AW G m_X3_lawBrokenBy 5 0 0 128 [(0, .ref x0), (1, .int x1)] [] σ (ah_N G (ah_ri r)) := by
  intro x0 x1 σ r h
  unfold f_X3_lawBrokenBy_128 at h
  refine aw_aload_n (pc := 128) 0 dX3_lawBrokenBy_128 rfl ?_
  obtain ⟨r1, e, h⟩ := op_bd h
  refine ow_cVv (pc := 129) [] ((c_X3_refresh _ _ _ e).mono (by decide)) (op_ck_sh e) rfl dX3_lawBrokenBy_129 cw_X3_111 rfl (Nat.le_of_ble_eq_true rfl) ?_
  refine aw_aload_n (pc := 132) 0 dX3_lawBrokenBy_132 rfl ?_
  obtain ⟨v2, e, h⟩ := op_bd h
  refine ow_gR (pc := 133) e dX3_lawBrokenBy_133 fd_X3_26 rfl ?_
  refine aw_iload_n (pc := 136) 1 dX3_lawBrokenBy_136 rfl ?_
  obtain ⟨r3, e, h⟩ := op_bd h
  refine ow_cVl (pc := 137) [.int x1] ((c_X1_greatest _ _ _ _ e).mono (by decide)) (op_ck_sh e) rfl dX3_lawBrokenBy_137 cw_X3_114 rfl (Nat.le_of_ble_eq_true rfl) ?_
  refine aw_aload_n (pc := 140) 0 dX3_lawBrokenBy_140 rfl ?_
  refine aw_iload_n (pc := 141) 1 dX3_lawBrokenBy_141 rfl ?_
  obtain ⟨r4, e, h⟩ := op_bd h
  refine ow_cVl (pc := 142) [.int x1] ((c_X3_carriedBy _ _ _ _ e).mono (by decide)) (op_ck_sh e) rfl dX3_lawBrokenBy_142 cw_X3_55 rfl (Nat.le_of_ble_eq_true rfl) ?_
  refine aw_lcmp (pc := 145) dX3_lawBrokenBy_145 ?_
  refine aw_if_le (pc := 146) 154 dX3_lawBrokenBy_146 (by decide) (fun z => ?_) (fun z => ?_)
  · replace h := (if_pos z).symm.trans h
    refine aw_iconst (pc := 154) (v := (0 : Int32)) dX3_lawBrokenBy_154 (by decide) ?_
    exact ow_iret (pc := 155) h dX3_lawBrokenBy_155 rfl
  · replace h := (if_neg z).symm.trans h
    refine aw_bipush (pc := 149) (v := (6 : Int32)) dX3_lawBrokenBy_149 (by decide) ?_
    refine aw_goto (pc := 151) 155 dX3_lawBrokenBy_151 (by decide) ?_
    exact ow_iret (pc := 155) h dX3_lawBrokenBy_155 rfl
set_option maxRecDepth 100000 in
set_option maxHeartbeats 4000000 in
theorem c_X3_lawBrokenBy_0 {G : ah_G}   : ∀ (x0 : Nat) (x1 : Int32) (σ : ah_H) (r : Int32 × ah_H), f_X3_lawBrokenBy_0   x0 x1 σ = some r → AW G m_X3_lawBrokenBy 5 0 0 0 [(0, .ref x0), (1, .int x1)] [] σ (ah_N G (ah_ri r)) := by
  intro x0 x1 σ r h
  unfold f_X3_lawBrokenBy_0 at h
  refine aw_aload_n (pc := 0) 0 dX3_lawBrokenBy_0 rfl ?_
  refine aw_aload_n (pc := 1) 0 dX3_lawBrokenBy_1 rfl ?_
  obtain ⟨v1, e, h⟩ := op_bd h
  refine ow_gR (pc := 2) e dX3_lawBrokenBy_2 fd_X3_9 rfl ?_
  obtain ⟨v2, e, h⟩ := op_bd h
  refine ow_gR (pc := 5) e dX3_lawBrokenBy_5 fd_X3_70 rfl ?_
  refine aw_iload_n (pc := 8) 1 dX3_lawBrokenBy_8 rfl ?_
  obtain ⟨v3, e, h⟩ := op_bd h
  refine ow_aI (pc := 9) e dX3_lawBrokenBy_9 ?_
  obtain ⟨r4, e, h⟩ := op_bd h
  refine ow_cVi (pc := 10) [.int v3] ((c_X3_isCovered _ _ _ _ e).mono (by decide)) (op_ck_sh e) rfl dX3_lawBrokenBy_10 cw_X3_133 rfl (Nat.le_of_ble_eq_true rfl) ?_
  refine aw_if_eq (pc := 13) 32 dX3_lawBrokenBy_13 (by decide) (fun z => ?_) (fun z => ?_)
  · replace h := (if_pos z).symm.trans h
    refine aw_iconst (pc := 32) (v := (1 : Int32)) dX3_lawBrokenBy_32 (by decide) ?_
    exact ow_iret (pc := 33) h dX3_lawBrokenBy_33 rfl
  · replace h := (if_neg z).symm.trans h
    refine aw_aload_n (pc := 16) 0 dX3_lawBrokenBy_16 rfl ?_
    refine aw_aload_n (pc := 17) 0 dX3_lawBrokenBy_17 rfl ?_
    obtain ⟨v5, e, h⟩ := op_bd h
    refine ow_gR (pc := 18) e dX3_lawBrokenBy_18 fd_X3_9 rfl ?_
    obtain ⟨v6, e, h⟩ := op_bd h
    refine ow_gR (pc := 21) e dX3_lawBrokenBy_21 fd_X3_73 rfl ?_
    refine aw_iload_n (pc := 24) 1 dX3_lawBrokenBy_24 rfl ?_
    obtain ⟨v7, e, h⟩ := op_bd h
    refine ow_aI (pc := 25) e dX3_lawBrokenBy_25 ?_
    obtain ⟨r8, e, h⟩ := op_bd h
    refine ow_cVi (pc := 26) [.int v7] ((c_X3_isCovered _ _ _ _ e).mono (by decide)) (op_ck_sh e) rfl dX3_lawBrokenBy_26 cw_X3_133 rfl (Nat.le_of_ble_eq_true rfl) ?_
    refine aw_if_ne (pc := 29) 34 dX3_lawBrokenBy_29 (by decide) (fun z => ?_) (fun z => ?_)
    · replace h := (if_neg z).symm.trans h
      refine aw_aload_n (pc := 34) 0 dX3_lawBrokenBy_34 rfl ?_
      refine aw_iload_n (pc := 35) 1 dX3_lawBrokenBy_35 rfl ?_
      obtain ⟨r9, e, h⟩ := op_bd h
      refine ow_cVi (pc := 36) [.int x1] ((c_X3_fallOf _ _ _ _ e).mono (by decide)) (op_ck_sh e) rfl dX3_lawBrokenBy_36 cw_X3_86 rfl (Nat.le_of_ble_eq_true rfl) ?_
      refine aw_istore_n (pc := 39) [(2, .int r9.1), (0, .ref x0), (1, .int x1)] dX3_lawBrokenBy_39 rfl (by decide) rfl ?_
      refine aw_aload_n (pc := 40) 1 dX3_lawBrokenBy_40 rfl ?_
      obtain ⟨v10, e, h⟩ := op_bd h
      refine ow_gR (pc := 41) e dX3_lawBrokenBy_41 fd_X3_37 rfl ?_
      obtain ⟨v11, e, h⟩ := op_bd h
      refine ow_gR (pc := 44) e dX3_lawBrokenBy_44 fd_X3_106 rfl ?_
      refine aw_aload_n (pc := 47) 1 dX3_lawBrokenBy_47 rfl ?_
      obtain ⟨v12, e, h⟩ := op_bd h
      refine ow_gR (pc := 48) e dX3_lawBrokenBy_48 fd_X3_9 rfl ?_
      obtain ⟨v13, e, h⟩ := op_bd h
      refine ow_gR (pc := 51) e dX3_lawBrokenBy_51 fd_X3_17 rfl ?_
      refine aw_iload_n (pc := 54) 2 dX3_lawBrokenBy_54 rfl ?_
      obtain ⟨v14, e, h⟩ := op_bd h
      refine ow_aI (pc := 55) e dX3_lawBrokenBy_55 ?_
      obtain ⟨v15, e, h⟩ := op_bd h
      refine ow_aR (pc := 56) e dX3_lawBrokenBy_56 (by decide) ?_
      refine aw_iconst (pc := 57) (v := (2 : Int32)) dX3_lawBrokenBy_57 (by decide) ?_
      obtain ⟨v16, e, h⟩ := op_bd h
      refine ow_aI (pc := 58) e dX3_lawBrokenBy_58 ?_
      refine aw_istore_n (pc := 59) [(3, .int v16), (2, .int r9.1), (0, .ref x0), (1, .int x1)] dX3_lawBrokenBy_59 rfl (by decide) rfl ?_
      refine aw_iload_n (pc := 60) 1 dX3_lawBrokenBy_60 rfl ?_
      refine aw_iload_n (pc := 61) 0 dX3_lawBrokenBy_61 rfl ?_
      refine aw_aload_n (pc := 62) 2 dX3_lawBrokenBy_62 rfl ?_
      obtain ⟨v17, e, h⟩ := op_bd h
      refine ow_gR (pc := 63) e dX3_lawBrokenBy_63 fd_X3_37 rfl ?_
      obtain ⟨v18, e, h⟩ := op_bd h
      refine ow_gR (pc := 66) e dX3_lawBrokenBy_66 fd_X3_137 rfl ?_
      refine aw_iconst (pc := 69) (v := (0 : Int32)) dX3_lawBrokenBy_69 (by decide) ?_
      obtain ⟨v19, e, h⟩ := op_bd h
      refine ow_aI (pc := 70) e dX3_lawBrokenBy_70 ?_
      refine aw_imul (pc := 71) dX3_lawBrokenBy_71 ?_
      refine aw_icmp_ge (pc := 72) 77 dX3_lawBrokenBy_72 (by decide) (fun z => ?_) (fun z => ?_)
      · replace h := (if_pos z).symm.trans h
        refine aw_iload_n (pc := 77) 1 dX3_lawBrokenBy_77 rfl ?_
        refine aw_iload_n (pc := 78) 0 dX3_lawBrokenBy_78 rfl ?_
        refine aw_aload_n (pc := 79) 2 dX3_lawBrokenBy_79 rfl ?_
        obtain ⟨v20, e, h⟩ := op_bd h
        refine ow_gR (pc := 80) e dX3_lawBrokenBy_80 fd_X3_37 rfl ?_
        obtain ⟨v21, e, h⟩ := op_bd h
        refine ow_gR (pc := 83) e dX3_lawBrokenBy_83 fd_X3_137 rfl ?_
        refine aw_iconst (pc := 86) (v := (1 : Int32)) dX3_lawBrokenBy_86 (by decide) ?_
        obtain ⟨v22, e, h⟩ := op_bd h
        refine ow_aI (pc := 87) e dX3_lawBrokenBy_87 ?_
        refine aw_imul (pc := 88) dX3_lawBrokenBy_88 ?_
        refine aw_icmp_le (pc := 89) 94 dX3_lawBrokenBy_89 (by decide) (fun z => ?_) (fun z => ?_)
        · replace h := (if_pos z).symm.trans h
          refine aw_aload_n (pc := 94) 2 dX3_lawBrokenBy_94 rfl ?_
          refine aw_iload_n (pc := 95) 3 dX3_lawBrokenBy_95 rfl ?_
          obtain ⟨r23, e, h⟩ := op_bd h
          refine ow_cVi (pc := 96) [.int x1] ((c_X3_meetsWider _ _ _ _ e).mono (by decide)) (op_ck_sh e) rfl dX3_lawBrokenBy_96 cw_X3_140 rfl (Nat.le_of_ble_eq_true rfl) ?_
          refine aw_if_eq (pc := 99) 104 dX3_lawBrokenBy_99 (by decide) (fun z => ?_) (fun z => ?_)
          · replace h := (if_pos z).symm.trans h
            refine aw_aload_n (pc := 104) 2 dX3_lawBrokenBy_104 rfl ?_
            refine aw_iload_n (pc := 105) 3 dX3_lawBrokenBy_105 rfl ?_
            obtain ⟨r24, e, h⟩ := op_bd h
            refine ow_cVi (pc := 106) [.int x1] ((c_X3_liftAt _ _ _ _ e).mono (by decide)) (op_ck_sh e) rfl dX3_lawBrokenBy_106 cw_X3_108 rfl (Nat.le_of_ble_eq_true rfl) ?_
            refine aw_if_le (pc := 109) 128 dX3_lawBrokenBy_109 (by decide) (fun z => ?_) (fun z => ?_)
            · replace h := (if_pos z).symm.trans h
              refine aw_sub [2, 3] rfl ?_
              exact c_X3_lawBrokenBy_128  _ _ _ _ h
            · replace h := (if_neg z).symm.trans h
              refine aw_aload_n (pc := 112) 2 dX3_lawBrokenBy_112 rfl ?_
              obtain ⟨v25, e, h⟩ := op_bd h
              refine ow_gR (pc := 113) e dX3_lawBrokenBy_113 fd_X3_37 rfl ?_
              obtain ⟨v26, e, h⟩ := op_bd h
              refine ow_gR (pc := 116) e dX3_lawBrokenBy_116 fd_X3_82 rfl ?_
              refine aw_iconst (pc := 119) (v := (2 : Int32)) dX3_lawBrokenBy_119 (by decide) ?_
              obtain ⟨r27, e, h⟩ := op_bd h
              refine ow_cVi (pc := 120) [.int (2 : Int32)] ((c_X4_isTold _ _ _ _ e).mono (by decide)) (op_ck_sh e) rfl dX3_lawBrokenBy_120 cw_X3_143 rfl (Nat.le_of_ble_eq_true rfl) ?_
              refine aw_if_ne (pc := 123) 128 dX3_lawBrokenBy_123 (by decide) (fun z => ?_) (fun z => ?_)
              · replace h := (if_neg z).symm.trans h
                refine aw_sub [2, 3] rfl ?_
                exact c_X3_lawBrokenBy_128  _ _ _ _ h
              · replace h := (if_pos z).symm.trans h
                refine aw_iconst (pc := 126) (v := (5 : Int32)) dX3_lawBrokenBy_126 (by decide) ?_
                exact ow_iret (pc := 127) h dX3_lawBrokenBy_127 rfl
          · replace h := (if_neg z).symm.trans h
            refine aw_iconst (pc := 102) (v := (4 : Int32)) dX3_lawBrokenBy_102 (by decide) ?_
            exact ow_iret (pc := 103) h dX3_lawBrokenBy_103 rfl
        · replace h := (if_neg z).symm.trans h
          refine aw_iconst (pc := 92) (v := (3 : Int32)) dX3_lawBrokenBy_92 (by decide) ?_
          exact ow_iret (pc := 93) h dX3_lawBrokenBy_93 rfl
      · replace h := (if_neg z).symm.trans h
        refine aw_iconst (pc := 75) (v := (2 : Int32)) dX3_lawBrokenBy_75 (by decide) ?_
        exact ow_iret (pc := 76) h dX3_lawBrokenBy_76 rfl
    · replace h := (if_pos z).symm.trans h
      refine aw_iconst (pc := 32) (v := (1 : Int32)) dX3_lawBrokenBy_32 (by decide) ?_
      exact ow_iret (pc := 33) h dX3_lawBrokenBy_33 rfl
theorem c_X3_lawBrokenBy {G : ah_G}   (x0 : Nat) (x1 : Int32) (σ : ah_H) (r : Int32 × ah_H) (h : f_X3_lawBrokenBy  x0 x1 σ = some r) : AM G m_X3_lawBrokenBy 5 0 0 [.ref x0, .int x1] σ (ah_ri r) := aw_enter (by decide) (Nat.le_of_ble_eq_true rfl) (c_X3_lawBrokenBy_0 _ _ _ _ (op_ck_k h))
def f_X11_broken_0   (x0 : Nat) (x1 : Int32) (σ : ah_H) : Option (Int32 × ah_H) :=
  (op_gR 11 2 σ x0).bind fun v1 => (f_X9_isCorner v1 x1 σ).bind fun r2 => if r2.1 = 0 then (some ((-1 : Int32), r2.2)) else ((f_X11_hasPipe x0 x1 r2.2).bind fun r3 => if r3.1 = 0 then (some ((-2 : Int32), r3.2)) else ((op_gR 11 6 r3.2 x0).bind fun v4 => (f_X3_lawBrokenBy v4 x1 r3.2).bind fun r5 => some (r5.1, r5.2)))
def f_X11_broken  (x0 : Nat) (x1 : Int32) (σ : ah_H) : Option (Int32 × ah_H) := op_ck 11 σ x0 (f_X11_broken_0 x0 x1 σ)
set_option maxRecDepth 100000 in
set_option maxHeartbeats 4000000 in
theorem c_X11_broken_0 {G : ah_G}   : ∀ (x0 : Nat) (x1 : Int32) (σ : ah_H) (r : Int32 × ah_H), f_X11_broken_0   x0 x1 σ = some r → AW G m_X11_broken 6 0 0 0 [(0, .ref x0), (1, .int x1)] [] σ (ah_N G (ah_ri r)) := by
  intro x0 x1 σ r h
  unfold f_X11_broken_0 at h
  refine aw_aload_n (pc := 0) 0 dX11_broken_0 rfl ?_
  obtain ⟨v1, e, h⟩ := op_bd h
  refine ow_gR (pc := 1) e dX11_broken_1 fd_X11_20 rfl ?_
  refine aw_iload_n (pc := 4) 1 dX11_broken_4 rfl ?_
  obtain ⟨r2, e, h⟩ := op_bd h
  refine ow_cVi (pc := 5) [.int x1] ((c_X9_isCorner _ _ _ _ e).mono (by decide)) (op_ck_sh e) rfl dX11_broken_5 cw_X11_93 rfl (Nat.le_of_ble_eq_true rfl) ?_
  refine aw_if_ne (pc := 8) 13 dX11_broken_8 (by decide) (fun z => ?_) (fun z => ?_)
  · replace h := (if_neg z).symm.trans h
    refine aw_aload_n (pc := 13) 0 dX11_broken_13 rfl ?_
    refine aw_iload_n (pc := 14) 1 dX11_broken_14 rfl ?_
    obtain ⟨r3, e, h⟩ := op_bd h
    refine ow_cVi (pc := 15) [.int x1] ((c_X11_hasPipe _ _ _ _ e).mono (by decide)) (op_ck_sh e) rfl dX11_broken_15 cw_X11_137 rfl (Nat.le_of_ble_eq_true rfl) ?_
    refine aw_if_eq (pc := 18) 32 dX11_broken_18 (by decide) (fun z => ?_) (fun z => ?_)
    · replace h := (if_pos z).symm.trans h
      refine aw_bipush (pc := 32) (v := (-2 : Int32)) dX11_broken_32 (by decide) ?_
      exact ow_iret (pc := 34) h dX11_broken_34 rfl
    · replace h := (if_neg z).symm.trans h
      refine aw_aload_n (pc := 21) 0 dX11_broken_21 rfl ?_
      obtain ⟨v4, e, h⟩ := op_bd h
      refine ow_gR (pc := 22) e dX11_broken_22 fd_X11_48 rfl ?_
      refine aw_iload_n (pc := 25) 1 dX11_broken_25 rfl ?_
      obtain ⟨r5, e, h⟩ := op_bd h
      refine ow_cVi (pc := 26) [.int x1] ((c_X3_lawBrokenBy _ _ _ _ e).mono (by decide)) (op_ck_sh e) rfl dX11_broken_26 cw_X11_177 rfl (Nat.le_of_ble_eq_true rfl) ?_
      refine aw_goto (pc := 29) 34 dX11_broken_29 (by decide) ?_
      exact ow_iret (pc := 34) h dX11_broken_34 rfl
  · replace h := (if_pos z).symm.trans h
    refine aw_iconst (pc := 11) (v := (-1 : Int32)) dX11_broken_11 (by decide) ?_
    exact ow_iret (pc := 12) h dX11_broken_12 rfl
theorem c_X11_broken {G : ah_G}   (x0 : Nat) (x1 : Int32) (σ : ah_H) (r : Int32 × ah_H) (h : f_X11_broken  x0 x1 σ = some r) : AM G m_X11_broken 6 0 0 [.ref x0, .int x1] σ (ah_ri r) := aw_enter (by decide) (Nat.le_of_ble_eq_true rfl) (c_X11_broken_0 _ _ _ _ (op_ck_k h))
def f_X3_allRunOut_89  (K25 : Nat → Int32 → Int32 → ah_H → Option (Int32 × ah_H)) (K38 : Nat → Int32 → Int32 → Int32 → ah_H → Option (Int32 × ah_H)) (x0 : Nat) (x1 : Int32) (x2 : Int32) (x3 : Int32) (σ : ah_H) : Option (Int32 × ah_H) :=
  K38 x0 x1 x2 (x3 + (1 : Int32)) σ
def f_X3_allRunOut_95  (K25 : Nat → Int32 → Int32 → ah_H → Option (Int32 × ah_H)) (x0 : Nat) (x1 : Int32) (x2 : Int32) (σ : ah_H) : Option (Int32 × ah_H) :=
  K25 x0 x1 (x2 + (1 : Int32)) σ
def f_X3_allRunOut_38_b  (K25 : Nat → Int32 → Int32 → ah_H → Option (Int32 × ah_H)) (K38 : Nat → Int32 → Int32 → Int32 → ah_H → Option (Int32 × ah_H)) (x0 : Nat) (x1 : Int32) (x2 : Int32) (x3 : Int32) (σ : ah_H) : Option (Int32 × ah_H) :=
  (op_gR 3 6 σ x0).bind fun v1 => (op_gI 9 0 σ v1).bind fun v2 => if v2 ≤ x3 then (f_X3_allRunOut_95 K25 x0 x1 x2 σ) else ((op_gR 3 5 σ x0).bind fun v3 => (op_gR 5 0 σ v3).bind fun v4 => (op_aI σ v4 x3).bind fun v5 => if v5 = (-1 : Int32) then (f_X3_allRunOut_89 K25 K38 x0 x1 x2 x3 σ) else ((op_gR 3 6 σ x0).bind fun v6 => (f_X9_otherEnd v6 v5 x3 σ).bind fun r7 => if ((x1 >>> (r7.1 &&& 31)) &&& (1 : Int32)) = 0 then (f_X3_allRunOut_89 K25 K38 x0 x1 x2 x3 r7.2) else (f_X3_allRunOut_89 K25 K38 x0 (x1 ||| ((1 : Int32) <<< (x3 &&& 31))) x2 x3 r7.2)))
def f_X3_allRunOut_38  (K25 : Nat → Int32 → Int32 → ah_H → Option (Int32 × ah_H)) : Nat → Nat → Int32 → Int32 → Int32 → ah_H → Option (Int32 × ah_H)
  | 0, _, _, _, _, _ => none
  | n + 1, x0, x1, x2, x3, σ => f_X3_allRunOut_38_b K25 (f_X3_allRunOut_38 K25 n) x0 x1 x2 x3 σ
def f_X3_allRunOut_101   (x0 : Nat) (x1 : Int32) (σ : ah_H) : Option (Int32 × ah_H) :=
  (op_gR 3 6 σ x0).bind fun v1 => (op_gI 9 0 σ v1).bind fun v2 => if x1 = (((1 : Int32) <<< (v2 &&& 31)) - (1 : Int32)) then ((op_rz (1 : Int32)).map fun q => (q, σ)) else ((op_rz (0 : Int32)).map fun q => (q, σ))
def f_X3_allRunOut_25_b  (K25 : Nat → Int32 → Int32 → ah_H → Option (Int32 × ah_H)) (x0 : Nat) (x1 : Int32) (x2 : Int32) (σ : ah_H) : Option (Int32 × ah_H) :=
  (op_gR 3 6 σ x0).bind fun v1 => (op_gI 9 0 σ v1).bind fun v2 => if v2 ≤ x2 then (f_X3_allRunOut_101 x0 x1 σ) else (f_X3_allRunOut_38 K25 5000 x0 x1 x2 (0 : Int32) σ)
def f_X3_allRunOut_25   : Nat → Nat → Int32 → Int32 → ah_H → Option (Int32 × ah_H)
  | 0, _, _, _, _ => none
  | n + 1, x0, x1, x2, σ => f_X3_allRunOut_25_b (f_X3_allRunOut_25 n) x0 x1 x2 σ
def f_X3_allRunOut_0   (x0 : Nat) (σ : ah_H) : Option (Int32 × ah_H) :=
  (op_gR 3 6 σ x0).bind fun v1 => (op_gI 9 2 σ v1).bind fun v2 => if v2 = (-1 : Int32) then ((op_rz (0 : Int32)).map fun q => (q, σ)) else ((op_gR 3 6 σ x0).bind fun v3 => (op_gI 9 2 σ v3).bind fun v4 => f_X3_allRunOut_25 5000 x0 ((1 : Int32) <<< (v4 &&& 31)) (1 : Int32) σ)
def f_X3_allRunOut  (x0 : Nat) (σ : ah_H) : Option (Int32 × ah_H) := op_ck 3 σ x0 (f_X3_allRunOut_0 x0 σ)
set_option maxRecDepth 100000 in
set_option maxHeartbeats 4000000 in
theorem c_X3_allRunOut_89 {G : ah_G}  (K25 : Nat → Int32 → Int32 → ah_H → Option (Int32 × ah_H)) (hK25 : ∀ (x0 : Nat) (x1 : Int32) (x2 : Int32) (σ : ah_H) (r : Int32 × ah_H), K25 x0 x1 x2 σ = some r → AW G m_X3_allRunOut 1 0 0 25 [(0, .ref x0), (1, .int x1), (2, .int x2)] [] σ (ah_N G (ah_ri r))) (K38 : Nat → Int32 → Int32 → Int32 → ah_H → Option (Int32 × ah_H)) (hK38 : ∀ (x0 : Nat) (x1 : Int32) (x2 : Int32) (x3 : Int32) (σ : ah_H) (r : Int32 × ah_H), K38 x0 x1 x2 x3 σ = some r → AW G m_X3_allRunOut 1 0 0 38 [(0, .ref x0), (1, .int x1), (2, .int x2), (3, .int x3)] [] σ (ah_N G (ah_ri r))) : ∀ (x0 : Nat) (x1 : Int32) (x2 : Int32) (x3 : Int32) (σ : ah_H) (r : Int32 × ah_H), f_X3_allRunOut_89  K25 K38 x0 x1 x2 x3 σ = some r → AW G m_X3_allRunOut 1 0 0 89 [(0, .ref x0), (1, .int x1), (2, .int x2), (3, .int x3)] [] σ (ah_N G (ah_ri r)) := by
  intro x0 x1 x2 x3 σ r h
  unfold f_X3_allRunOut_89 at h
  refine aw_iinc (pc := 89) 3 [(3, .int (x3 + (1 : Int32))), (0, .ref x0), (1, .int x1), (2, .int x2)] (x3 + (1 : Int32)) dX3_allRunOut_89 rfl rfl (by decide) rfl ?_
  refine aw_goto (pc := 92) 38 dX3_allRunOut_92 (by decide) ?_
  refine aw_sub [1, 2, 3, 0] rfl ?_
  exact hK38 _ _ _ _ _ _ h
set_option maxRecDepth 100000 in
set_option maxHeartbeats 4000000 in
theorem c_X3_allRunOut_95 {G : ah_G}  (K25 : Nat → Int32 → Int32 → ah_H → Option (Int32 × ah_H)) (hK25 : ∀ (x0 : Nat) (x1 : Int32) (x2 : Int32) (σ : ah_H) (r : Int32 × ah_H), K25 x0 x1 x2 σ = some r → AW G m_X3_allRunOut 1 0 0 25 [(0, .ref x0), (1, .int x1), (2, .int x2)] [] σ (ah_N G (ah_ri r))) : ∀ (x0 : Nat) (x1 : Int32) (x2 : Int32) (σ : ah_H) (r : Int32 × ah_H), f_X3_allRunOut_95  K25 x0 x1 x2 σ = some r → AW G m_X3_allRunOut 1 0 0 95 [(0, .ref x0), (1, .int x1), (2, .int x2)] [] σ (ah_N G (ah_ri r)) := by
  intro x0 x1 x2 σ r h
  unfold f_X3_allRunOut_95 at h
  refine aw_iinc (pc := 95) 2 [(2, .int (x2 + (1 : Int32))), (0, .ref x0), (1, .int x1)] (x2 + (1 : Int32)) dX3_allRunOut_95 rfl rfl (by decide) rfl ?_
  refine aw_goto (pc := 98) 25 dX3_allRunOut_98 (by decide) ?_
  refine aw_sub [1, 2, 0] rfl ?_
  exact hK25 _ _ _ _ _ h
set_option maxRecDepth 100000 in
set_option maxHeartbeats 4000000 in
theorem c_X3_allRunOut_38_b {G : ah_G}  (K25 : Nat → Int32 → Int32 → ah_H → Option (Int32 × ah_H)) (hK25 : ∀ (x0 : Nat) (x1 : Int32) (x2 : Int32) (σ : ah_H) (r : Int32 × ah_H), K25 x0 x1 x2 σ = some r → AW G m_X3_allRunOut 1 0 0 25 [(0, .ref x0), (1, .int x1), (2, .int x2)] [] σ (ah_N G (ah_ri r))) (K38 : Nat → Int32 → Int32 → Int32 → ah_H → Option (Int32 × ah_H)) (hK38 : ∀ (x0 : Nat) (x1 : Int32) (x2 : Int32) (x3 : Int32) (σ : ah_H) (r : Int32 × ah_H), K38 x0 x1 x2 x3 σ = some r → AW G m_X3_allRunOut 1 0 0 38 [(0, .ref x0), (1, .int x1), (2, .int x2), (3, .int x3)] [] σ (ah_N G (ah_ri r))) : ∀ (x0 : Nat) (x1 : Int32) (x2 : Int32) (x3 : Int32) (σ : ah_H) (r : Int32 × ah_H), f_X3_allRunOut_38_b  K25 K38 x0 x1 x2 x3 σ = some r → AW G m_X3_allRunOut 1 0 0 38 [(0, .ref x0), (1, .int x1), (2, .int x2), (3, .int x3)] [] σ (ah_N G (ah_ri r)) := by
  intro x0 x1 x2 x3 σ r h
  unfold f_X3_allRunOut_38_b at h
  refine aw_iload_n (pc := 38) 3 dX3_allRunOut_38 rfl ?_
  refine aw_aload_n (pc := 39) 0 dX3_allRunOut_39 rfl ?_
  obtain ⟨v1, e, h⟩ := op_bd h
  refine ow_gR (pc := 40) e dX3_allRunOut_40 fd_X3_37 rfl ?_
  obtain ⟨v2, e, h⟩ := op_bd h
  refine ow_gI (pc := 43) e dX3_allRunOut_43 fd_X3_45 rfl ?_
  refine aw_icmp_ge (pc := 46) 95 dX3_allRunOut_46 (by decide) (fun z => ?_) (fun z => ?_)
  · replace h := (if_pos z).symm.trans h
    refine aw_sub [0, 1, 2] rfl ?_
    exact c_X3_allRunOut_95 K25 hK25 _ _ _ _ _ h
  · replace h := (if_neg z).symm.trans h
    refine aw_aload_n (pc := 49) 0 dX3_allRunOut_49 rfl ?_
    obtain ⟨v3, e, h⟩ := op_bd h
    refine ow_gR (pc := 50) e dX3_allRunOut_50 fd_X3_9 rfl ?_
    obtain ⟨v4, e, h⟩ := op_bd h
    refine ow_gR (pc := 53) e dX3_allRunOut_53 fd_X3_17 rfl ?_
    refine aw_iload_n (pc := 56) 3 dX3_allRunOut_56 rfl ?_
    obtain ⟨v5, e, h⟩ := op_bd h
    refine ow_aI (pc := 57) e dX3_allRunOut_57 ?_
    refine aw_istore (pc := 58) [(4, .int v5), (0, .ref x0), (1, .int x1), (2, .int x2), (3, .int x3)] dX3_allRunOut_58 (by decide) rfl ?_
    refine aw_iload (pc := 60) 0 dX3_allRunOut_60 rfl ?_
    refine aw_iconst (pc := 62) (v := (-1 : Int32)) dX3_allRunOut_62 (by decide) ?_
    refine aw_icmp_eq (pc := 63) 89 dX3_allRunOut_63 (by decide) (fun z => ?_) (fun z => ?_)
    · replace h := (if_pos z).symm.trans h
      refine aw_sub [1, 2, 3, 4] rfl ?_
      exact c_X3_allRunOut_89 K25 hK25 K38 hK38 _ _ _ _ _ _ h
    · replace h := (if_neg z).symm.trans h
      refine aw_iload_n (pc := 66) 2 dX3_allRunOut_66 rfl ?_
      refine aw_aload_n (pc := 67) 1 dX3_allRunOut_67 rfl ?_
      obtain ⟨v6, e, h⟩ := op_bd h
      refine ow_gR (pc := 68) e dX3_allRunOut_68 fd_X3_37 rfl ?_
      refine aw_iload (pc := 71) 0 dX3_allRunOut_71 rfl ?_
      refine aw_iload_n (pc := 73) 4 dX3_allRunOut_73 rfl ?_
      obtain ⟨r7, e, h⟩ := op_bd h
      refine ow_cVi (pc := 74) [.int v5, .int x3] ((c_X9_otherEnd _ _ _ _ _ e).mono (by decide)) (op_ck_sh e) rfl dX3_allRunOut_74 cw_X3_62 rfl (Nat.le_of_ble_eq_true rfl) ?_
      refine aw_ishr (pc := 77) dX3_allRunOut_77 ?_
      refine aw_iconst (pc := 78) (v := (1 : Int32)) dX3_allRunOut_78 (by decide) ?_
      refine aw_iand (pc := 79) dX3_allRunOut_79 ?_
      refine aw_if_eq (pc := 80) 89 dX3_allRunOut_80 (by decide) (fun z => ?_) (fun z => ?_)
      · replace h := (if_pos z).symm.trans h
        refine aw_sub [1, 2, 3, 4] rfl ?_
        exact c_X3_allRunOut_89 K25 hK25 K38 hK38 _ _ _ _ _ _ h
      · replace h := (if_neg z).symm.trans h
        refine aw_iload_n (pc := 83) 2 dX3_allRunOut_83 rfl ?_
        refine aw_iconst (pc := 84) (v := (1 : Int32)) dX3_allRunOut_84 (by decide) ?_
        refine aw_iload_n (pc := 85) 4 dX3_allRunOut_85 rfl ?_
        refine aw_ishl (pc := 86) dX3_allRunOut_86 ?_
        refine aw_ior (pc := 87) dX3_allRunOut_87 ?_
        refine aw_istore_n (pc := 88) [(1, .int (x1 ||| ((1 : Int32) <<< (x3 &&& 31)))), (4, .int v5), (0, .ref x0), (2, .int x2), (3, .int x3)] dX3_allRunOut_88 rfl (by decide) rfl ?_
        refine aw_sub [2, 0, 3, 4] rfl ?_
        exact c_X3_allRunOut_89 K25 hK25 K38 hK38 _ _ _ _ _ _ h
theorem c_X3_allRunOut_38 {G : ah_G}  (K25 : Nat → Int32 → Int32 → ah_H → Option (Int32 × ah_H)) (hK25 : ∀ (x0 : Nat) (x1 : Int32) (x2 : Int32) (σ : ah_H) (r : Int32 × ah_H), K25 x0 x1 x2 σ = some r → AW G m_X3_allRunOut 1 0 0 25 [(0, .ref x0), (1, .int x1), (2, .int x2)] [] σ (ah_N G (ah_ri r))) : ∀ (n : Nat) (x0 : Nat) (x1 : Int32) (x2 : Int32) (x3 : Int32) (σ : ah_H) (r : Int32 × ah_H), f_X3_allRunOut_38  K25 n x0 x1 x2 x3 σ = some r → AW G m_X3_allRunOut 1 0 0 38 [(0, .ref x0), (1, .int x1), (2, .int x2), (3, .int x3)] [] σ (ah_N G (ah_ri r)) := by
  intro n
  induction n with
  | zero => intro x0 x1 x2 x3 σ r h; cases h
  | succ n ih => intro x0 x1 x2 x3 σ r h; exact c_X3_allRunOut_38_b  K25 hK25 _ ih x0 x1 x2 x3 σ r h
set_option maxRecDepth 100000 in
set_option maxHeartbeats 4000000 in
theorem c_X3_allRunOut_101 {G : ah_G}   : ∀ (x0 : Nat) (x1 : Int32) (σ : ah_H) (r : Int32 × ah_H), f_X3_allRunOut_101   x0 x1 σ = some r → AW G m_X3_allRunOut 1 0 0 101 [(0, .ref x0), (1, .int x1)] [] σ (ah_N G (ah_ri r)) := by
  intro x0 x1 σ r h
  unfold f_X3_allRunOut_101 at h
  refine aw_iload_n (pc := 101) 1 dX3_allRunOut_101 rfl ?_
  refine aw_iconst (pc := 102) (v := (1 : Int32)) dX3_allRunOut_102 (by decide) ?_
  refine aw_aload_n (pc := 103) 0 dX3_allRunOut_103 rfl ?_
  obtain ⟨v1, e, h⟩ := op_bd h
  refine ow_gR (pc := 104) e dX3_allRunOut_104 fd_X3_37 rfl ?_
  obtain ⟨v2, e, h⟩ := op_bd h
  refine ow_gI (pc := 107) e dX3_allRunOut_107 fd_X3_45 rfl ?_
  refine aw_ishl (pc := 110) dX3_allRunOut_110 ?_
  refine aw_iconst (pc := 111) (v := (1 : Int32)) dX3_allRunOut_111 (by decide) ?_
  refine aw_isub (pc := 112) dX3_allRunOut_112 ?_
  refine aw_icmp_ne (pc := 113) 120 dX3_allRunOut_113 (by decide) (fun z => ?_) (fun z => ?_)
  · replace h := (if_neg z).symm.trans h
    refine aw_iconst (pc := 120) (v := (0 : Int32)) dX3_allRunOut_120 (by decide) ?_
    exact ow_zret (pc := 121) h dX3_allRunOut_121 rfl
  · replace h := (if_pos z).symm.trans h
    refine aw_iconst (pc := 116) (v := (1 : Int32)) dX3_allRunOut_116 (by decide) ?_
    refine aw_goto (pc := 117) 121 dX3_allRunOut_117 (by decide) ?_
    exact ow_zret (pc := 121) h dX3_allRunOut_121 rfl
set_option maxRecDepth 100000 in
set_option maxHeartbeats 4000000 in
theorem c_X3_allRunOut_25_b {G : ah_G}  (K25 : Nat → Int32 → Int32 → ah_H → Option (Int32 × ah_H)) (hK25 : ∀ (x0 : Nat) (x1 : Int32) (x2 : Int32) (σ : ah_H) (r : Int32 × ah_H), K25 x0 x1 x2 σ = some r → AW G m_X3_allRunOut 1 0 0 25 [(0, .ref x0), (1, .int x1), (2, .int x2)] [] σ (ah_N G (ah_ri r))) : ∀ (x0 : Nat) (x1 : Int32) (x2 : Int32) (σ : ah_H) (r : Int32 × ah_H), f_X3_allRunOut_25_b  K25 x0 x1 x2 σ = some r → AW G m_X3_allRunOut 1 0 0 25 [(0, .ref x0), (1, .int x1), (2, .int x2)] [] σ (ah_N G (ah_ri r)) := by
  intro x0 x1 x2 σ r h
  unfold f_X3_allRunOut_25_b at h
  refine aw_iload_n (pc := 25) 2 dX3_allRunOut_25 rfl ?_
  refine aw_aload_n (pc := 26) 0 dX3_allRunOut_26 rfl ?_
  obtain ⟨v1, e, h⟩ := op_bd h
  refine ow_gR (pc := 27) e dX3_allRunOut_27 fd_X3_37 rfl ?_
  obtain ⟨v2, e, h⟩ := op_bd h
  refine ow_gI (pc := 30) e dX3_allRunOut_30 fd_X3_45 rfl ?_
  refine aw_icmp_ge (pc := 33) 101 dX3_allRunOut_33 (by decide) (fun z => ?_) (fun z => ?_)
  · replace h := (if_pos z).symm.trans h
    refine aw_sub [0, 1] rfl ?_
    exact c_X3_allRunOut_101  _ _ _ _ h
  · replace h := (if_neg z).symm.trans h
    refine aw_iconst (pc := 36) (v := (0 : Int32)) dX3_allRunOut_36 (by decide) ?_
    refine aw_istore_n (pc := 37) [(3, .int (0 : Int32)), (0, .ref x0), (1, .int x1), (2, .int x2)] dX3_allRunOut_37 rfl (by decide) rfl ?_
    refine aw_sub [1, 2, 3, 0] rfl ?_
    exact c_X3_allRunOut_38 K25 hK25 _ _ _ _ _ _ _ h
theorem c_X3_allRunOut_25 {G : ah_G}   : ∀ (n : Nat) (x0 : Nat) (x1 : Int32) (x2 : Int32) (σ : ah_H) (r : Int32 × ah_H), f_X3_allRunOut_25   n x0 x1 x2 σ = some r → AW G m_X3_allRunOut 1 0 0 25 [(0, .ref x0), (1, .int x1), (2, .int x2)] [] σ (ah_N G (ah_ri r)) := by
  intro n
  induction n with
  | zero => intro x0 x1 x2 σ r h; cases h
  | succ n ih => intro x0 x1 x2 σ r h; exact c_X3_allRunOut_25_b   _ ih x0 x1 x2 σ r h
set_option maxRecDepth 100000 in
set_option maxHeartbeats 4000000 in
theorem c_X3_allRunOut_0 {G : ah_G}   : ∀ (x0 : Nat) (σ : ah_H) (r : Int32 × ah_H), f_X3_allRunOut_0   x0 σ = some r → AW G m_X3_allRunOut 1 0 0 0 [(0, .ref x0)] [] σ (ah_N G (ah_ri r)) := by
  intro x0 σ r h
  unfold f_X3_allRunOut_0 at h
  refine aw_aload_n (pc := 0) 0 dX3_allRunOut_0 rfl ?_
  obtain ⟨v1, e, h⟩ := op_bd h
  refine ow_gR (pc := 1) e dX3_allRunOut_1 fd_X3_37 rfl ?_
  obtain ⟨v2, e, h⟩ := op_bd h
  refine ow_gI (pc := 4) e dX3_allRunOut_4 fd_X3_146 rfl ?_
  refine aw_iconst (pc := 7) (v := (-1 : Int32)) dX3_allRunOut_7 (by decide) ?_
  refine aw_icmp_ne (pc := 8) 13 dX3_allRunOut_8 (by decide) (fun z => ?_) (fun z => ?_)
  · replace h := (if_neg z).symm.trans h
    refine aw_iconst (pc := 13) (v := (1 : Int32)) dX3_allRunOut_13 (by decide) ?_
    refine aw_aload_n (pc := 14) 0 dX3_allRunOut_14 rfl ?_
    obtain ⟨v3, e, h⟩ := op_bd h
    refine ow_gR (pc := 15) e dX3_allRunOut_15 fd_X3_37 rfl ?_
    obtain ⟨v4, e, h⟩ := op_bd h
    refine ow_gI (pc := 18) e dX3_allRunOut_18 fd_X3_146 rfl ?_
    refine aw_ishl (pc := 21) dX3_allRunOut_21 ?_
    refine aw_istore_n (pc := 22) [(1, .int ((1 : Int32) <<< (v4 &&& 31))), (0, .ref x0)] dX3_allRunOut_22 rfl (by decide) rfl ?_
    refine aw_iconst (pc := 23) (v := (1 : Int32)) dX3_allRunOut_23 (by decide) ?_
    refine aw_istore_n (pc := 24) [(2, .int (1 : Int32)), (1, .int ((1 : Int32) <<< (v4 &&& 31))), (0, .ref x0)] dX3_allRunOut_24 rfl (by decide) rfl ?_
    refine aw_sub [2, 1, 0] rfl ?_
    exact c_X3_allRunOut_25  _ _ _ _ _ _ h
  · replace h := (if_pos z).symm.trans h
    refine aw_iconst (pc := 11) (v := (0 : Int32)) dX3_allRunOut_11 (by decide) ?_
    exact ow_zret (pc := 12) h dX3_allRunOut_12 rfl
theorem c_X3_allRunOut {G : ah_G}   (x0 : Nat) (σ : ah_H) (r : Int32 × ah_H) (h : f_X3_allRunOut  x0 σ = some r) : AM G m_X3_allRunOut 1 0 0 [.ref x0] σ (ah_ri r) := aw_enter (by decide) (Nat.le_of_ble_eq_true rfl) (c_X3_allRunOut_0 _ _ _ (op_ck_k h))
def f_X3_endsBelowRiver_0   (x0 : Nat) (x1 : Int32) (σ : ah_H) : Option (Int32 × ah_H) :=
  (op_gR 3 6 σ x0).bind fun v1 => (op_gR 9 1 σ v1).bind fun v2 => (op_gR 3 6 σ x0).bind fun v3 => (op_gI 9 2 σ v3).bind fun v4 => (op_aR .int σ v2 v4).bind fun v5 => (op_aI σ v5 (0 : Int32)).bind fun v6 => (op_gR 3 5 σ x0).bind fun v7 => (op_gR 5 3 σ v7).bind fun v8 => (op_aI σ v8 x1).bind fun v9 => (op_gR 3 6 σ x0).bind fun v10 => (op_gI 9 3 σ v10).bind fun v11 => if v11 ≤ (v6 - v9) then ((op_rz (0 : Int32)).map fun q => (q, σ)) else ((op_rz (1 : Int32)).map fun q => (q, σ))
def f_X3_endsBelowRiver  (x0 : Nat) (x1 : Int32) (σ : ah_H) : Option (Int32 × ah_H) := op_ck 3 σ x0 (f_X3_endsBelowRiver_0 x0 x1 σ)
set_option maxRecDepth 100000 in
set_option maxHeartbeats 4000000 in
theorem c_X3_endsBelowRiver_0 {G : ah_G}   : ∀ (x0 : Nat) (x1 : Int32) (σ : ah_H) (r : Int32 × ah_H), f_X3_endsBelowRiver_0   x0 x1 σ = some r → AW G m_X3_endsBelowRiver 0 0 0 0 [(0, .ref x0), (1, .int x1)] [] σ (ah_N G (ah_ri r)) := by
  intro x0 x1 σ r h
  unfold f_X3_endsBelowRiver_0 at h
  refine aw_aload_n (pc := 0) 0 dX3_endsBelowRiver_0 rfl ?_
  obtain ⟨v1, e, h⟩ := op_bd h
  refine ow_gR (pc := 1) e dX3_endsBelowRiver_1 fd_X3_37 rfl ?_
  obtain ⟨v2, e, h⟩ := op_bd h
  refine ow_gR (pc := 4) e dX3_endsBelowRiver_4 fd_X3_66 rfl ?_
  refine aw_aload_n (pc := 7) 0 dX3_endsBelowRiver_7 rfl ?_
  obtain ⟨v3, e, h⟩ := op_bd h
  refine ow_gR (pc := 8) e dX3_endsBelowRiver_8 fd_X3_37 rfl ?_
  obtain ⟨v4, e, h⟩ := op_bd h
  refine ow_gI (pc := 11) e dX3_endsBelowRiver_11 fd_X3_146 rfl ?_
  obtain ⟨v5, e, h⟩ := op_bd h
  refine ow_aR (pc := 14) e dX3_endsBelowRiver_14 (by decide) ?_
  refine aw_iconst (pc := 15) (v := (0 : Int32)) dX3_endsBelowRiver_15 (by decide) ?_
  obtain ⟨v6, e, h⟩ := op_bd h
  refine ow_aI (pc := 16) e dX3_endsBelowRiver_16 ?_
  refine aw_aload_n (pc := 17) 0 dX3_endsBelowRiver_17 rfl ?_
  obtain ⟨v7, e, h⟩ := op_bd h
  refine ow_gR (pc := 18) e dX3_endsBelowRiver_18 fd_X3_9 rfl ?_
  obtain ⟨v8, e, h⟩ := op_bd h
  refine ow_gR (pc := 21) e dX3_endsBelowRiver_21 fd_X3_73 rfl ?_
  refine aw_iload_n (pc := 24) 1 dX3_endsBelowRiver_24 rfl ?_
  obtain ⟨v9, e, h⟩ := op_bd h
  refine ow_aI (pc := 25) e dX3_endsBelowRiver_25 ?_
  refine aw_isub (pc := 26) dX3_endsBelowRiver_26 ?_
  refine aw_aload_n (pc := 27) 0 dX3_endsBelowRiver_27 rfl ?_
  obtain ⟨v10, e, h⟩ := op_bd h
  refine ow_gR (pc := 28) e dX3_endsBelowRiver_28 fd_X3_37 rfl ?_
  obtain ⟨v11, e, h⟩ := op_bd h
  refine ow_gI (pc := 31) e dX3_endsBelowRiver_31 fd_X3_165 rfl ?_
  refine aw_icmp_ge (pc := 34) 41 dX3_endsBelowRiver_34 (by decide) (fun z => ?_) (fun z => ?_)
  · replace h := (if_pos z).symm.trans h
    refine aw_iconst (pc := 41) (v := (0 : Int32)) dX3_endsBelowRiver_41 (by decide) ?_
    exact ow_zret (pc := 42) h dX3_endsBelowRiver_42 rfl
  · replace h := (if_neg z).symm.trans h
    refine aw_iconst (pc := 37) (v := (1 : Int32)) dX3_endsBelowRiver_37 (by decide) ?_
    refine aw_goto (pc := 38) 42 dX3_endsBelowRiver_38 (by decide) ?_
    exact ow_zret (pc := 42) h dX3_endsBelowRiver_42 rfl
theorem c_X3_endsBelowRiver {G : ah_G}   (x0 : Nat) (x1 : Int32) (σ : ah_H) (r : Int32 × ah_H) (h : f_X3_endsBelowRiver  x0 x1 σ = some r) : AM G m_X3_endsBelowRiver 0 0 0 [.ref x0, .int x1] σ (ah_ri r) := aw_enter (by decide) (Nat.le_of_ble_eq_true rfl) (c_X3_endsBelowRiver_0 _ _ _ _ (op_ck_k h))
def f_X3_judgeNet_59   (x0 : Nat) (x1 : Int32) (x2 : Int32) (σ : ah_H) : Option (ah_H) :=
  (op_pI 3 3 σ x0 x2).bind fun σ1 => (op_pI 3 4 σ1 x0 x1).bind fun σ2 => some σ2
def f_X3_judgeNet_54  (K21 : Nat → Int32 → ah_H → Option (ah_H)) (x0 : Nat) (x1 : Int32) (s0 : Int32) (σ : ah_H) : Option (ah_H) :=
  if s0 = 0 then (K21 x0 (x1 + (1 : Int32)) σ) else (f_X3_judgeNet_59 x0 x1 s0 σ)
def f_X3_judgeNet_129  (K91 : Nat → Int32 → ah_H → Option (ah_H)) (x0 : Nat) (x1 : Int32) (σ : ah_H) : Option (ah_H) :=
  K91 x0 (x1 + (-1 : Int32)) σ
def f_X3_judgeNet_91_b  (K91 : Nat → Int32 → ah_H → Option (ah_H)) (x0 : Nat) (x1 : Int32) (σ : ah_H) : Option (ah_H) :=
  if x1 < 0 then (some σ) else ((op_gR 3 6 σ x0).bind fun v1 => (op_gI 9 2 σ v1).bind fun v2 => (f_X3_runsTo x0 x1 v2 σ).bind fun r3 => if r3.1 = 0 then (f_X3_judgeNet_129 K91 x0 x1 r3.2) else ((f_X3_endsBelowRiver x0 x1 r3.2).bind fun r4 => if r4.1 = 0 then (f_X3_judgeNet_129 K91 x0 x1 r4.2) else ((op_pI 3 3 r4.2 x0 (8 : Int32)).bind fun σ5 => (op_pI 3 4 σ5 x0 x1).bind fun σ6 => f_X3_judgeNet_129 K91 x0 x1 σ6)))
def f_X3_judgeNet_91   : Nat → Nat → Int32 → ah_H → Option (ah_H)
  | 0, _, _, _ => none
  | n + 1, x0, x1, σ => f_X3_judgeNet_91_b (f_X3_judgeNet_91 n) x0 x1 σ
def f_X3_judgeNet_76   (x0 : Nat) (σ : ah_H) : Option (ah_H) :=
  (op_pI 3 3 σ x0 (0 : Int32)).bind fun σ1 => (op_gR 3 6 σ1 x0).bind fun v2 => (op_gI 9 0 σ1 v2).bind fun v3 => f_X3_judgeNet_91 5000 x0 (v3 - (1 : Int32)) σ1
def f_X3_judgeNet_21_b  (K21 : Nat → Int32 → ah_H → Option (ah_H)) (x0 : Nat) (x1 : Int32) (σ : ah_H) : Option (ah_H) :=
  (op_gR 3 6 σ x0).bind fun v1 => (op_gI 9 0 σ v1).bind fun v2 => if v2 ≤ x1 then (f_X3_judgeNet_76 x0 σ) else ((op_gR 3 5 σ x0).bind fun v3 => (op_gR 5 0 σ v3).bind fun v4 => (op_aI σ v4 x1).bind fun v5 => if v5 = (-1 : Int32) then (f_X3_judgeNet_54 K21 x0 x1 (0 : Int32) σ) else ((f_X3_lawBrokenBy x0 x1 σ).bind fun r6 => f_X3_judgeNet_54 K21 x0 x1 r6.1 r6.2))
def f_X3_judgeNet_21   : Nat → Nat → Int32 → ah_H → Option (ah_H)
  | 0, _, _, _ => none
  | n + 1, x0, x1, σ => f_X3_judgeNet_21_b (f_X3_judgeNet_21 n) x0 x1 σ
def f_X3_judgeNet_0   (x0 : Nat) (σ : ah_H) : Option (ah_H) :=
  (op_pI 3 3 σ x0 (7 : Int32)).bind fun σ1 => (op_pI 3 4 σ1 x0 (-1 : Int32)).bind fun σ2 => (f_X3_allRunOut x0 σ2).bind fun r3 => if r3.1 = 0 then (some r3.2) else (f_X3_judgeNet_21 5000 x0 (0 : Int32) r3.2)
def f_X3_judgeNet  (x0 : Nat) (σ : ah_H) : Option (ah_H) := op_ck 3 σ x0 (f_X3_judgeNet_0 x0 σ)
set_option maxRecDepth 100000 in
set_option maxHeartbeats 4000000 in
theorem c_X3_judgeNet_59 {G : ah_G}   : ∀ (x0 : Nat) (x1 : Int32) (x2 : Int32) (σ : ah_H) (r : ah_H), f_X3_judgeNet_59   x0 x1 x2 σ = some r → AW G m_X3_judgeNet 6 0 0 59 [(0, .ref x0), (1, .int x1), (2, .int x2)] [] σ (ah_N G (ah_rv r)) := by
  intro x0 x1 x2 σ r h
  unfold f_X3_judgeNet_59 at h
  refine aw_aload_n (pc := 59) 0 dX3_judgeNet_59 rfl ?_
  refine aw_iload_n (pc := 60) 2 dX3_judgeNet_60 rfl ?_
  obtain ⟨σ1, e, h⟩ := op_bd h
  refine ow_pI (pc := 61) e dX3_judgeNet_61 fd_X3_149 ?_
  refine aw_aload_n (pc := 64) 0 dX3_judgeNet_64 rfl ?_
  refine aw_iload_n (pc := 65) 1 dX3_judgeNet_65 rfl ?_
  obtain ⟨σ2, e, h⟩ := op_bd h
  refine ow_pI (pc := 66) e dX3_judgeNet_66 fd_X3_152 ?_
  exact ow_vret (pc := 69) h dX3_judgeNet_69 rfl
set_option maxRecDepth 100000 in
set_option maxHeartbeats 4000000 in
theorem c_X3_judgeNet_54 {G : ah_G}  (K21 : Nat → Int32 → ah_H → Option (ah_H)) (hK21 : ∀ (x0 : Nat) (x1 : Int32) (σ : ah_H) (r : ah_H), K21 x0 x1 σ = some r → AW G m_X3_judgeNet 6 0 0 21 [(0, .ref x0), (1, .int x1)] [] σ (ah_N G (ah_rv r))) : ∀ (x0 : Nat) (x1 : Int32) (s0 : Int32) (σ : ah_H) (r : ah_H), f_X3_judgeNet_54  K21 x0 x1 s0 σ = some r → AW G m_X3_judgeNet 6 0 0 54 [(0, .ref x0), (1, .int x1)] [.int s0] σ (ah_N G (ah_rv r)) := by
  intro x0 x1 s0 σ r h
  unfold f_X3_judgeNet_54 at h
  refine aw_istore_n (pc := 54) [(2, .int s0), (0, .ref x0), (1, .int x1)] dX3_judgeNet_54 rfl (by decide) rfl ?_
  refine aw_iload_n (pc := 55) 0 dX3_judgeNet_55 rfl ?_
  refine aw_if_eq (pc := 56) 70 dX3_judgeNet_56 (by decide) (fun z => ?_) (fun z => ?_)
  · replace h := (if_pos z).symm.trans h
    refine aw_iinc (pc := 70) 2 [(1, .int (x1 + (1 : Int32))), (2, .int s0), (0, .ref x0)] (x1 + (1 : Int32)) dX3_judgeNet_70 rfl rfl (by decide) rfl ?_
    refine aw_goto (pc := 73) 21 dX3_judgeNet_73 (by decide) ?_
    refine aw_sub [2, 0] rfl ?_
    exact hK21 _ _ _ _ h
  · replace h := (if_neg z).symm.trans h
    refine aw_sub [1, 2, 0] rfl ?_
    exact c_X3_judgeNet_59  _ _ _ _ _ h
set_option maxRecDepth 100000 in
set_option maxHeartbeats 4000000 in
theorem c_X3_judgeNet_129 {G : ah_G}  (K91 : Nat → Int32 → ah_H → Option (ah_H)) (hK91 : ∀ (x0 : Nat) (x1 : Int32) (σ : ah_H) (r : ah_H), K91 x0 x1 σ = some r → AW G m_X3_judgeNet 6 0 0 91 [(0, .ref x0), (1, .int x1)] [] σ (ah_N G (ah_rv r))) : ∀ (x0 : Nat) (x1 : Int32) (σ : ah_H) (r : ah_H), f_X3_judgeNet_129  K91 x0 x1 σ = some r → AW G m_X3_judgeNet 6 0 0 129 [(0, .ref x0), (1, .int x1)] [] σ (ah_N G (ah_rv r)) := by
  intro x0 x1 σ r h
  unfold f_X3_judgeNet_129 at h
  refine aw_iinc (pc := 129) 1 [(1, .int (x1 + (-1 : Int32))), (0, .ref x0)] (x1 + (-1 : Int32)) dX3_judgeNet_129 rfl rfl (by decide) rfl ?_
  refine aw_goto (pc := 132) 91 dX3_judgeNet_132 (by decide) ?_
  refine aw_sub [1, 0] rfl ?_
  exact hK91 _ _ _ _ h
set_option maxRecDepth 100000 in
set_option maxHeartbeats 4000000 in
theorem c_X3_judgeNet_91_b {G : ah_G}  (K91 : Nat → Int32 → ah_H → Option (ah_H)) (hK91 : ∀ (x0 : Nat) (x1 : Int32) (σ : ah_H) (r : ah_H), K91 x0 x1 σ = some r → AW G m_X3_judgeNet 6 0 0 91 [(0, .ref x0), (1, .int x1)] [] σ (ah_N G (ah_rv r))) : ∀ (x0 : Nat) (x1 : Int32) (σ : ah_H) (r : ah_H), f_X3_judgeNet_91_b  K91 x0 x1 σ = some r → AW G m_X3_judgeNet 6 0 0 91 [(0, .ref x0), (1, .int x1)] [] σ (ah_N G (ah_rv r)) := by
  intro x0 x1 σ r h
  unfold f_X3_judgeNet_91_b at h
  refine aw_iload_n (pc := 91) 1 dX3_judgeNet_91 rfl ?_
  refine aw_if_lt (pc := 92) 135 dX3_judgeNet_92 (by decide) (fun z => ?_) (fun z => ?_)
  · replace h := (if_pos z).symm.trans h
    exact ow_vret (pc := 135) h dX3_judgeNet_135 rfl
  · replace h := (if_neg z).symm.trans h
    refine aw_aload_n (pc := 95) 0 dX3_judgeNet_95 rfl ?_
    refine aw_iload_n (pc := 96) 1 dX3_judgeNet_96 rfl ?_
    refine aw_aload_n (pc := 97) 0 dX3_judgeNet_97 rfl ?_
    obtain ⟨v1, e, h⟩ := op_bd h
    refine ow_gR (pc := 98) e dX3_judgeNet_98 fd_X3_37 rfl ?_
    obtain ⟨v2, e, h⟩ := op_bd h
    refine ow_gI (pc := 101) e dX3_judgeNet_101 fd_X3_146 rfl ?_
    obtain ⟨r3, e, h⟩ := op_bd h
    refine ow_cVi (pc := 104) [.int x1, .int v2] ((c_X3_runsTo _ _ _ _ _ e).mono (by decide)) (op_ck_sh e) rfl dX3_judgeNet_104 cw_X3_121 rfl (Nat.le_of_ble_eq_true rfl) ?_
    refine aw_if_eq (pc := 107) 129 dX3_judgeNet_107 (by decide) (fun z => ?_) (fun z => ?_)
    · replace h := (if_pos z).symm.trans h
      exact c_X3_judgeNet_129 K91 hK91 _ _ _ _ h
    · replace h := (if_neg z).symm.trans h
      refine aw_aload_n (pc := 110) 0 dX3_judgeNet_110 rfl ?_
      refine aw_iload_n (pc := 111) 1 dX3_judgeNet_111 rfl ?_
      obtain ⟨r4, e, h⟩ := op_bd h
      refine ow_cVi (pc := 112) [.int x1] ((c_X3_endsBelowRiver _ _ _ _ e).mono (by decide)) (op_ck_sh e) rfl dX3_judgeNet_112 cw_X3_162 rfl (Nat.le_of_ble_eq_true rfl) ?_
      refine aw_if_eq (pc := 115) 129 dX3_judgeNet_115 (by decide) (fun z => ?_) (fun z => ?_)
      · replace h := (if_pos z).symm.trans h
        exact c_X3_judgeNet_129 K91 hK91 _ _ _ _ h
      · replace h := (if_neg z).symm.trans h
        refine aw_aload_n (pc := 118) 0 dX3_judgeNet_118 rfl ?_
        refine aw_bipush (pc := 119) (v := (8 : Int32)) dX3_judgeNet_119 (by decide) ?_
        obtain ⟨σ5, e, h⟩ := op_bd h
        refine ow_pI (pc := 121) e dX3_judgeNet_121 fd_X3_149 ?_
        refine aw_aload_n (pc := 124) 0 dX3_judgeNet_124 rfl ?_
        refine aw_iload_n (pc := 125) 1 dX3_judgeNet_125 rfl ?_
        obtain ⟨σ6, e, h⟩ := op_bd h
        refine ow_pI (pc := 126) e dX3_judgeNet_126 fd_X3_152 ?_
        exact c_X3_judgeNet_129 K91 hK91 _ _ _ _ h
theorem c_X3_judgeNet_91 {G : ah_G}   : ∀ (n : Nat) (x0 : Nat) (x1 : Int32) (σ : ah_H) (r : ah_H), f_X3_judgeNet_91   n x0 x1 σ = some r → AW G m_X3_judgeNet 6 0 0 91 [(0, .ref x0), (1, .int x1)] [] σ (ah_N G (ah_rv r)) := by
  intro n
  induction n with
  | zero => intro x0 x1 σ r h; cases h
  | succ n ih => intro x0 x1 σ r h; exact c_X3_judgeNet_91_b   _ ih x0 x1 σ r h
set_option maxRecDepth 100000 in
set_option maxHeartbeats 4000000 in
theorem c_X3_judgeNet_76 {G : ah_G}   : ∀ (x0 : Nat) (σ : ah_H) (r : ah_H), f_X3_judgeNet_76   x0 σ = some r → AW G m_X3_judgeNet 6 0 0 76 [(0, .ref x0)] [] σ (ah_N G (ah_rv r)) := by
  intro x0 σ r h
  unfold f_X3_judgeNet_76 at h
  refine aw_aload_n (pc := 76) 0 dX3_judgeNet_76 rfl ?_
  refine aw_iconst (pc := 77) (v := (0 : Int32)) dX3_judgeNet_77 (by decide) ?_
  obtain ⟨σ1, e, h⟩ := op_bd h
  refine ow_pI (pc := 78) e dX3_judgeNet_78 fd_X3_149 ?_
  refine aw_aload_n (pc := 81) 0 dX3_judgeNet_81 rfl ?_
  obtain ⟨v2, e, h⟩ := op_bd h
  refine ow_gR (pc := 82) e dX3_judgeNet_82 fd_X3_37 rfl ?_
  obtain ⟨v3, e, h⟩ := op_bd h
  refine ow_gI (pc := 85) e dX3_judgeNet_85 fd_X3_45 rfl ?_
  refine aw_iconst (pc := 88) (v := (1 : Int32)) dX3_judgeNet_88 (by decide) ?_
  refine aw_isub (pc := 89) dX3_judgeNet_89 ?_
  refine aw_istore_n (pc := 90) [(1, .int (v3 - (1 : Int32))), (0, .ref x0)] dX3_judgeNet_90 rfl (by decide) rfl ?_
  refine aw_sub [1, 0] rfl ?_
  exact c_X3_judgeNet_91  _ _ _ _ _ h
set_option maxRecDepth 100000 in
set_option maxHeartbeats 4000000 in
theorem c_X3_judgeNet_21_b {G : ah_G}  (K21 : Nat → Int32 → ah_H → Option (ah_H)) (hK21 : ∀ (x0 : Nat) (x1 : Int32) (σ : ah_H) (r : ah_H), K21 x0 x1 σ = some r → AW G m_X3_judgeNet 6 0 0 21 [(0, .ref x0), (1, .int x1)] [] σ (ah_N G (ah_rv r))) : ∀ (x0 : Nat) (x1 : Int32) (σ : ah_H) (r : ah_H), f_X3_judgeNet_21_b  K21 x0 x1 σ = some r → AW G m_X3_judgeNet 6 0 0 21 [(0, .ref x0), (1, .int x1)] [] σ (ah_N G (ah_rv r)) := by
  intro x0 x1 σ r h
  unfold f_X3_judgeNet_21_b at h
  refine aw_iload_n (pc := 21) 1 dX3_judgeNet_21 rfl ?_
  refine aw_aload_n (pc := 22) 0 dX3_judgeNet_22 rfl ?_
  obtain ⟨v1, e, h⟩ := op_bd h
  refine ow_gR (pc := 23) e dX3_judgeNet_23 fd_X3_37 rfl ?_
  obtain ⟨v2, e, h⟩ := op_bd h
  refine ow_gI (pc := 26) e dX3_judgeNet_26 fd_X3_45 rfl ?_
  refine aw_icmp_ge (pc := 29) 76 dX3_judgeNet_29 (by decide) (fun z => ?_) (fun z => ?_)
  · replace h := (if_pos z).symm.trans h
    refine aw_sub [0] rfl ?_
    exact c_X3_judgeNet_76  _ _ _ h
  · replace h := (if_neg z).symm.trans h
    refine aw_aload_n (pc := 32) 0 dX3_judgeNet_32 rfl ?_
    obtain ⟨v3, e, h⟩ := op_bd h
    refine ow_gR (pc := 33) e dX3_judgeNet_33 fd_X3_9 rfl ?_
    obtain ⟨v4, e, h⟩ := op_bd h
    refine ow_gR (pc := 36) e dX3_judgeNet_36 fd_X3_17 rfl ?_
    refine aw_iload_n (pc := 39) 1 dX3_judgeNet_39 rfl ?_
    obtain ⟨v5, e, h⟩ := op_bd h
    refine ow_aI (pc := 40) e dX3_judgeNet_40 ?_
    refine aw_iconst (pc := 41) (v := (-1 : Int32)) dX3_judgeNet_41 (by decide) ?_
    refine aw_icmp_ne (pc := 42) 49 dX3_judgeNet_42 (by decide) (fun z => ?_) (fun z => ?_)
    · replace h := (if_neg z).symm.trans h
      refine aw_aload_n (pc := 49) 0 dX3_judgeNet_49 rfl ?_
      refine aw_iload_n (pc := 50) 1 dX3_judgeNet_50 rfl ?_
      obtain ⟨r6, e, h⟩ := op_bd h
      refine ow_cVi (pc := 51) [.int x1] ((c_X3_lawBrokenBy _ _ _ _ e).mono (by decide)) (op_ck_sh e) rfl dX3_judgeNet_51 cw_X3_159 rfl (Nat.le_of_ble_eq_true rfl) ?_
      exact c_X3_judgeNet_54 K21 hK21 _ _ _ _ _ h
    · replace h := (if_pos z).symm.trans h
      refine aw_iconst (pc := 45) (v := (0 : Int32)) dX3_judgeNet_45 (by decide) ?_
      refine aw_goto (pc := 46) 54 dX3_judgeNet_46 (by decide) ?_
      exact c_X3_judgeNet_54 K21 hK21 _ _ _ _ _ h
theorem c_X3_judgeNet_21 {G : ah_G}   : ∀ (n : Nat) (x0 : Nat) (x1 : Int32) (σ : ah_H) (r : ah_H), f_X3_judgeNet_21   n x0 x1 σ = some r → AW G m_X3_judgeNet 6 0 0 21 [(0, .ref x0), (1, .int x1)] [] σ (ah_N G (ah_rv r)) := by
  intro n
  induction n with
  | zero => intro x0 x1 σ r h; cases h
  | succ n ih => intro x0 x1 σ r h; exact c_X3_judgeNet_21_b   _ ih x0 x1 σ r h
set_option maxRecDepth 100000 in
set_option maxHeartbeats 4000000 in
theorem c_X3_judgeNet_0 {G : ah_G}   : ∀ (x0 : Nat) (σ : ah_H) (r : ah_H), f_X3_judgeNet_0   x0 σ = some r → AW G m_X3_judgeNet 6 0 0 0 [(0, .ref x0)] [] σ (ah_N G (ah_rv r)) := by
  intro x0 σ r h
  unfold f_X3_judgeNet_0 at h
  refine aw_aload_n (pc := 0) 0 dX3_judgeNet_0 rfl ?_
  refine aw_bipush (pc := 1) (v := (7 : Int32)) dX3_judgeNet_1 (by decide) ?_
  obtain ⟨σ1, e, h⟩ := op_bd h
  refine ow_pI (pc := 3) e dX3_judgeNet_3 fd_X3_149 ?_
  refine aw_aload_n (pc := 6) 0 dX3_judgeNet_6 rfl ?_
  refine aw_iconst (pc := 7) (v := (-1 : Int32)) dX3_judgeNet_7 (by decide) ?_
  obtain ⟨σ2, e, h⟩ := op_bd h
  refine ow_pI (pc := 8) e dX3_judgeNet_8 fd_X3_152 ?_
  refine aw_aload_n (pc := 11) 0 dX3_judgeNet_11 rfl ?_
  obtain ⟨r3, e, h⟩ := op_bd h
  refine ow_cVi (pc := 12) [] ((c_X3_allRunOut _ _ _ e).mono (by decide)) (op_ck_sh e) rfl dX3_judgeNet_12 cw_X3_155 rfl (Nat.le_of_ble_eq_true rfl) ?_
  refine aw_if_ne (pc := 15) 19 dX3_judgeNet_15 (by decide) (fun z => ?_) (fun z => ?_)
  · replace h := (if_neg z).symm.trans h
    refine aw_iconst (pc := 19) (v := (0 : Int32)) dX3_judgeNet_19 (by decide) ?_
    refine aw_istore_n (pc := 20) [(1, .int (0 : Int32)), (0, .ref x0)] dX3_judgeNet_20 rfl (by decide) rfl ?_
    refine aw_sub [1, 0] rfl ?_
    exact c_X3_judgeNet_21  _ _ _ _ _ h
  · replace h := (if_pos z).symm.trans h
    exact ow_vret (pc := 18) h dX3_judgeNet_18 rfl
theorem c_X3_judgeNet {G : ah_G}   (x0 : Nat) (σ : ah_H) (r : ah_H) (h : f_X3_judgeNet  x0 σ = some r) : AM G m_X3_judgeNet 6 0 0 [.ref x0] σ (ah_rv r) := aw_enter (by decide) (Nat.le_of_ble_eq_true rfl) (c_X3_judgeNet_0 _ _ _ (op_ck_k h))
def f_X11_judged_0   (x0 : Nat) (x1 : Int32) (σ : ah_H) : Option (Int32 × ah_H) :=
  if x1 < 0 then (some ((-1 : Int32), σ)) else (if x1 ≤ (1 : Int32) then ((op_gR 11 6 σ x0).bind fun v1 => (f_X3_judgeNet v1 σ).bind fun r2 => if x1 = 0 then ((op_gR 11 6 r2 x0).bind fun v5 => (op_gI 3 3 r2 v5).bind fun v6 => some (v6, r2)) else ((op_gR 11 6 r2 x0).bind fun v3 => (op_gI 3 4 r2 v3).bind fun v4 => some (v4, r2))) else (some ((-1 : Int32), σ)))
def f_X11_judged  (x0 : Nat) (x1 : Int32) (σ : ah_H) : Option (Int32 × ah_H) := op_ck 11 σ x0 (f_X11_judged_0 x0 x1 σ)
set_option maxRecDepth 100000 in
set_option maxHeartbeats 4000000 in
theorem c_X11_judged_0 {G : ah_G}   : ∀ (x0 : Nat) (x1 : Int32) (σ : ah_H) (r : Int32 × ah_H), f_X11_judged_0   x0 x1 σ = some r → AW G m_X11_judged 7 0 0 0 [(0, .ref x0), (1, .int x1)] [] σ (ah_N G (ah_ri r)) := by
  intro x0 x1 σ r h
  unfold f_X11_judged_0 at h
  refine aw_iload_n (pc := 0) 1 dX11_judged_0 rfl ?_
  refine aw_if_lt (pc := 1) 9 dX11_judged_1 (by decide) (fun z => ?_) (fun z => ?_)
  · replace h := (if_pos z).symm.trans h
    refine aw_iconst (pc := 9) (v := (-1 : Int32)) dX11_judged_9 (by decide) ?_
    exact ow_iret (pc := 10) h dX11_judged_10 rfl
  · replace h := (if_neg z).symm.trans h
    refine aw_iload_n (pc := 4) 1 dX11_judged_4 rfl ?_
    refine aw_iconst (pc := 5) (v := (1 : Int32)) dX11_judged_5 (by decide) ?_
    refine aw_icmp_le (pc := 6) 11 dX11_judged_6 (by decide) (fun z => ?_) (fun z => ?_)
    · replace h := (if_pos z).symm.trans h
      refine aw_aload_n (pc := 11) 0 dX11_judged_11 rfl ?_
      obtain ⟨v1, e, h⟩ := op_bd h
      refine ow_gR (pc := 12) e dX11_judged_12 fd_X11_48 rfl ?_
      obtain ⟨r2, e, h⟩ := op_bd h
      refine ow_cVv (pc := 15) [] ((c_X3_judgeNet _ _ _ e).mono (by decide)) (op_ck_sh e) rfl dX11_judged_15 cw_X11_180 rfl (Nat.le_of_ble_eq_true rfl) ?_
      refine aw_iload_n (pc := 18) 1 dX11_judged_18 rfl ?_
      refine aw_if_ne (pc := 19) 32 dX11_judged_19 (by decide) (fun z => ?_) (fun z => ?_)
      · replace h := (if_neg z).symm.trans h
        refine aw_aload_n (pc := 32) 0 dX11_judged_32 rfl ?_
        obtain ⟨v3, e, h⟩ := op_bd h
        refine ow_gR (pc := 33) e dX11_judged_33 fd_X11_48 rfl ?_
        obtain ⟨v4, e, h⟩ := op_bd h
        refine ow_gI (pc := 36) e dX11_judged_36 fd_X11_186 rfl ?_
        exact ow_iret (pc := 39) h dX11_judged_39 rfl
      · replace h := (if_pos z).symm.trans h
        refine aw_aload_n (pc := 22) 0 dX11_judged_22 rfl ?_
        obtain ⟨v5, e, h⟩ := op_bd h
        refine ow_gR (pc := 23) e dX11_judged_23 fd_X11_48 rfl ?_
        obtain ⟨v6, e, h⟩ := op_bd h
        refine ow_gI (pc := 26) e dX11_judged_26 fd_X11_183 rfl ?_
        refine aw_goto (pc := 29) 39 dX11_judged_29 (by decide) ?_
        exact ow_iret (pc := 39) h dX11_judged_39 rfl
    · replace h := (if_neg z).symm.trans h
      refine aw_iconst (pc := 9) (v := (-1 : Int32)) dX11_judged_9 (by decide) ?_
      exact ow_iret (pc := 10) h dX11_judged_10 rfl
theorem c_X11_judged {G : ah_G}   (x0 : Nat) (x1 : Int32) (σ : ah_H) (r : Int32 × ah_H) (h : f_X11_judged  x0 x1 σ = some r) : AM G m_X11_judged 7 0 0 [.ref x0, .int x1] σ (ah_ri r) := aw_enter (by decide) (Nat.le_of_ble_eq_true rfl) (c_X11_judged_0 _ _ _ _ (op_ck_k h))
def f_X9_isRain_0   (x0 : Nat) (x1 : Int32) (σ : ah_H) : Option (Int32 × ah_H) :=
  if x1 < 0 then ((op_rz (0 : Int32)).map fun q => (q, σ)) else ((op_gI 9 8 σ x0).bind fun v1 => if v1 ≤ x1 then ((op_rz (0 : Int32)).map fun q => (q, σ)) else ((op_rz (1 : Int32)).map fun q => (q, σ)))
def f_X9_isRain  (x0 : Nat) (x1 : Int32) (σ : ah_H) : Option (Int32 × ah_H) := op_ck 9 σ x0 (f_X9_isRain_0 x0 x1 σ)
set_option maxRecDepth 100000 in
set_option maxHeartbeats 4000000 in
theorem c_X9_isRain_0 {G : ah_G}   : ∀ (x0 : Nat) (x1 : Int32) (σ : ah_H) (r : Int32 × ah_H), f_X9_isRain_0   x0 x1 σ = some r → AW G m_X9_isRain 0 0 0 0 [(0, .ref x0), (1, .int x1)] [] σ (ah_N G (ah_ri r)) := by
  intro x0 x1 σ r h
  unfold f_X9_isRain_0 at h
  refine aw_iload_n (pc := 0) 1 dX9_isRain_0 rfl ?_
  refine aw_if_lt (pc := 1) 16 dX9_isRain_1 (by decide) (fun z => ?_) (fun z => ?_)
  · replace h := (if_pos z).symm.trans h
    refine aw_iconst (pc := 16) (v := (0 : Int32)) dX9_isRain_16 (by decide) ?_
    exact ow_zret (pc := 17) h dX9_isRain_17 rfl
  · replace h := (if_neg z).symm.trans h
    refine aw_iload_n (pc := 4) 1 dX9_isRain_4 rfl ?_
    refine aw_aload_n (pc := 5) 0 dX9_isRain_5 rfl ?_
    obtain ⟨v1, e, h⟩ := op_bd h
    refine ow_gI (pc := 6) e dX9_isRain_6 fd_X9_61 rfl ?_
    refine aw_icmp_ge (pc := 9) 16 dX9_isRain_9 (by decide) (fun z => ?_) (fun z => ?_)
    · replace h := (if_pos z).symm.trans h
      refine aw_iconst (pc := 16) (v := (0 : Int32)) dX9_isRain_16 (by decide) ?_
      exact ow_zret (pc := 17) h dX9_isRain_17 rfl
    · replace h := (if_neg z).symm.trans h
      refine aw_iconst (pc := 12) (v := (1 : Int32)) dX9_isRain_12 (by decide) ?_
      refine aw_goto (pc := 13) 17 dX9_isRain_13 (by decide) ?_
      exact ow_zret (pc := 17) h dX9_isRain_17 rfl
theorem c_X9_isRain {G : ah_G}   (x0 : Nat) (x1 : Int32) (σ : ah_H) (r : Int32 × ah_H) (h : f_X9_isRain  x0 x1 σ = some r) : AM G m_X9_isRain 0 0 0 [.ref x0, .int x1] σ (ah_ri r) := aw_enter (by decide) (Nat.le_of_ble_eq_true rfl) (c_X9_isRain_0 _ _ _ _ (op_ck_k h))
def f_X11_flow_0   (x0 : Nat) (x1 : Int32) (x2 : Int32) (x3 : Int32) (σ : ah_H) : Option (Int64 × ah_H) :=
  (f_X11_hasPipe x0 x1 σ).bind fun r1 => if r1.1 = 0 then (some ((-1 : Int64), r1.2)) else ((op_gR 11 2 r1.2 x0).bind fun v2 => (f_X9_isRain v2 x2 r1.2).bind fun r3 => if r3.1 = 0 then (some ((-1 : Int64), r3.2)) else (if x3 < 0 then (some ((-1 : Int64), r3.2)) else (if x3 < (30 : Int32) then ((op_gR 11 6 r3.2 x0).bind fun v4 => (f_X3_refresh v4 r3.2).bind fun r5 => (op_gR 11 6 r5 x0).bind fun v6 => (op_gR 3 0 r5 v6).bind fun v7 => (op_gR 1 0 r5 v7).bind fun v8 => (op_aR .long r5 v8 x1).bind fun v9 => (op_aL r5 v9 ((x2 * (30 : Int32)) + x3)).bind fun v10 => some (v10, r5)) else (some ((-1 : Int64), r3.2)))))
def f_X11_flow  (x0 : Nat) (x1 : Int32) (x2 : Int32) (x3 : Int32) (σ : ah_H) : Option (Int64 × ah_H) := op_ck 11 σ x0 (f_X11_flow_0 x0 x1 x2 x3 σ)
set_option maxRecDepth 100000 in
set_option maxHeartbeats 4000000 in
theorem c_X11_flow_0 {G : ah_G}   : ∀ (x0 : Nat) (x1 : Int32) (x2 : Int32) (x3 : Int32) (σ : ah_H) (r : Int64 × ah_H), f_X11_flow_0   x0 x1 x2 x3 σ = some r → AW G m_X11_flow 5 0 0 0 [(0, .ref x0), (1, .int x1), (2, .int x2), (3, .int x3)] [] σ (ah_N G (ah_rl r)) := by
  intro x0 x1 x2 x3 σ r h
  unfold f_X11_flow_0 at h
  refine aw_aload_n (pc := 0) 0 dX11_flow_0 rfl ?_
  refine aw_iload_n (pc := 1) 1 dX11_flow_1 rfl ?_
  obtain ⟨r1, e, h⟩ := op_bd h
  refine ow_cVi (pc := 2) [.int x1] ((c_X11_hasPipe _ _ _ _ e).mono (by decide)) (op_ck_sh e) rfl dX11_flow_2 cw_X11_137 rfl (Nat.le_of_ble_eq_true rfl) ?_
  refine aw_if_eq (pc := 5) 29 dX11_flow_5 (by decide) (fun z => ?_) (fun z => ?_)
  · replace h := (if_pos z).symm.trans h
    refine aw_ldc2 (pc := 29) dX11_flow_29 kl_X11_166 ?_
    exact ow_lret (pc := 32) h dX11_flow_32 rfl
  · replace h := (if_neg z).symm.trans h
    refine aw_aload_n (pc := 8) 0 dX11_flow_8 rfl ?_
    obtain ⟨v2, e, h⟩ := op_bd h
    refine ow_gR (pc := 9) e dX11_flow_9 fd_X11_20 rfl ?_
    refine aw_iload_n (pc := 12) 2 dX11_flow_12 rfl ?_
    obtain ⟨r3, e, h⟩ := op_bd h
    refine ow_cVi (pc := 13) [.int x2] ((c_X9_isRain _ _ _ _ e).mono (by decide)) (op_ck_sh e) rfl dX11_flow_13 cw_X11_189 rfl (Nat.le_of_ble_eq_true rfl) ?_
    refine aw_if_eq (pc := 16) 29 dX11_flow_16 (by decide) (fun z => ?_) (fun z => ?_)
    · replace h := (if_pos z).symm.trans h
      refine aw_ldc2 (pc := 29) dX11_flow_29 kl_X11_166 ?_
      exact ow_lret (pc := 32) h dX11_flow_32 rfl
    · replace h := (if_neg z).symm.trans h
      refine aw_iload_n (pc := 19) 3 dX11_flow_19 rfl ?_
      refine aw_if_lt (pc := 20) 29 dX11_flow_20 (by decide) (fun z => ?_) (fun z => ?_)
      · replace h := (if_pos z).symm.trans h
        refine aw_ldc2 (pc := 29) dX11_flow_29 kl_X11_166 ?_
        exact ow_lret (pc := 32) h dX11_flow_32 rfl
      · replace h := (if_neg z).symm.trans h
        refine aw_iload_n (pc := 23) 3 dX11_flow_23 rfl ?_
        refine aw_bipush (pc := 24) (v := (30 : Int32)) dX11_flow_24 (by decide) ?_
        refine aw_icmp_lt (pc := 26) 33 dX11_flow_26 (by decide) (fun z => ?_) (fun z => ?_)
        · replace h := (if_pos z).symm.trans h
          refine aw_aload_n (pc := 33) 0 dX11_flow_33 rfl ?_
          obtain ⟨v4, e, h⟩ := op_bd h
          refine ow_gR (pc := 34) e dX11_flow_34 fd_X11_48 rfl ?_
          obtain ⟨r5, e, h⟩ := op_bd h
          refine ow_cVv (pc := 37) [] ((c_X3_refresh _ _ _ e).mono (by decide)) (op_ck_sh e) rfl dX11_flow_37 cw_X11_192 rfl (Nat.le_of_ble_eq_true rfl) ?_
          refine aw_aload_n (pc := 40) 0 dX11_flow_40 rfl ?_
          obtain ⟨v6, e, h⟩ := op_bd h
          refine ow_gR (pc := 41) e dX11_flow_41 fd_X11_48 rfl ?_
          obtain ⟨v7, e, h⟩ := op_bd h
          refine ow_gR (pc := 44) e dX11_flow_44 fd_X11_195 rfl ?_
          obtain ⟨v8, e, h⟩ := op_bd h
          refine ow_gR (pc := 47) e dX11_flow_47 fd_X11_199 rfl ?_
          refine aw_iload_n (pc := 50) 1 dX11_flow_50 rfl ?_
          obtain ⟨v9, e, h⟩ := op_bd h
          refine ow_aR (pc := 51) e dX11_flow_51 (by decide) ?_
          refine aw_iload_n (pc := 52) 2 dX11_flow_52 rfl ?_
          refine aw_bipush (pc := 53) (v := (30 : Int32)) dX11_flow_53 (by decide) ?_
          refine aw_imul (pc := 55) dX11_flow_55 ?_
          refine aw_iload_n (pc := 56) 3 dX11_flow_56 rfl ?_
          refine aw_iadd (pc := 57) dX11_flow_57 ?_
          obtain ⟨v10, e, h⟩ := op_bd h
          refine ow_aL (pc := 58) e dX11_flow_58 ?_
          exact ow_lret (pc := 59) h dX11_flow_59 rfl
        · replace h := (if_neg z).symm.trans h
          refine aw_ldc2 (pc := 29) dX11_flow_29 kl_X11_166 ?_
          exact ow_lret (pc := 32) h dX11_flow_32 rfl
theorem c_X11_flow {G : ah_G}   (x0 : Nat) (x1 : Int32) (x2 : Int32) (x3 : Int32) (σ : ah_H) (r : Int64 × ah_H) (h : f_X11_flow  x0 x1 x2 x3 σ = some r) : AM G m_X11_flow 5 0 0 [.ref x0, .int x1, .int x2, .int x3] σ (ah_rl r) := aw_enter (by decide) (Nat.le_of_ble_eq_true rfl) (c_X11_flow_0 _ _ _ _ _ _ (op_ck_k h))
def f_X11_flooded_0   (x0 : Nat) (x1 : Int32) (x2 : Int32) (x3 : Int32) (σ : ah_H) : Option (Int64 × ah_H) :=
  (f_X11_hasPipe x0 x1 σ).bind fun r1 => if r1.1 = 0 then (some ((-1 : Int64), r1.2)) else ((op_gR 11 2 r1.2 x0).bind fun v2 => (f_X9_isRain v2 x2 r1.2).bind fun r3 => if r3.1 = 0 then (some ((-1 : Int64), r3.2)) else (if x3 < 0 then (some ((-1 : Int64), r3.2)) else (if x3 < (30 : Int32) then ((op_gR 11 6 r3.2 x0).bind fun v4 => (f_X3_refresh v4 r3.2).bind fun r5 => (op_gR 11 6 r5 x0).bind fun v6 => (op_gR 3 1 r5 v6).bind fun v7 => (op_gR 1 1 r5 v7).bind fun v8 => (op_aR .long r5 v8 x1).bind fun v9 => (op_aL r5 v9 ((x2 * (30 : Int32)) + x3)).bind fun v10 => some (v10, r5)) else (some ((-1 : Int64), r3.2)))))
def f_X11_flooded  (x0 : Nat) (x1 : Int32) (x2 : Int32) (x3 : Int32) (σ : ah_H) : Option (Int64 × ah_H) := op_ck 11 σ x0 (f_X11_flooded_0 x0 x1 x2 x3 σ)
set_option maxRecDepth 100000 in
set_option maxHeartbeats 4000000 in
theorem c_X11_flooded_0 {G : ah_G}   : ∀ (x0 : Nat) (x1 : Int32) (x2 : Int32) (x3 : Int32) (σ : ah_H) (r : Int64 × ah_H), f_X11_flooded_0   x0 x1 x2 x3 σ = some r → AW G m_X11_flooded 5 0 0 0 [(0, .ref x0), (1, .int x1), (2, .int x2), (3, .int x3)] [] σ (ah_N G (ah_rl r)) := by
  intro x0 x1 x2 x3 σ r h
  unfold f_X11_flooded_0 at h
  refine aw_aload_n (pc := 0) 0 dX11_flooded_0 rfl ?_
  refine aw_iload_n (pc := 1) 1 dX11_flooded_1 rfl ?_
  obtain ⟨r1, e, h⟩ := op_bd h
  refine ow_cVi (pc := 2) [.int x1] ((c_X11_hasPipe _ _ _ _ e).mono (by decide)) (op_ck_sh e) rfl dX11_flooded_2 cw_X11_137 rfl (Nat.le_of_ble_eq_true rfl) ?_
  refine aw_if_eq (pc := 5) 29 dX11_flooded_5 (by decide) (fun z => ?_) (fun z => ?_)
  · replace h := (if_pos z).symm.trans h
    refine aw_ldc2 (pc := 29) dX11_flooded_29 kl_X11_166 ?_
    exact ow_lret (pc := 32) h dX11_flooded_32 rfl
  · replace h := (if_neg z).symm.trans h
    refine aw_aload_n (pc := 8) 0 dX11_flooded_8 rfl ?_
    obtain ⟨v2, e, h⟩ := op_bd h
    refine ow_gR (pc := 9) e dX11_flooded_9 fd_X11_20 rfl ?_
    refine aw_iload_n (pc := 12) 2 dX11_flooded_12 rfl ?_
    obtain ⟨r3, e, h⟩ := op_bd h
    refine ow_cVi (pc := 13) [.int x2] ((c_X9_isRain _ _ _ _ e).mono (by decide)) (op_ck_sh e) rfl dX11_flooded_13 cw_X11_189 rfl (Nat.le_of_ble_eq_true rfl) ?_
    refine aw_if_eq (pc := 16) 29 dX11_flooded_16 (by decide) (fun z => ?_) (fun z => ?_)
    · replace h := (if_pos z).symm.trans h
      refine aw_ldc2 (pc := 29) dX11_flooded_29 kl_X11_166 ?_
      exact ow_lret (pc := 32) h dX11_flooded_32 rfl
    · replace h := (if_neg z).symm.trans h
      refine aw_iload_n (pc := 19) 3 dX11_flooded_19 rfl ?_
      refine aw_if_lt (pc := 20) 29 dX11_flooded_20 (by decide) (fun z => ?_) (fun z => ?_)
      · replace h := (if_pos z).symm.trans h
        refine aw_ldc2 (pc := 29) dX11_flooded_29 kl_X11_166 ?_
        exact ow_lret (pc := 32) h dX11_flooded_32 rfl
      · replace h := (if_neg z).symm.trans h
        refine aw_iload_n (pc := 23) 3 dX11_flooded_23 rfl ?_
        refine aw_bipush (pc := 24) (v := (30 : Int32)) dX11_flooded_24 (by decide) ?_
        refine aw_icmp_lt (pc := 26) 33 dX11_flooded_26 (by decide) (fun z => ?_) (fun z => ?_)
        · replace h := (if_pos z).symm.trans h
          refine aw_aload_n (pc := 33) 0 dX11_flooded_33 rfl ?_
          obtain ⟨v4, e, h⟩ := op_bd h
          refine ow_gR (pc := 34) e dX11_flooded_34 fd_X11_48 rfl ?_
          obtain ⟨r5, e, h⟩ := op_bd h
          refine ow_cVv (pc := 37) [] ((c_X3_refresh _ _ _ e).mono (by decide)) (op_ck_sh e) rfl dX11_flooded_37 cw_X11_192 rfl (Nat.le_of_ble_eq_true rfl) ?_
          refine aw_aload_n (pc := 40) 0 dX11_flooded_40 rfl ?_
          obtain ⟨v6, e, h⟩ := op_bd h
          refine ow_gR (pc := 41) e dX11_flooded_41 fd_X11_48 rfl ?_
          obtain ⟨v7, e, h⟩ := op_bd h
          refine ow_gR (pc := 44) e dX11_flooded_44 fd_X11_205 rfl ?_
          obtain ⟨v8, e, h⟩ := op_bd h
          refine ow_gR (pc := 47) e dX11_flooded_47 fd_X11_208 rfl ?_
          refine aw_iload_n (pc := 50) 1 dX11_flooded_50 rfl ?_
          obtain ⟨v9, e, h⟩ := op_bd h
          refine ow_aR (pc := 51) e dX11_flooded_51 (by decide) ?_
          refine aw_iload_n (pc := 52) 2 dX11_flooded_52 rfl ?_
          refine aw_bipush (pc := 53) (v := (30 : Int32)) dX11_flooded_53 (by decide) ?_
          refine aw_imul (pc := 55) dX11_flooded_55 ?_
          refine aw_iload_n (pc := 56) 3 dX11_flooded_56 rfl ?_
          refine aw_iadd (pc := 57) dX11_flooded_57 ?_
          obtain ⟨v10, e, h⟩ := op_bd h
          refine ow_aL (pc := 58) e dX11_flooded_58 ?_
          exact ow_lret (pc := 59) h dX11_flooded_59 rfl
        · replace h := (if_neg z).symm.trans h
          refine aw_ldc2 (pc := 29) dX11_flooded_29 kl_X11_166 ?_
          exact ow_lret (pc := 32) h dX11_flooded_32 rfl
theorem c_X11_flooded {G : ah_G}   (x0 : Nat) (x1 : Int32) (x2 : Int32) (x3 : Int32) (σ : ah_H) (r : Int64 × ah_H) (h : f_X11_flooded  x0 x1 x2 x3 σ = some r) : AM G m_X11_flooded 5 0 0 [.ref x0, .int x1, .int x2, .int x3] σ (ah_rl r) := aw_enter (by decide) (Nat.le_of_ble_eq_true rfl) (c_X11_flooded_0 _ _ _ _ _ _ (op_ck_k h))
def f_X11_floods_88  (K27 : Nat → Int32 → Int64 → Int32 → ah_H → Option (Int64 × ah_H)) (x0 : Nat) (x1 : Int32) (x2 : Int64) (x4 : Int32) (σ : ah_H) : Option (Int64 × ah_H) :=
  K27 x0 x1 x2 (x4 + (1 : Int32)) σ
def f_X11_floods_42_b  (K27 : Nat → Int32 → Int64 → Int32 → ah_H → Option (Int64 × ah_H)) (K42 : Nat → Int32 → Int64 → Int32 → Int32 → ah_H → Option (Int64 × ah_H)) (x0 : Nat) (x1 : Int32) (x2 : Int64) (x4 : Int32) (x5 : Int32) (σ : ah_H) : Option (Int64 × ah_H) :=
  (f_X11_hasPipe x0 x4 σ).bind fun r1 => if r1.1 = 0 then (f_X11_floods_88 K27 x0 x1 x2 x4 r1.2) else (if (30 : Int32) ≤ x5 then (f_X11_floods_88 K27 x0 x1 x2 x4 r1.2) else ((op_gR 11 6 r1.2 x0).bind fun v2 => (op_gR 3 1 r1.2 v2).bind fun v3 => (op_gR 1 1 r1.2 v3).bind fun v4 => (op_aR .long r1.2 v4 x4).bind fun v5 => (op_aL r1.2 v5 ((x1 * (30 : Int32)) + x5)).bind fun v6 => K42 x0 x1 (x2 + v6) x4 (x5 + (1 : Int32)) r1.2))
def f_X11_floods_42  (K27 : Nat → Int32 → Int64 → Int32 → ah_H → Option (Int64 × ah_H)) : Nat → Nat → Int32 → Int64 → Int32 → Int32 → ah_H → Option (Int64 × ah_H)
  | 0, _, _, _, _, _, _ => none
  | n + 1, x0, x1, x2, x4, x5, σ => f_X11_floods_42_b K27 (f_X11_floods_42 K27 n) x0 x1 x2 x4 x5 σ
def f_X11_floods_27_b  (K27 : Nat → Int32 → Int64 → Int32 → ah_H → Option (Int64 × ah_H)) (x0 : Nat) (x1 : Int32) (x2 : Int64) (x4 : Int32) (σ : ah_H) : Option (Int64 × ah_H) :=
  (op_gR 11 2 σ x0).bind fun v1 => (op_gI 9 0 σ v1).bind fun v2 => if v2 ≤ x4 then (some (x2, σ)) else (f_X11_floods_42 K27 5000 x0 x1 x2 x4 (0 : Int32) σ)
def f_X11_floods_27   : Nat → Nat → Int32 → Int64 → Int32 → ah_H → Option (Int64 × ah_H)
  | 0, _, _, _, _, _ => none
  | n + 1, x0, x1, x2, x4, σ => f_X11_floods_27_b (f_X11_floods_27 n) x0 x1 x2 x4 σ
def f_X11_floods_0   (x0 : Nat) (x1 : Int32) (σ : ah_H) : Option (Int64 × ah_H) :=
  (op_gR 11 2 σ x0).bind fun v1 => (f_X9_isRain v1 x1 σ).bind fun r2 => if r2.1 = 0 then (some ((-1 : Int64), r2.2)) else ((op_gR 11 6 r2.2 x0).bind fun v3 => (f_X3_refresh v3 r2.2).bind fun r4 => f_X11_floods_27 5000 x0 x1 (0 : Int64) (0 : Int32) r4)
def f_X11_floods  (x0 : Nat) (x1 : Int32) (σ : ah_H) : Option (Int64 × ah_H) := op_ck 11 σ x0 (f_X11_floods_0 x0 x1 σ)
set_option maxRecDepth 100000 in
set_option maxHeartbeats 4000000 in
theorem c_X11_floods_88 {G : ah_G}  (K27 : Nat → Int32 → Int64 → Int32 → ah_H → Option (Int64 × ah_H)) (hK27 : ∀ (x0 : Nat) (x1 : Int32) (x2 : Int64) (x4 : Int32) (σ : ah_H) (r : Int64 × ah_H), K27 x0 x1 x2 x4 σ = some r → AW G m_X11_floods 5 0 0 27 [(0, .ref x0), (1, .int x1), (2, .long x2), (4, .int x4)] [] σ (ah_N G (ah_rl r))) : ∀ (x0 : Nat) (x1 : Int32) (x2 : Int64) (x4 : Int32) (σ : ah_H) (r : Int64 × ah_H), f_X11_floods_88  K27 x0 x1 x2 x4 σ = some r → AW G m_X11_floods 5 0 0 88 [(0, .ref x0), (1, .int x1), (2, .long x2), (4, .int x4)] [] σ (ah_N G (ah_rl r)) := by
  intro x0 x1 x2 x4 σ r h
  unfold f_X11_floods_88 at h
  refine aw_iinc (pc := 88) 3 [(4, .int (x4 + (1 : Int32))), (0, .ref x0), (1, .int x1), (2, .long x2)] (x4 + (1 : Int32)) dX11_floods_88 rfl rfl (by decide) rfl ?_
  refine aw_goto (pc := 91) 27 dX11_floods_91 (by decide) ?_
  refine aw_sub [1, 2, 3, 0] rfl ?_
  exact hK27 _ _ _ _ _ _ h
set_option maxRecDepth 100000 in
set_option maxHeartbeats 4000000 in
theorem c_X11_floods_42_b {G : ah_G}  (K27 : Nat → Int32 → Int64 → Int32 → ah_H → Option (Int64 × ah_H)) (hK27 : ∀ (x0 : Nat) (x1 : Int32) (x2 : Int64) (x4 : Int32) (σ : ah_H) (r : Int64 × ah_H), K27 x0 x1 x2 x4 σ = some r → AW G m_X11_floods 5 0 0 27 [(0, .ref x0), (1, .int x1), (2, .long x2), (4, .int x4)] [] σ (ah_N G (ah_rl r))) (K42 : Nat → Int32 → Int64 → Int32 → Int32 → ah_H → Option (Int64 × ah_H)) (hK42 : ∀ (x0 : Nat) (x1 : Int32) (x2 : Int64) (x4 : Int32) (x5 : Int32) (σ : ah_H) (r : Int64 × ah_H), K42 x0 x1 x2 x4 x5 σ = some r → AW G m_X11_floods 5 0 0 42 [(0, .ref x0), (1, .int x1), (2, .long x2), (4, .int x4), (5, .int x5)] [] σ (ah_N G (ah_rl r))) : ∀ (x0 : Nat) (x1 : Int32) (x2 : Int64) (x4 : Int32) (x5 : Int32) (σ : ah_H) (r : Int64 × ah_H), f_X11_floods_42_b  K27 K42 x0 x1 x2 x4 x5 σ = some r → AW G m_X11_floods 5 0 0 42 [(0, .ref x0), (1, .int x1), (2, .long x2), (4, .int x4), (5, .int x5)] [] σ (ah_N G (ah_rl r)) := by
  intro x0 x1 x2 x4 x5 σ r h
  unfold f_X11_floods_42_b at h
  refine aw_aload_n (pc := 42) 0 dX11_floods_42 rfl ?_
  refine aw_iload (pc := 43) 3 dX11_floods_43 rfl ?_
  obtain ⟨r1, e, h⟩ := op_bd h
  refine ow_cVi (pc := 45) [.int x4] ((c_X11_hasPipe _ _ _ _ e).mono (by decide)) (op_ck_sh e) rfl dX11_floods_45 cw_X11_137 rfl (Nat.le_of_ble_eq_true rfl) ?_
  refine aw_if_eq (pc := 48) 88 dX11_floods_48 (by decide) (fun z => ?_) (fun z => ?_)
  · replace h := (if_pos z).symm.trans h
    refine aw_sub [0, 1, 2, 3] rfl ?_
    exact c_X11_floods_88 K27 hK27 _ _ _ _ _ _ h
  · replace h := (if_neg z).symm.trans h
    refine aw_iload (pc := 51) 4 dX11_floods_51 rfl ?_
    refine aw_bipush (pc := 53) (v := (30 : Int32)) dX11_floods_53 (by decide) ?_
    refine aw_icmp_ge (pc := 55) 88 dX11_floods_55 (by decide) (fun z => ?_) (fun z => ?_)
    · replace h := (if_pos z).symm.trans h
      refine aw_sub [0, 1, 2, 3] rfl ?_
      exact c_X11_floods_88 K27 hK27 _ _ _ _ _ _ h
    · replace h := (if_neg z).symm.trans h
      refine aw_lload_n (pc := 58) 2 dX11_floods_58 rfl ?_
      refine aw_aload_n (pc := 59) 0 dX11_floods_59 rfl ?_
      obtain ⟨v2, e, h⟩ := op_bd h
      refine ow_gR (pc := 60) e dX11_floods_60 fd_X11_48 rfl ?_
      obtain ⟨v3, e, h⟩ := op_bd h
      refine ow_gR (pc := 63) e dX11_floods_63 fd_X11_205 rfl ?_
      obtain ⟨v4, e, h⟩ := op_bd h
      refine ow_gR (pc := 66) e dX11_floods_66 fd_X11_208 rfl ?_
      refine aw_iload (pc := 69) 3 dX11_floods_69 rfl ?_
      obtain ⟨v5, e, h⟩ := op_bd h
      refine ow_aR (pc := 71) e dX11_floods_71 (by decide) ?_
      refine aw_iload_n (pc := 72) 1 dX11_floods_72 rfl ?_
      refine aw_bipush (pc := 73) (v := (30 : Int32)) dX11_floods_73 (by decide) ?_
      refine aw_imul (pc := 75) dX11_floods_75 ?_
      refine aw_iload (pc := 76) 4 dX11_floods_76 rfl ?_
      refine aw_iadd (pc := 78) dX11_floods_78 ?_
      obtain ⟨v6, e, h⟩ := op_bd h
      refine ow_aL (pc := 79) e dX11_floods_79 ?_
      refine aw_ladd (pc := 80) dX11_floods_80 ?_
      refine aw_lstore_n (pc := 81) [(2, .long (x2 + v6)), (0, .ref x0), (1, .int x1), (4, .int x4), (5, .int x5)] dX11_floods_81 rfl (by decide) rfl ?_
      refine aw_iinc (pc := 82) 4 [(5, .int (x5 + (1 : Int32))), (2, .long (x2 + v6)), (0, .ref x0), (1, .int x1), (4, .int x4)] (x5 + (1 : Int32)) dX11_floods_82 rfl rfl (by decide) rfl ?_
      refine aw_goto (pc := 85) 42 dX11_floods_85 (by decide) ?_
      refine aw_sub [2, 3, 1, 4, 0] rfl ?_
      exact hK42 _ _ _ _ _ _ _ h
theorem c_X11_floods_42 {G : ah_G}  (K27 : Nat → Int32 → Int64 → Int32 → ah_H → Option (Int64 × ah_H)) (hK27 : ∀ (x0 : Nat) (x1 : Int32) (x2 : Int64) (x4 : Int32) (σ : ah_H) (r : Int64 × ah_H), K27 x0 x1 x2 x4 σ = some r → AW G m_X11_floods 5 0 0 27 [(0, .ref x0), (1, .int x1), (2, .long x2), (4, .int x4)] [] σ (ah_N G (ah_rl r))) : ∀ (n : Nat) (x0 : Nat) (x1 : Int32) (x2 : Int64) (x4 : Int32) (x5 : Int32) (σ : ah_H) (r : Int64 × ah_H), f_X11_floods_42  K27 n x0 x1 x2 x4 x5 σ = some r → AW G m_X11_floods 5 0 0 42 [(0, .ref x0), (1, .int x1), (2, .long x2), (4, .int x4), (5, .int x5)] [] σ (ah_N G (ah_rl r)) := by
  intro n
  induction n with
  | zero => intro x0 x1 x2 x4 x5 σ r h; cases h
  | succ n ih => intro x0 x1 x2 x4 x5 σ r h; exact c_X11_floods_42_b  K27 hK27 _ ih x0 x1 x2 x4 x5 σ r h
set_option maxRecDepth 100000 in
set_option maxHeartbeats 4000000 in
theorem c_X11_floods_27_b {G : ah_G}  (K27 : Nat → Int32 → Int64 → Int32 → ah_H → Option (Int64 × ah_H)) (hK27 : ∀ (x0 : Nat) (x1 : Int32) (x2 : Int64) (x4 : Int32) (σ : ah_H) (r : Int64 × ah_H), K27 x0 x1 x2 x4 σ = some r → AW G m_X11_floods 5 0 0 27 [(0, .ref x0), (1, .int x1), (2, .long x2), (4, .int x4)] [] σ (ah_N G (ah_rl r))) : ∀ (x0 : Nat) (x1 : Int32) (x2 : Int64) (x4 : Int32) (σ : ah_H) (r : Int64 × ah_H), f_X11_floods_27_b  K27 x0 x1 x2 x4 σ = some r → AW G m_X11_floods 5 0 0 27 [(0, .ref x0), (1, .int x1), (2, .long x2), (4, .int x4)] [] σ (ah_N G (ah_rl r)) := by
  intro x0 x1 x2 x4 σ r h
  unfold f_X11_floods_27_b at h
  refine aw_iload (pc := 27) 3 dX11_floods_27 rfl ?_
  refine aw_aload_n (pc := 29) 0 dX11_floods_29 rfl ?_
  obtain ⟨v1, e, h⟩ := op_bd h
  refine ow_gR (pc := 30) e dX11_floods_30 fd_X11_20 rfl ?_
  obtain ⟨v2, e, h⟩ := op_bd h
  refine ow_gI (pc := 33) e dX11_floods_33 fd_X11_174 rfl ?_
  refine aw_icmp_ge (pc := 36) 94 dX11_floods_36 (by decide) (fun z => ?_) (fun z => ?_)
  · replace h := (if_pos z).symm.trans h
    refine aw_lload_n (pc := 94) 2 dX11_floods_94 rfl ?_
    exact ow_lret (pc := 95) h dX11_floods_95 rfl
  · replace h := (if_neg z).symm.trans h
    refine aw_iconst (pc := 39) (v := (0 : Int32)) dX11_floods_39 (by decide) ?_
    refine aw_istore (pc := 40) [(5, .int (0 : Int32)), (0, .ref x0), (1, .int x1), (2, .long x2), (4, .int x4)] dX11_floods_40 (by decide) rfl ?_
    refine aw_sub [1, 2, 3, 4, 0] rfl ?_
    exact c_X11_floods_42 K27 hK27 _ _ _ _ _ _ _ _ h
theorem c_X11_floods_27 {G : ah_G}   : ∀ (n : Nat) (x0 : Nat) (x1 : Int32) (x2 : Int64) (x4 : Int32) (σ : ah_H) (r : Int64 × ah_H), f_X11_floods_27   n x0 x1 x2 x4 σ = some r → AW G m_X11_floods 5 0 0 27 [(0, .ref x0), (1, .int x1), (2, .long x2), (4, .int x4)] [] σ (ah_N G (ah_rl r)) := by
  intro n
  induction n with
  | zero => intro x0 x1 x2 x4 σ r h; cases h
  | succ n ih => intro x0 x1 x2 x4 σ r h; exact c_X11_floods_27_b   _ ih x0 x1 x2 x4 σ r h
set_option maxRecDepth 100000 in
set_option maxHeartbeats 4000000 in
theorem c_X11_floods_0 {G : ah_G}   : ∀ (x0 : Nat) (x1 : Int32) (σ : ah_H) (r : Int64 × ah_H), f_X11_floods_0   x0 x1 σ = some r → AW G m_X11_floods 5 0 0 0 [(0, .ref x0), (1, .int x1)] [] σ (ah_N G (ah_rl r)) := by
  intro x0 x1 σ r h
  unfold f_X11_floods_0 at h
  refine aw_aload_n (pc := 0) 0 dX11_floods_0 rfl ?_
  obtain ⟨v1, e, h⟩ := op_bd h
  refine ow_gR (pc := 1) e dX11_floods_1 fd_X11_20 rfl ?_
  refine aw_iload_n (pc := 4) 1 dX11_floods_4 rfl ?_
  obtain ⟨r2, e, h⟩ := op_bd h
  refine ow_cVi (pc := 5) [.int x1] ((c_X9_isRain _ _ _ _ e).mono (by decide)) (op_ck_sh e) rfl dX11_floods_5 cw_X11_189 rfl (Nat.le_of_ble_eq_true rfl) ?_
  refine aw_if_ne (pc := 8) 15 dX11_floods_8 (by decide) (fun z => ?_) (fun z => ?_)
  · replace h := (if_neg z).symm.trans h
    refine aw_aload_n (pc := 15) 0 dX11_floods_15 rfl ?_
    obtain ⟨v3, e, h⟩ := op_bd h
    refine ow_gR (pc := 16) e dX11_floods_16 fd_X11_48 rfl ?_
    obtain ⟨r4, e, h⟩ := op_bd h
    refine ow_cVv (pc := 19) [] ((c_X3_refresh _ _ _ e).mono (by decide)) (op_ck_sh e) rfl dX11_floods_19 cw_X11_192 rfl (Nat.le_of_ble_eq_true rfl) ?_
    refine aw_lconst (pc := 22) (v := (0 : Int64)) dX11_floods_22 (by decide) ?_
    refine aw_lstore_n (pc := 23) [(2, .long (0 : Int64)), (0, .ref x0), (1, .int x1)] dX11_floods_23 rfl (by decide) rfl ?_
    refine aw_iconst (pc := 24) (v := (0 : Int32)) dX11_floods_24 (by decide) ?_
    refine aw_istore (pc := 25) [(4, .int (0 : Int32)), (2, .long (0 : Int64)), (0, .ref x0), (1, .int x1)] dX11_floods_25 (by decide) rfl ?_
    refine aw_sub [2, 3, 1, 0] rfl ?_
    exact c_X11_floods_27  _ _ _ _ _ _ _ h
  · replace h := (if_pos z).symm.trans h
    refine aw_ldc2 (pc := 11) dX11_floods_11 kl_X11_166 ?_
    exact ow_lret (pc := 14) h dX11_floods_14 rfl
theorem c_X11_floods {G : ah_G}   (x0 : Nat) (x1 : Int32) (σ : ah_H) (r : Int64 × ah_H) (h : f_X11_floods  x0 x1 σ = some r) : AM G m_X11_floods 5 0 0 [.ref x0, .int x1] σ (ah_rl r) := aw_enter (by decide) (Nat.le_of_ble_eq_true rfl) (c_X11_floods_0 _ _ _ _ (op_ck_k h))
def f_X11_worst_0   (x0 : Nat) (x1 : Int32) (x2 : Int32) (σ : ah_H) : Option (Int64 × ah_H) :=
  (f_X11_hasPipe x0 x1 σ).bind fun r1 => if r1.1 = 0 then (some ((-1 : Int64), r1.2)) else ((op_gR 11 2 r1.2 x0).bind fun v2 => (op_gI 9 8 r1.2 v2).bind fun v3 => if v3 = 0 then (some ((-1 : Int64), r1.2)) else (if x2 < 0 then (some ((-1 : Int64), r1.2)) else (if x2 ≤ (2 : Int32) then ((op_gR 11 6 r1.2 x0).bind fun v4 => (f_X3_refresh v4 r1.2).bind fun r5 => if x2 = 0 then ((op_gR 11 6 r5 x0).bind fun v12 => (op_gR 3 0 r5 v12).bind fun v13 => (f_X1_greatest v13 x1 r5).bind fun r14 => some (r14.1, r14.2)) else ((op_gR 11 6 r5 x0).bind fun v6 => (op_gR 3 0 r5 v6).bind fun v7 => (op_gR 1 3 r5 v7).bind fun v8 => (op_aI r5 v8 x1).bind fun v9 => if x2 = (1 : Int32) then ((op_div v9 (30 : Int32)).bind fun v11 => some ((Int32.toInt64 v11), r5)) else ((op_rem v9 (30 : Int32)).bind fun v10 => some ((Int32.toInt64 v10), r5)))) else (some ((-1 : Int64), r1.2)))))
def f_X11_worst  (x0 : Nat) (x1 : Int32) (x2 : Int32) (σ : ah_H) : Option (Int64 × ah_H) := op_ck 11 σ x0 (f_X11_worst_0 x0 x1 x2 σ)
set_option maxRecDepth 100000 in
set_option maxHeartbeats 4000000 in
theorem c_X11_worst_0 {G : ah_G}   : ∀ (x0 : Nat) (x1 : Int32) (x2 : Int32) (σ : ah_H) (r : Int64 × ah_H), f_X11_worst_0   x0 x1 x2 σ = some r → AW G m_X11_worst 5 0 0 0 [(0, .ref x0), (1, .int x1), (2, .int x2)] [] σ (ah_N G (ah_rl r)) := by
  intro x0 x1 x2 σ r h
  unfold f_X11_worst_0 at h
  refine aw_aload_n (pc := 0) 0 dX11_worst_0 rfl ?_
  refine aw_iload_n (pc := 1) 1 dX11_worst_1 rfl ?_
  obtain ⟨r1, e, h⟩ := op_bd h
  refine ow_cVi (pc := 2) [.int x1] ((c_X11_hasPipe _ _ _ _ e).mono (by decide)) (op_ck_sh e) rfl dX11_worst_2 cw_X11_137 rfl (Nat.le_of_ble_eq_true rfl) ?_
  refine aw_if_eq (pc := 5) 27 dX11_worst_5 (by decide) (fun z => ?_) (fun z => ?_)
  · replace h := (if_pos z).symm.trans h
    refine aw_ldc2 (pc := 27) dX11_worst_27 kl_X11_166 ?_
    exact ow_lret (pc := 30) h dX11_worst_30 rfl
  · replace h := (if_neg z).symm.trans h
    refine aw_aload_n (pc := 8) 0 dX11_worst_8 rfl ?_
    obtain ⟨v2, e, h⟩ := op_bd h
    refine ow_gR (pc := 9) e dX11_worst_9 fd_X11_20 rfl ?_
    obtain ⟨v3, e, h⟩ := op_bd h
    refine ow_gI (pc := 12) e dX11_worst_12 fd_X11_211 rfl ?_
    refine aw_if_eq (pc := 15) 27 dX11_worst_15 (by decide) (fun z => ?_) (fun z => ?_)
    · replace h := (if_pos z).symm.trans h
      refine aw_ldc2 (pc := 27) dX11_worst_27 kl_X11_166 ?_
      exact ow_lret (pc := 30) h dX11_worst_30 rfl
    · replace h := (if_neg z).symm.trans h
      refine aw_iload_n (pc := 18) 2 dX11_worst_18 rfl ?_
      refine aw_if_lt (pc := 19) 27 dX11_worst_19 (by decide) (fun z => ?_) (fun z => ?_)
      · replace h := (if_pos z).symm.trans h
        refine aw_ldc2 (pc := 27) dX11_worst_27 kl_X11_166 ?_
        exact ow_lret (pc := 30) h dX11_worst_30 rfl
      · replace h := (if_neg z).symm.trans h
        refine aw_iload_n (pc := 22) 2 dX11_worst_22 rfl ?_
        refine aw_iconst (pc := 23) (v := (2 : Int32)) dX11_worst_23 (by decide) ?_
        refine aw_icmp_le (pc := 24) 31 dX11_worst_24 (by decide) (fun z => ?_) (fun z => ?_)
        · replace h := (if_pos z).symm.trans h
          refine aw_aload_n (pc := 31) 0 dX11_worst_31 rfl ?_
          obtain ⟨v4, e, h⟩ := op_bd h
          refine ow_gR (pc := 32) e dX11_worst_32 fd_X11_48 rfl ?_
          obtain ⟨r5, e, h⟩ := op_bd h
          refine ow_cVv (pc := 35) [] ((c_X3_refresh _ _ _ e).mono (by decide)) (op_ck_sh e) rfl dX11_worst_35 cw_X11_192 rfl (Nat.le_of_ble_eq_true rfl) ?_
          refine aw_iload_n (pc := 38) 2 dX11_worst_38 rfl ?_
          refine aw_if_ne (pc := 39) 54 dX11_worst_39 (by decide) (fun z => ?_) (fun z => ?_)
          · replace h := (if_neg z).symm.trans h
            refine aw_aload_n (pc := 54) 0 dX11_worst_54 rfl ?_
            obtain ⟨v6, e, h⟩ := op_bd h
            refine ow_gR (pc := 55) e dX11_worst_55 fd_X11_48 rfl ?_
            obtain ⟨v7, e, h⟩ := op_bd h
            refine ow_gR (pc := 58) e dX11_worst_58 fd_X11_195 rfl ?_
            obtain ⟨v8, e, h⟩ := op_bd h
            refine ow_gR (pc := 61) e dX11_worst_61 fd_X11_217 rfl ?_
            refine aw_iload_n (pc := 64) 1 dX11_worst_64 rfl ?_
            obtain ⟨v9, e, h⟩ := op_bd h
            refine ow_aI (pc := 65) e dX11_worst_65 ?_
            refine aw_istore_n (pc := 66) [(3, .int v9), (0, .ref x0), (1, .int x1), (2, .int x2)] dX11_worst_66 rfl (by decide) rfl ?_
            refine aw_iload_n (pc := 67) 3 dX11_worst_67 rfl ?_
            refine aw_iconst (pc := 68) (v := (1 : Int32)) dX11_worst_68 (by decide) ?_
            refine aw_icmp_ne (pc := 69) 80 dX11_worst_69 (by decide) (fun z => ?_) (fun z => ?_)
            · replace h := (if_neg z).symm.trans h
              refine aw_iload_n (pc := 80) 0 dX11_worst_80 rfl ?_
              refine aw_bipush (pc := 81) (v := (30 : Int32)) dX11_worst_81 (by decide) ?_
              obtain ⟨v10, e, h⟩ := op_bd h
              refine ow_rem (pc := 83) e dX11_worst_83 ?_
              refine aw_i2l (pc := 84) dX11_worst_84 ?_
              exact ow_lret (pc := 85) h dX11_worst_85 rfl
            · replace h := (if_pos z).symm.trans h
              refine aw_iload_n (pc := 72) 0 dX11_worst_72 rfl ?_
              refine aw_bipush (pc := 73) (v := (30 : Int32)) dX11_worst_73 (by decide) ?_
              obtain ⟨v11, e, h⟩ := op_bd h
              refine ow_div (pc := 75) e dX11_worst_75 ?_
              refine aw_i2l (pc := 76) dX11_worst_76 ?_
              refine aw_goto (pc := 77) 85 dX11_worst_77 (by decide) ?_
              exact ow_lret (pc := 85) h dX11_worst_85 rfl
          · replace h := (if_pos z).symm.trans h
            refine aw_aload_n (pc := 42) 0 dX11_worst_42 rfl ?_
            obtain ⟨v12, e, h⟩ := op_bd h
            refine ow_gR (pc := 43) e dX11_worst_43 fd_X11_48 rfl ?_
            obtain ⟨v13, e, h⟩ := op_bd h
            refine ow_gR (pc := 46) e dX11_worst_46 fd_X11_195 rfl ?_
            refine aw_iload_n (pc := 49) 1 dX11_worst_49 rfl ?_
            obtain ⟨r14, e, h⟩ := op_bd h
            refine ow_cVl (pc := 50) [.int x1] ((c_X1_greatest _ _ _ _ e).mono (by decide)) (op_ck_sh e) rfl dX11_worst_50 cw_X11_214 rfl (Nat.le_of_ble_eq_true rfl) ?_
            exact ow_lret (pc := 53) h dX11_worst_53 rfl
        · replace h := (if_neg z).symm.trans h
          refine aw_ldc2 (pc := 27) dX11_worst_27 kl_X11_166 ?_
          exact ow_lret (pc := 30) h dX11_worst_30 rfl
theorem c_X11_worst {G : ah_G}   (x0 : Nat) (x1 : Int32) (x2 : Int32) (σ : ah_H) (r : Int64 × ah_H) (h : f_X11_worst  x0 x1 x2 σ = some r) : AM G m_X11_worst 5 0 0 [.ref x0, .int x1, .int x2] σ (ah_rl r) := aw_enter (by decide) (Nat.le_of_ble_eq_true rfl) (c_X11_worst_0 _ _ _ _ _ (op_ck_k h))
def f_X3_burstOf_0   (x0 : Nat) (x1 : Int32) (σ : ah_H) : Option (Int32 × ah_H) :=
  (f_X3_refresh x0 σ).bind fun r1 => (op_gR 3 0 r1 x0).bind fun v2 => (f_X1_greatest v2 x1 r1).bind fun r3 => if 0 < (lg_cmp r3.1 (0 : Int64)) then ((f_X3_carriedBy x0 x1 r3.2).bind fun r4 => (op_ldiv (r4.1 * (100 : Int64)) r3.1).bind fun v5 => some ((Int64.toInt32 (op_minl (9999 : Int64) (v5 + (1 : Int64)))), r4.2)) else (some ((9999 : Int32), r3.2))
def f_X3_burstOf  (x0 : Nat) (x1 : Int32) (σ : ah_H) : Option (Int32 × ah_H) := op_ck 3 σ x0 (f_X3_burstOf_0 x0 x1 σ)
set_option maxRecDepth 100000 in
set_option maxHeartbeats 4000000 in
theorem c_X3_burstOf_0 {G : ah_G}   : ∀ (x0 : Nat) (x1 : Int32) (σ : ah_H) (r : Int32 × ah_H), f_X3_burstOf_0   x0 x1 σ = some r → AW G m_X3_burstOf 5 0 0 0 [(0, .ref x0), (1, .int x1)] [] σ (ah_N G (ah_ri r)) := by
  intro x0 x1 σ r h
  unfold f_X3_burstOf_0 at h
  refine aw_aload_n (pc := 0) 0 dX3_burstOf_0 rfl ?_
  obtain ⟨r1, e, h⟩ := op_bd h
  refine ow_cVv (pc := 1) [] ((c_X3_refresh _ _ _ e).mono (by decide)) (op_ck_sh e) rfl dX3_burstOf_1 cw_X3_111 rfl (Nat.le_of_ble_eq_true rfl) ?_
  refine aw_aload_n (pc := 4) 0 dX3_burstOf_4 rfl ?_
  obtain ⟨v2, e, h⟩ := op_bd h
  refine ow_gR (pc := 5) e dX3_burstOf_5 fd_X3_26 rfl ?_
  refine aw_iload_n (pc := 8) 1 dX3_burstOf_8 rfl ?_
  obtain ⟨r3, e, h⟩ := op_bd h
  refine ow_cVl (pc := 9) [.int x1] ((c_X1_greatest _ _ _ _ e).mono (by decide)) (op_ck_sh e) rfl dX3_burstOf_9 cw_X3_114 rfl (Nat.le_of_ble_eq_true rfl) ?_
  refine aw_lstore_n (pc := 12) [(2, .long r3.1), (0, .ref x0), (1, .int x1)] dX3_burstOf_12 rfl (by decide) rfl ?_
  refine aw_lload_n (pc := 13) 0 dX3_burstOf_13 rfl ?_
  refine aw_lconst (pc := 14) (v := (0 : Int64)) dX3_burstOf_14 (by decide) ?_
  refine aw_lcmp (pc := 15) dX3_burstOf_15 ?_
  refine aw_if_gt (pc := 16) 23 dX3_burstOf_16 (by decide) (fun z => ?_) (fun z => ?_)
  · replace h := (if_pos z).symm.trans h
    refine aw_ldc2 (pc := 23) dX3_burstOf_23 kl_X3_168 ?_
    refine aw_aload_n (pc := 26) 1 dX3_burstOf_26 rfl ?_
    refine aw_iload_n (pc := 27) 2 dX3_burstOf_27 rfl ?_
    obtain ⟨r4, e, h⟩ := op_bd h
    refine ow_cVl (pc := 28) [.int x1] ((c_X3_carriedBy _ _ _ _ e).mono (by decide)) (op_ck_sh e) rfl dX3_burstOf_28 cw_X3_55 rfl (Nat.le_of_ble_eq_true rfl) ?_
    refine aw_ldc2 (pc := 31) dX3_burstOf_31 kl_X3_170 ?_
    refine aw_lmul (pc := 34) dX3_burstOf_34 ?_
    refine aw_lload_n (pc := 35) 0 dX3_burstOf_35 rfl ?_
    obtain ⟨v5, e, h⟩ := op_bd h
    refine ow_ldiv (pc := 36) e dX3_burstOf_36 ?_
    refine aw_lconst (pc := 37) (v := (1 : Int64)) dX3_burstOf_37 (by decide) ?_
    refine aw_ladd (pc := 38) dX3_burstOf_38 ?_
    refine ow_minl (pc := 39) dX3_burstOf_39 mt_X3_172 (Nat.le_of_ble_eq_true rfl) ?_
    refine aw_l2i (pc := 42) dX3_burstOf_42 ?_
    exact ow_iret (pc := 43) h dX3_burstOf_43 rfl
  · replace h := (if_neg z).symm.trans h
    refine aw_sipush (pc := 19) (v := (9999 : Int32)) dX3_burstOf_19 (by decide) ?_
    exact ow_iret (pc := 22) h dX3_burstOf_22 rfl
theorem c_X3_burstOf {G : ah_G}   (x0 : Nat) (x1 : Int32) (σ : ah_H) (r : Int32 × ah_H) (h : f_X3_burstOf  x0 x1 σ = some r) : AM G m_X3_burstOf 5 0 0 [.ref x0, .int x1] σ (ah_ri r) := aw_enter (by decide) (Nat.le_of_ble_eq_true rfl) (c_X3_burstOf_0 _ _ _ _ (op_ck_k h))
def f_X11_burst_0   (x0 : Nat) (x1 : Int32) (σ : ah_H) : Option (Int32 × ah_H) :=
  (f_X11_hasPipe x0 x1 σ).bind fun r1 => if r1.1 = 0 then (some ((-1 : Int32), r1.2)) else ((op_gR 11 6 r1.2 x0).bind fun v2 => (f_X3_burstOf v2 x1 r1.2).bind fun r3 => some (r3.1, r3.2))
def f_X11_burst  (x0 : Nat) (x1 : Int32) (σ : ah_H) : Option (Int32 × ah_H) := op_ck 11 σ x0 (f_X11_burst_0 x0 x1 σ)
set_option maxRecDepth 100000 in
set_option maxHeartbeats 4000000 in
theorem c_X11_burst_0 {G : ah_G}   : ∀ (x0 : Nat) (x1 : Int32) (σ : ah_H) (r : Int32 × ah_H), f_X11_burst_0   x0 x1 σ = some r → AW G m_X11_burst 6 0 0 0 [(0, .ref x0), (1, .int x1)] [] σ (ah_N G (ah_ri r)) := by
  intro x0 x1 σ r h
  unfold f_X11_burst_0 at h
  refine aw_aload_n (pc := 0) 0 dX11_burst_0 rfl ?_
  refine aw_iload_n (pc := 1) 1 dX11_burst_1 rfl ?_
  obtain ⟨r1, e, h⟩ := op_bd h
  refine ow_cVi (pc := 2) [.int x1] ((c_X11_hasPipe _ _ _ _ e).mono (by decide)) (op_ck_sh e) rfl dX11_burst_2 cw_X11_137 rfl (Nat.le_of_ble_eq_true rfl) ?_
  refine aw_if_eq (pc := 5) 19 dX11_burst_5 (by decide) (fun z => ?_) (fun z => ?_)
  · replace h := (if_pos z).symm.trans h
    refine aw_iconst (pc := 19) (v := (-1 : Int32)) dX11_burst_19 (by decide) ?_
    exact ow_iret (pc := 20) h dX11_burst_20 rfl
  · replace h := (if_neg z).symm.trans h
    refine aw_aload_n (pc := 8) 0 dX11_burst_8 rfl ?_
    obtain ⟨v2, e, h⟩ := op_bd h
    refine ow_gR (pc := 9) e dX11_burst_9 fd_X11_48 rfl ?_
    refine aw_iload_n (pc := 12) 1 dX11_burst_12 rfl ?_
    obtain ⟨r3, e, h⟩ := op_bd h
    refine ow_cVi (pc := 13) [.int x1] ((c_X3_burstOf _ _ _ _ e).mono (by decide)) (op_ck_sh e) rfl dX11_burst_13 cw_X11_220 rfl (Nat.le_of_ble_eq_true rfl) ?_
    refine aw_goto (pc := 16) 20 dX11_burst_16 (by decide) ?_
    exact ow_iret (pc := 20) h dX11_burst_20 rfl
theorem c_X11_burst {G : ah_G}   (x0 : Nat) (x1 : Int32) (σ : ah_H) (r : Int32 × ah_H) (h : f_X11_burst  x0 x1 σ = some r) : AM G m_X11_burst 6 0 0 [.ref x0, .int x1] σ (ah_ri r) := aw_enter (by decide) (Nat.le_of_ble_eq_true rfl) (c_X11_burst_0 _ _ _ _ (op_ck_k h))
def f_X11_bursts_52  (K8 : Nat → Int32 → Int32 → Int32 → ah_H → Option (Int32 × ah_H)) (x0 : Nat) (x1 : Int32) (x2 : Int32) (x3 : Int32) (σ : ah_H) : Option (Int32 × ah_H) :=
  K8 x0 x1 x2 (x3 + (1 : Int32)) σ
def f_X11_bursts_39  (K8 : Nat → Int32 → Int32 → Int32 → ah_H → Option (Int32 × ah_H)) (x0 : Nat) (x1 : Int32) (x2 : Int32) (x3 : Int32) (s0 : Int32) (σ : ah_H) : Option (Int32 × ah_H) :=
  if x2 ≤ s0 then (f_X11_bursts_52 K8 x0 x1 x2 x3 σ) else (f_X11_bursts_52 K8 x0 x3 s0 x3 σ)
def f_X11_bursts_8_b  (K8 : Nat → Int32 → Int32 → Int32 → ah_H → Option (Int32 × ah_H)) (x0 : Nat) (x1 : Int32) (x2 : Int32) (x3 : Int32) (σ : ah_H) : Option (Int32 × ah_H) :=
  (op_gR 11 2 σ x0).bind fun v1 => (op_gI 9 0 σ v1).bind fun v2 => if v2 ≤ x3 then (some (x1, σ)) else ((f_X11_hasPipe x0 x3 σ).bind fun r3 => if r3.1 = 0 then (f_X11_bursts_39 K8 x0 x1 x2 x3 x2 r3.2) else ((op_gR 11 6 r3.2 x0).bind fun v4 => (f_X3_burstOf v4 x3 r3.2).bind fun r5 => f_X11_bursts_39 K8 x0 x1 x2 x3 r5.1 r5.2))
def f_X11_bursts_8   : Nat → Nat → Int32 → Int32 → Int32 → ah_H → Option (Int32 × ah_H)
  | 0, _, _, _, _, _ => none
  | n + 1, x0, x1, x2, x3, σ => f_X11_bursts_8_b (f_X11_bursts_8 n) x0 x1 x2 x3 σ
def f_X11_bursts_0   (x0 : Nat) (σ : ah_H) : Option (Int32 × ah_H) :=
  f_X11_bursts_8 5000 x0 (-1 : Int32) (10000 : Int32) (0 : Int32) σ
def f_X11_bursts  (x0 : Nat) (σ : ah_H) : Option (Int32 × ah_H) := op_ck 11 σ x0 (f_X11_bursts_0 x0 σ)
set_option maxRecDepth 100000 in
set_option maxHeartbeats 4000000 in
theorem c_X11_bursts_52 {G : ah_G}  (K8 : Nat → Int32 → Int32 → Int32 → ah_H → Option (Int32 × ah_H)) (hK8 : ∀ (x0 : Nat) (x1 : Int32) (x2 : Int32) (x3 : Int32) (σ : ah_H) (r : Int32 × ah_H), K8 x0 x1 x2 x3 σ = some r → AW G m_X11_bursts 6 0 0 8 [(0, .ref x0), (1, .int x1), (2, .int x2), (3, .int x3)] [] σ (ah_N G (ah_ri r))) : ∀ (x0 : Nat) (x1 : Int32) (x2 : Int32) (x3 : Int32) (σ : ah_H) (r : Int32 × ah_H), f_X11_bursts_52  K8 x0 x1 x2 x3 σ = some r → AW G m_X11_bursts 6 0 0 52 [(0, .ref x0), (1, .int x1), (2, .int x2), (3, .int x3)] [] σ (ah_N G (ah_ri r)) := by
  intro x0 x1 x2 x3 σ r h
  unfold f_X11_bursts_52 at h
  refine aw_iinc (pc := 52) 3 [(3, .int (x3 + (1 : Int32))), (0, .ref x0), (1, .int x1), (2, .int x2)] (x3 + (1 : Int32)) dX11_bursts_52 rfl rfl (by decide) rfl ?_
  refine aw_goto (pc := 55) 8 dX11_bursts_55 (by decide) ?_
  refine aw_sub [1, 2, 3, 0] rfl ?_
  exact hK8 _ _ _ _ _ _ h
set_option maxRecDepth 100000 in
set_option maxHeartbeats 4000000 in
theorem c_X11_bursts_39 {G : ah_G}  (K8 : Nat → Int32 → Int32 → Int32 → ah_H → Option (Int32 × ah_H)) (hK8 : ∀ (x0 : Nat) (x1 : Int32) (x2 : Int32) (x3 : Int32) (σ : ah_H) (r : Int32 × ah_H), K8 x0 x1 x2 x3 σ = some r → AW G m_X11_bursts 6 0 0 8 [(0, .ref x0), (1, .int x1), (2, .int x2), (3, .int x3)] [] σ (ah_N G (ah_ri r))) : ∀ (x0 : Nat) (x1 : Int32) (x2 : Int32) (x3 : Int32) (s0 : Int32) (σ : ah_H) (r : Int32 × ah_H), f_X11_bursts_39  K8 x0 x1 x2 x3 s0 σ = some r → AW G m_X11_bursts 6 0 0 39 [(0, .ref x0), (1, .int x1), (2, .int x2), (3, .int x3)] [.int s0] σ (ah_N G (ah_ri r)) := by
  intro x0 x1 x2 x3 s0 σ r h
  unfold f_X11_bursts_39 at h
  refine aw_istore (pc := 39) [(4, .int s0), (0, .ref x0), (1, .int x1), (2, .int x2), (3, .int x3)] dX11_bursts_39 (by decide) rfl ?_
  refine aw_iload (pc := 41) 0 dX11_bursts_41 rfl ?_
  refine aw_iload_n (pc := 43) 3 dX11_bursts_43 rfl ?_
  refine aw_icmp_ge (pc := 44) 52 dX11_bursts_44 (by decide) (fun z => ?_) (fun z => ?_)
  · replace h := (if_pos z).symm.trans h
    refine aw_sub [1, 2, 3, 4] rfl ?_
    exact c_X11_bursts_52 K8 hK8 _ _ _ _ _ _ h
  · replace h := (if_neg z).symm.trans h
    refine aw_iload (pc := 47) 0 dX11_bursts_47 rfl ?_
    refine aw_istore_n (pc := 49) [(2, .int s0), (4, .int s0), (0, .ref x0), (1, .int x1), (3, .int x3)] dX11_bursts_49 rfl (by decide) rfl ?_
    refine aw_iload_n (pc := 50) 4 dX11_bursts_50 rfl ?_
    refine aw_istore_n (pc := 51) [(1, .int x3), (2, .int s0), (4, .int s0), (0, .ref x0), (3, .int x3)] dX11_bursts_51 rfl (by decide) rfl ?_
    refine aw_sub [3, 0, 1, 4] rfl ?_
    exact c_X11_bursts_52 K8 hK8 _ _ _ _ _ _ h
set_option maxRecDepth 100000 in
set_option maxHeartbeats 4000000 in
theorem c_X11_bursts_8_b {G : ah_G}  (K8 : Nat → Int32 → Int32 → Int32 → ah_H → Option (Int32 × ah_H)) (hK8 : ∀ (x0 : Nat) (x1 : Int32) (x2 : Int32) (x3 : Int32) (σ : ah_H) (r : Int32 × ah_H), K8 x0 x1 x2 x3 σ = some r → AW G m_X11_bursts 6 0 0 8 [(0, .ref x0), (1, .int x1), (2, .int x2), (3, .int x3)] [] σ (ah_N G (ah_ri r))) : ∀ (x0 : Nat) (x1 : Int32) (x2 : Int32) (x3 : Int32) (σ : ah_H) (r : Int32 × ah_H), f_X11_bursts_8_b  K8 x0 x1 x2 x3 σ = some r → AW G m_X11_bursts 6 0 0 8 [(0, .ref x0), (1, .int x1), (2, .int x2), (3, .int x3)] [] σ (ah_N G (ah_ri r)) := by
  intro x0 x1 x2 x3 σ r h
  unfold f_X11_bursts_8_b at h
  refine aw_iload_n (pc := 8) 3 dX11_bursts_8 rfl ?_
  refine aw_aload_n (pc := 9) 0 dX11_bursts_9 rfl ?_
  obtain ⟨v1, e, h⟩ := op_bd h
  refine ow_gR (pc := 10) e dX11_bursts_10 fd_X11_20 rfl ?_
  obtain ⟨v2, e, h⟩ := op_bd h
  refine ow_gI (pc := 13) e dX11_bursts_13 fd_X11_174 rfl ?_
  refine aw_icmp_ge (pc := 16) 58 dX11_bursts_16 (by decide) (fun z => ?_) (fun z => ?_)
  · replace h := (if_pos z).symm.trans h
    refine aw_iload_n (pc := 58) 1 dX11_bursts_58 rfl ?_
    exact ow_iret (pc := 59) h dX11_bursts_59 rfl
  · replace h := (if_neg z).symm.trans h
    refine aw_aload_n (pc := 19) 0 dX11_bursts_19 rfl ?_
    refine aw_iload_n (pc := 20) 3 dX11_bursts_20 rfl ?_
    obtain ⟨r3, e, h⟩ := op_bd h
    refine ow_cVi (pc := 21) [.int x3] ((c_X11_hasPipe _ _ _ _ e).mono (by decide)) (op_ck_sh e) rfl dX11_bursts_21 cw_X11_137 rfl (Nat.le_of_ble_eq_true rfl) ?_
    refine aw_if_eq (pc := 24) 38 dX11_bursts_24 (by decide) (fun z => ?_) (fun z => ?_)
    · replace h := (if_pos z).symm.trans h
      refine aw_iload_n (pc := 38) 2 dX11_bursts_38 rfl ?_
      exact c_X11_bursts_39 K8 hK8 _ _ _ _ _ _ _ h
    · replace h := (if_neg z).symm.trans h
      refine aw_aload_n (pc := 27) 0 dX11_bursts_27 rfl ?_
      obtain ⟨v4, e, h⟩ := op_bd h
      refine ow_gR (pc := 28) e dX11_bursts_28 fd_X11_48 rfl ?_
      refine aw_iload_n (pc := 31) 3 dX11_bursts_31 rfl ?_
      obtain ⟨r5, e, h⟩ := op_bd h
      refine ow_cVi (pc := 32) [.int x3] ((c_X3_burstOf _ _ _ _ e).mono (by decide)) (op_ck_sh e) rfl dX11_bursts_32 cw_X11_220 rfl (Nat.le_of_ble_eq_true rfl) ?_
      refine aw_goto (pc := 35) 39 dX11_bursts_35 (by decide) ?_
      exact c_X11_bursts_39 K8 hK8 _ _ _ _ _ _ _ h
theorem c_X11_bursts_8 {G : ah_G}   : ∀ (n : Nat) (x0 : Nat) (x1 : Int32) (x2 : Int32) (x3 : Int32) (σ : ah_H) (r : Int32 × ah_H), f_X11_bursts_8   n x0 x1 x2 x3 σ = some r → AW G m_X11_bursts 6 0 0 8 [(0, .ref x0), (1, .int x1), (2, .int x2), (3, .int x3)] [] σ (ah_N G (ah_ri r)) := by
  intro n
  induction n with
  | zero => intro x0 x1 x2 x3 σ r h; cases h
  | succ n ih => intro x0 x1 x2 x3 σ r h; exact c_X11_bursts_8_b   _ ih x0 x1 x2 x3 σ r h
set_option maxRecDepth 100000 in
set_option maxHeartbeats 4000000 in
theorem c_X11_bursts_0 {G : ah_G}   : ∀ (x0 : Nat) (σ : ah_H) (r : Int32 × ah_H), f_X11_bursts_0   x0 σ = some r → AW G m_X11_bursts 6 0 0 0 [(0, .ref x0)] [] σ (ah_N G (ah_ri r)) := by
  intro x0 σ r h
  unfold f_X11_bursts_0 at h
  refine aw_iconst (pc := 0) (v := (-1 : Int32)) dX11_bursts_0 (by decide) ?_
  refine aw_istore_n (pc := 1) [(1, .int (-1 : Int32)), (0, .ref x0)] dX11_bursts_1 rfl (by decide) rfl ?_
  refine aw_sipush (pc := 2) (v := (10000 : Int32)) dX11_bursts_2 (by decide) ?_
  refine aw_istore_n (pc := 5) [(2, .int (10000 : Int32)), (1, .int (-1 : Int32)), (0, .ref x0)] dX11_bursts_5 rfl (by decide) rfl ?_
  refine aw_iconst (pc := 6) (v := (0 : Int32)) dX11_bursts_6 (by decide) ?_
  refine aw_istore_n (pc := 7) [(3, .int (0 : Int32)), (2, .int (10000 : Int32)), (1, .int (-1 : Int32)), (0, .ref x0)] dX11_bursts_7 rfl (by decide) rfl ?_
  refine aw_sub [3, 2, 1, 0] rfl ?_
  exact c_X11_bursts_8  _ _ _ _ _ _ _ h
theorem c_X11_bursts {G : ah_G}   (x0 : Nat) (σ : ah_H) (r : Int32 × ah_H) (h : f_X11_bursts  x0 σ = some r) : AM G m_X11_bursts 6 0 0 [.ref x0] σ (ah_ri r) := aw_enter (by decide) (Nat.le_of_ble_eq_true rfl) (c_X11_bursts_0 _ _ _ (op_ck_k h))
def f_X11_cheapest_0   (x0 : Nat) (x1 : Int32) (σ : ah_H) : Option (Int64 × ah_H) :=
  (op_gR 11 7 σ x0).bind fun v1 => (f_X10_costOf v1 x1 σ).bind fun r2 => some (r2.1, r2.2)
def f_X11_cheapest  (x0 : Nat) (x1 : Int32) (σ : ah_H) : Option (Int64 × ah_H) := op_ck 11 σ x0 (f_X11_cheapest_0 x0 x1 σ)
set_option maxRecDepth 100000 in
set_option maxHeartbeats 4000000 in
theorem c_X11_cheapest_0 {G : ah_G}   : ∀ (x0 : Nat) (x1 : Int32) (σ : ah_H) (r : Int64 × ah_H), f_X11_cheapest_0   x0 x1 σ = some r → AW G m_X11_cheapest 6 0 0 0 [(0, .ref x0), (1, .int x1)] [] σ (ah_N G (ah_rl r)) := by
  intro x0 x1 σ r h
  unfold f_X11_cheapest_0 at h
  refine aw_aload_n (pc := 0) 0 dX11_cheapest_0 rfl ?_
  obtain ⟨v1, e, h⟩ := op_bd h
  refine ow_gR (pc := 1) e dX11_cheapest_1 fd_X11_57 rfl ?_
  refine aw_iload_n (pc := 4) 1 dX11_cheapest_4 rfl ?_
  obtain ⟨r2, e, h⟩ := op_bd h
  refine ow_cVl (pc := 5) [.int x1] ((c_X10_costOf _ _ _ _ e).mono (by decide)) (op_ck_sh e) rfl dX11_cheapest_5 cw_X11_223 rfl (Nat.le_of_ble_eq_true rfl) ?_
  exact ow_lret (pc := 8) h dX11_cheapest_8 rfl
theorem c_X11_cheapest {G : ah_G}   (x0 : Nat) (x1 : Int32) (σ : ah_H) (r : Int64 × ah_H) (h : f_X11_cheapest  x0 x1 σ = some r) : AM G m_X11_cheapest 6 0 0 [.ref x0, .int x1] σ (ah_rl r) := aw_enter (by decide) (Nat.le_of_ble_eq_true rfl) (c_X11_cheapest_0 _ _ _ _ (op_ck_k h))
def f_X11_laid_0   (x0 : Nat) (x1 : Int32) (σ : ah_H) : Option (Int32 × ah_H) :=
  (op_gR 11 7 σ x0).bind fun v1 => (f_X10_costOf v1 x1 σ).bind fun r2 => if 0 ≤ (lg_cmp r2.1 (0 : Int64)) then ((op_gR 11 5 r2.2 x0).bind fun v3 => (f_X5_remember v3 r2.2).bind fun r4 => (op_gR 11 7 r4 x0).bind fun v5 => (op_gR 11 5 r4 x0).bind fun v6 => (f_X10_layInto v5 v6 x1 r4).bind fun r7 => (op_gR 11 6 r7 x0).bind fun v8 => (op_pZ 3 2 r7 v8 (0 : Int32)).bind fun σ9 => (op_rz (1 : Int32)).map fun q => (q, σ9)) else ((op_rz (0 : Int32)).map fun q => (q, r2.2))
def f_X11_laid  (x0 : Nat) (x1 : Int32) (σ : ah_H) : Option (Int32 × ah_H) := op_ck 11 σ x0 (f_X11_laid_0 x0 x1 σ)
set_option maxRecDepth 100000 in
set_option maxHeartbeats 4000000 in
theorem c_X11_laid_0 {G : ah_G}   : ∀ (x0 : Nat) (x1 : Int32) (σ : ah_H) (r : Int32 × ah_H), f_X11_laid_0   x0 x1 σ = some r → AW G m_X11_laid 6 0 0 0 [(0, .ref x0), (1, .int x1)] [] σ (ah_N G (ah_ri r)) := by
  intro x0 x1 σ r h
  unfold f_X11_laid_0 at h
  refine aw_aload_n (pc := 0) 0 dX11_laid_0 rfl ?_
  obtain ⟨v1, e, h⟩ := op_bd h
  refine ow_gR (pc := 1) e dX11_laid_1 fd_X11_57 rfl ?_
  refine aw_iload_n (pc := 4) 1 dX11_laid_4 rfl ?_
  obtain ⟨r2, e, h⟩ := op_bd h
  refine ow_cVl (pc := 5) [.int x1] ((c_X10_costOf _ _ _ _ e).mono (by decide)) (op_ck_sh e) rfl dX11_laid_5 cw_X11_223 rfl (Nat.le_of_ble_eq_true rfl) ?_
  refine aw_lconst (pc := 8) (v := (0 : Int64)) dX11_laid_8 (by decide) ?_
  refine aw_lcmp (pc := 9) dX11_laid_9 ?_
  refine aw_if_ge (pc := 10) 15 dX11_laid_10 (by decide) (fun z => ?_) (fun z => ?_)
  · replace h := (if_pos z).symm.trans h
    refine aw_aload_n (pc := 15) 0 dX11_laid_15 rfl ?_
    obtain ⟨v3, e, h⟩ := op_bd h
    refine ow_gR (pc := 16) e dX11_laid_16 fd_X11_39 rfl ?_
    obtain ⟨r4, e, h⟩ := op_bd h
    refine ow_cVv (pc := 19) [] ((c_X5_remember _ _ _ e).mono (by decide)) (op_ck_sh e) rfl dX11_laid_19 cw_X11_126 rfl (Nat.le_of_ble_eq_true rfl) ?_
    refine aw_aload_n (pc := 22) 0 dX11_laid_22 rfl ?_
    obtain ⟨v5, e, h⟩ := op_bd h
    refine ow_gR (pc := 23) e dX11_laid_23 fd_X11_57 rfl ?_
    refine aw_aload_n (pc := 26) 0 dX11_laid_26 rfl ?_
    obtain ⟨v6, e, h⟩ := op_bd h
    refine ow_gR (pc := 27) e dX11_laid_27 fd_X11_39 rfl ?_
    refine aw_iload_n (pc := 30) 1 dX11_laid_30 rfl ?_
    obtain ⟨r7, e, h⟩ := op_bd h
    refine ow_cVv (pc := 31) [.ref v6, .int x1] ((c_X10_layInto _ _ _ _ _ e).mono (by decide)) (op_ck_sh e) rfl dX11_laid_31 cw_X11_226 rfl (Nat.le_of_ble_eq_true rfl) ?_
    refine aw_aload_n (pc := 34) 0 dX11_laid_34 rfl ?_
    obtain ⟨v8, e, h⟩ := op_bd h
    refine ow_gR (pc := 35) e dX11_laid_35 fd_X11_48 rfl ?_
    refine aw_iconst (pc := 38) (v := (0 : Int32)) dX11_laid_38 (by decide) ?_
    obtain ⟨σ9, e, h⟩ := op_bd h
    refine ow_pZ (pc := 39) e dX11_laid_39 fd_X11_133 ?_
    refine aw_iconst (pc := 42) (v := (1 : Int32)) dX11_laid_42 (by decide) ?_
    exact ow_zret (pc := 43) h dX11_laid_43 rfl
  · replace h := (if_neg z).symm.trans h
    refine aw_iconst (pc := 13) (v := (0 : Int32)) dX11_laid_13 (by decide) ?_
    exact ow_zret (pc := 14) h dX11_laid_14 rfl
theorem c_X11_laid {G : ah_G}   (x0 : Nat) (x1 : Int32) (σ : ah_H) (r : Int32 × ah_H) (h : f_X11_laid  x0 x1 σ = some r) : AM G m_X11_laid 6 0 0 [.ref x0, .int x1] σ (ah_ri r) := aw_enter (by decide) (Nat.le_of_ble_eq_true rfl) (c_X11_laid_0 _ _ _ _ (op_ck_k h))
def f_X11_tree_50   (x0 : Nat) (σ : ah_H) : Option (Int64 × ah_H) :=
  (op_gR 11 7 σ x0).bind fun v1 => (op_gL 10 0 σ v1).bind fun v2 => some (v2, σ)
def f_X11_tree_0   (x0 : Nat) (x1 : Int32) (σ : ah_H) : Option (Int64 × ah_H) :=
  if x1 < 0 then (some ((-1 : Int64), σ)) else (if x1 ≤ (2 : Int32) then ((op_gR 11 7 σ x0).bind fun v1 => (f_X10_settle v1 σ).bind fun r2 => if x1 = (2 : Int32) then ((op_gR 11 7 r2 x0).bind fun v7 => (op_gI 10 2 r2 v7).bind fun v8 => some ((Int32.toInt64 v8), r2)) else (if x1 = 0 then (f_X11_tree_50 x0 r2) else ((op_gR 11 7 r2 x0).bind fun v3 => (op_gL 10 0 r2 v3).bind fun v4 => if 0 ≤ (lg_cmp v4 (0 : Int64)) then ((op_gR 11 7 r2 x0).bind fun v5 => (op_gI 10 1 r2 v5).bind fun v6 => some ((Int32.toInt64 v6), r2)) else (f_X11_tree_50 x0 r2)))) else (some ((-1 : Int64), σ)))
def f_X11_tree  (x0 : Nat) (x1 : Int32) (σ : ah_H) : Option (Int64 × ah_H) := op_ck 11 σ x0 (f_X11_tree_0 x0 x1 σ)
set_option maxRecDepth 100000 in
set_option maxHeartbeats 4000000 in
theorem c_X11_tree_50 {G : ah_G}   : ∀ (x0 : Nat) (σ : ah_H) (r : Int64 × ah_H), f_X11_tree_50   x0 σ = some r → AW G m_X11_tree 7 0 0 50 [(0, .ref x0)] [] σ (ah_N G (ah_rl r)) := by
  intro x0 σ r h
  unfold f_X11_tree_50 at h
  refine aw_aload_n (pc := 50) 0 dX11_tree_50 rfl ?_
  obtain ⟨v1, e, h⟩ := op_bd h
  refine ow_gR (pc := 51) e dX11_tree_51 fd_X11_57 rfl ?_
  obtain ⟨v2, e, h⟩ := op_bd h
  refine ow_gL (pc := 54) e dX11_tree_54 fd_X11_236 ?_
  refine aw_goto (pc := 57) 68 dX11_tree_57 (by decide) ?_
  exact ow_lret (pc := 68) h dX11_tree_68 rfl
set_option maxRecDepth 100000 in
set_option maxHeartbeats 4000000 in
theorem c_X11_tree_0 {G : ah_G}   : ∀ (x0 : Nat) (x1 : Int32) (σ : ah_H) (r : Int64 × ah_H), f_X11_tree_0   x0 x1 σ = some r → AW G m_X11_tree 7 0 0 0 [(0, .ref x0), (1, .int x1)] [] σ (ah_N G (ah_rl r)) := by
  intro x0 x1 σ r h
  unfold f_X11_tree_0 at h
  refine aw_iload_n (pc := 0) 1 dX11_tree_0 rfl ?_
  refine aw_if_lt (pc := 1) 9 dX11_tree_1 (by decide) (fun z => ?_) (fun z => ?_)
  · replace h := (if_pos z).symm.trans h
    refine aw_ldc2 (pc := 9) dX11_tree_9 kl_X11_166 ?_
    exact ow_lret (pc := 12) h dX11_tree_12 rfl
  · replace h := (if_neg z).symm.trans h
    refine aw_iload_n (pc := 4) 1 dX11_tree_4 rfl ?_
    refine aw_iconst (pc := 5) (v := (2 : Int32)) dX11_tree_5 (by decide) ?_
    refine aw_icmp_le (pc := 6) 13 dX11_tree_6 (by decide) (fun z => ?_) (fun z => ?_)
    · replace h := (if_pos z).symm.trans h
      refine aw_aload_n (pc := 13) 0 dX11_tree_13 rfl ?_
      obtain ⟨v1, e, h⟩ := op_bd h
      refine ow_gR (pc := 14) e dX11_tree_14 fd_X11_57 rfl ?_
      obtain ⟨r2, e, h⟩ := op_bd h
      refine ow_cVv (pc := 17) [] ((c_X10_settle _ _ _ e).mono (by decide)) (op_ck_sh e) rfl dX11_tree_17 cw_X11_230 rfl (Nat.le_of_ble_eq_true rfl) ?_
      refine aw_iload_n (pc := 20) 1 dX11_tree_20 rfl ?_
      refine aw_iconst (pc := 21) (v := (2 : Int32)) dX11_tree_21 (by decide) ?_
      refine aw_icmp_ne (pc := 22) 34 dX11_tree_22 (by decide) (fun z => ?_) (fun z => ?_)
      · replace h := (if_neg z).symm.trans h
        refine aw_iload_n (pc := 34) 1 dX11_tree_34 rfl ?_
        refine aw_if_eq (pc := 35) 50 dX11_tree_35 (by decide) (fun z => ?_) (fun z => ?_)
        · replace h := (if_pos z).symm.trans h
          refine aw_sub [0] rfl ?_
          exact c_X11_tree_50  _ _ _ h
        · replace h := (if_neg z).symm.trans h
          refine aw_aload_n (pc := 38) 0 dX11_tree_38 rfl ?_
          obtain ⟨v3, e, h⟩ := op_bd h
          refine ow_gR (pc := 39) e dX11_tree_39 fd_X11_57 rfl ?_
          obtain ⟨v4, e, h⟩ := op_bd h
          refine ow_gL (pc := 42) e dX11_tree_42 fd_X11_236 ?_
          refine aw_lconst (pc := 45) (v := (0 : Int64)) dX11_tree_45 (by decide) ?_
          refine aw_lcmp (pc := 46) dX11_tree_46 ?_
          refine aw_if_ge (pc := 47) 60 dX11_tree_47 (by decide) (fun z => ?_) (fun z => ?_)
          · replace h := (if_pos z).symm.trans h
            refine aw_aload_n (pc := 60) 0 dX11_tree_60 rfl ?_
            obtain ⟨v5, e, h⟩ := op_bd h
            refine ow_gR (pc := 61) e dX11_tree_61 fd_X11_57 rfl ?_
            obtain ⟨v6, e, h⟩ := op_bd h
            refine ow_gI (pc := 64) e dX11_tree_64 fd_X11_240 rfl ?_
            refine aw_i2l (pc := 67) dX11_tree_67 ?_
            exact ow_lret (pc := 68) h dX11_tree_68 rfl
          · replace h := (if_neg z).symm.trans h
            refine aw_sub [0] rfl ?_
            exact c_X11_tree_50  _ _ _ h
      · replace h := (if_pos z).symm.trans h
        refine aw_aload_n (pc := 25) 0 dX11_tree_25 rfl ?_
        obtain ⟨v7, e, h⟩ := op_bd h
        refine ow_gR (pc := 26) e dX11_tree_26 fd_X11_57 rfl ?_
        obtain ⟨v8, e, h⟩ := op_bd h
        refine ow_gI (pc := 29) e dX11_tree_29 fd_X11_233 rfl ?_
        refine aw_i2l (pc := 32) dX11_tree_32 ?_
        exact ow_lret (pc := 33) h dX11_tree_33 rfl
    · replace h := (if_neg z).symm.trans h
      refine aw_ldc2 (pc := 9) dX11_tree_9 kl_X11_166 ?_
      exact ow_lret (pc := 12) h dX11_tree_12 rfl
theorem c_X11_tree {G : ah_G}   (x0 : Nat) (x1 : Int32) (σ : ah_H) (r : Int64 × ah_H) (h : f_X11_tree  x0 x1 σ = some r) : AM G m_X11_tree 7 0 0 [.ref x0, .int x1] σ (ah_rl r) := aw_enter (by decide) (Nat.le_of_ble_eq_true rfl) (c_X11_tree_0 _ _ _ _ (op_ck_k h))
def f_X11_without_0   (x0 : Nat) (x1 : Int32) (x2 : Int32) (σ : ah_H) : Option (Int64 × ah_H) :=
  (op_gR 11 2 σ x0).bind fun v1 => (f_X9_isStreet v1 x1 σ).bind fun r2 => if r2.1 = 0 then (some ((-1 : Int64), r2.2)) else ((op_gR 11 2 r2.2 x0).bind fun v3 => (f_X9_isStreet v3 x2 r2.2).bind fun r4 => if r4.1 = 0 then (some ((-1 : Int64), r4.2)) else ((op_gR 11 7 r4.2 x0).bind fun v5 => (f_X10_settle v5 r4.2).bind fun r6 => (op_gR 11 7 r6 x0).bind fun v7 => (op_gL 10 0 r6 v7).bind fun v8 => if 0 ≤ (lg_cmp v8 (0 : Int64)) then ((op_gR 11 7 r6 x0).bind fun v9 => (f_X10_leastAvoiding v9 (((1 : Int32) <<< (x1 &&& 31)) ||| ((1 : Int32) <<< (x2 &&& 31))) r6).bind fun r10 => if 0 ≤ (lg_cmp r10.1 (0 : Int64)) then ((op_gR 11 7 r10.2 x0).bind fun v11 => (op_gL 10 0 r10.2 v11).bind fun v12 => some ((r10.1 - v12), r10.2)) else (some ((-2 : Int64), r10.2))) else (some ((-1 : Int64), r6))))
def f_X11_without  (x0 : Nat) (x1 : Int32) (x2 : Int32) (σ : ah_H) : Option (Int64 × ah_H) := op_ck 11 σ x0 (f_X11_without_0 x0 x1 x2 σ)
set_option maxRecDepth 100000 in
set_option maxHeartbeats 4000000 in
theorem c_X11_without_0 {G : ah_G}   : ∀ (x0 : Nat) (x1 : Int32) (x2 : Int32) (σ : ah_H) (r : Int64 × ah_H), f_X11_without_0   x0 x1 x2 σ = some r → AW G m_X11_without 7 0 0 0 [(0, .ref x0), (1, .int x1), (2, .int x2)] [] σ (ah_N G (ah_rl r)) := by
  intro x0 x1 x2 σ r h
  unfold f_X11_without_0 at h
  refine aw_aload_n (pc := 0) 0 dX11_without_0 rfl ?_
  obtain ⟨v1, e, h⟩ := op_bd h
  refine ow_gR (pc := 1) e dX11_without_1 fd_X11_20 rfl ?_
  refine aw_iload_n (pc := 4) 1 dX11_without_4 rfl ?_
  obtain ⟨r2, e, h⟩ := op_bd h
  refine ow_cVi (pc := 5) [.int x1] ((c_X9_isStreet _ _ _ _ e).mono (by decide)) (op_ck_sh e) rfl dX11_without_5 cw_X11_107 rfl (Nat.le_of_ble_eq_true rfl) ?_
  refine aw_if_eq (pc := 8) 22 dX11_without_8 (by decide) (fun z => ?_) (fun z => ?_)
  · replace h := (if_pos z).symm.trans h
    refine aw_ldc2 (pc := 22) dX11_without_22 kl_X11_166 ?_
    exact ow_lret (pc := 25) h dX11_without_25 rfl
  · replace h := (if_neg z).symm.trans h
    refine aw_aload_n (pc := 11) 0 dX11_without_11 rfl ?_
    obtain ⟨v3, e, h⟩ := op_bd h
    refine ow_gR (pc := 12) e dX11_without_12 fd_X11_20 rfl ?_
    refine aw_iload_n (pc := 15) 2 dX11_without_15 rfl ?_
    obtain ⟨r4, e, h⟩ := op_bd h
    refine ow_cVi (pc := 16) [.int x2] ((c_X9_isStreet _ _ _ _ e).mono (by decide)) (op_ck_sh e) rfl dX11_without_16 cw_X11_107 rfl (Nat.le_of_ble_eq_true rfl) ?_
    refine aw_if_ne (pc := 19) 26 dX11_without_19 (by decide) (fun z => ?_) (fun z => ?_)
    · replace h := (if_neg z).symm.trans h
      refine aw_aload_n (pc := 26) 0 dX11_without_26 rfl ?_
      obtain ⟨v5, e, h⟩ := op_bd h
      refine ow_gR (pc := 27) e dX11_without_27 fd_X11_57 rfl ?_
      obtain ⟨r6, e, h⟩ := op_bd h
      refine ow_cVv (pc := 30) [] ((c_X10_settle _ _ _ e).mono (by decide)) (op_ck_sh e) rfl dX11_without_30 cw_X11_230 rfl (Nat.le_of_ble_eq_true rfl) ?_
      refine aw_aload_n (pc := 33) 0 dX11_without_33 rfl ?_
      obtain ⟨v7, e, h⟩ := op_bd h
      refine ow_gR (pc := 34) e dX11_without_34 fd_X11_57 rfl ?_
      obtain ⟨v8, e, h⟩ := op_bd h
      refine ow_gL (pc := 37) e dX11_without_37 fd_X11_236 ?_
      refine aw_lconst (pc := 40) (v := (0 : Int64)) dX11_without_40 (by decide) ?_
      refine aw_lcmp (pc := 41) dX11_without_41 ?_
      refine aw_if_ge (pc := 42) 49 dX11_without_42 (by decide) (fun z => ?_) (fun z => ?_)
      · replace h := (if_pos z).symm.trans h
        refine aw_aload_n (pc := 49) 0 dX11_without_49 rfl ?_
        obtain ⟨v9, e, h⟩ := op_bd h
        refine ow_gR (pc := 50) e dX11_without_50 fd_X11_57 rfl ?_
        refine aw_iconst (pc := 53) (v := (1 : Int32)) dX11_without_53 (by decide) ?_
        refine aw_iload_n (pc := 54) 1 dX11_without_54 rfl ?_
        refine aw_ishl (pc := 55) dX11_without_55 ?_
        refine aw_iconst (pc := 56) (v := (1 : Int32)) dX11_without_56 (by decide) ?_
        refine aw_iload_n (pc := 57) 2 dX11_without_57 rfl ?_
        refine aw_ishl (pc := 58) dX11_without_58 ?_
        refine aw_ior (pc := 59) dX11_without_59 ?_
        obtain ⟨r10, e, h⟩ := op_bd h
        refine ow_cVl (pc := 60) [.int (((1 : Int32) <<< (x1 &&& 31)) ||| ((1 : Int32) <<< (x2 &&& 31)))] ((c_X10_leastAvoiding _ _ _ _ e).mono (by decide)) (op_ck_sh e) rfl dX11_without_60 cw_X11_243 rfl (Nat.le_of_ble_eq_true rfl) ?_
        refine aw_lstore_n (pc := 63) [(3, .long r10.1), (0, .ref x0), (1, .int x1), (2, .int x2)] dX11_without_63 rfl (by decide) rfl ?_
        refine aw_lload_n (pc := 64) 0 dX11_without_64 rfl ?_
        refine aw_lconst (pc := 65) (v := (0 : Int64)) dX11_without_65 (by decide) ?_
        refine aw_lcmp (pc := 66) dX11_without_66 ?_
        refine aw_if_ge (pc := 67) 76 dX11_without_67 (by decide) (fun z => ?_) (fun z => ?_)
        · replace h := (if_pos z).symm.trans h
          refine aw_lload_n (pc := 76) 0 dX11_without_76 rfl ?_
          refine aw_aload_n (pc := 77) 1 dX11_without_77 rfl ?_
          obtain ⟨v11, e, h⟩ := op_bd h
          refine ow_gR (pc := 78) e dX11_without_78 fd_X11_57 rfl ?_
          obtain ⟨v12, e, h⟩ := op_bd h
          refine ow_gL (pc := 81) e dX11_without_81 fd_X11_236 ?_
          refine aw_lsub (pc := 84) dX11_without_84 ?_
          exact ow_lret (pc := 85) h dX11_without_85 rfl
        · replace h := (if_neg z).symm.trans h
          refine aw_ldc2 (pc := 70) dX11_without_70 kl_X11_246 ?_
          refine aw_goto (pc := 73) 85 dX11_without_73 (by decide) ?_
          exact ow_lret (pc := 85) h dX11_without_85 rfl
      · replace h := (if_neg z).symm.trans h
        refine aw_ldc2 (pc := 45) dX11_without_45 kl_X11_166 ?_
        exact ow_lret (pc := 48) h dX11_without_48 rfl
    · replace h := (if_pos z).symm.trans h
      refine aw_ldc2 (pc := 22) dX11_without_22 kl_X11_166 ?_
      exact ow_lret (pc := 25) h dX11_without_25 rfl
theorem c_X11_without {G : ah_G}   (x0 : Nat) (x1 : Int32) (x2 : Int32) (σ : ah_H) (r : Int64 × ah_H) (h : f_X11_without  x0 x1 x2 σ = some r) : AM G m_X11_without 7 0 0 [.ref x0, .int x1, .int x2] σ (ah_rl r) := aw_enter (by decide) (Nat.le_of_ble_eq_true rfl) (c_X11_without_0 _ _ _ _ _ (op_ck_k h))
