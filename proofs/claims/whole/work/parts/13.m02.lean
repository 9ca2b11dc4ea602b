def f_X0_total_109   (x2 : Int64) (σ : ah_H) : Option (Int64 × ah_H) :=
  if 0 ≤ (lg_cmp x2 (100000000000000000 : Int64)) then (some ((-2 : Int64), σ)) else (some (x2, σ))
def f_X0_total_51_b  (K51 : Nat → Int32 → Int64 → Int32 → ah_H → Option (Int64 × ah_H)) (x0 : Nat) (x1 : Int32) (x2 : Int64) (x4 : Int32) (σ : ah_H) : Option (Int64 × ah_H) :=
  (op_gI 0 8 σ x0).bind fun v1 => if v1 ≤ x4 then (f_X0_total_109 x2 σ) else ((op_gR 0 10 σ x0).bind fun v2 => (op_gR 0 7 σ x0).bind fun v3 => (op_aI σ v3 x4).bind fun v4 => (op_aR .long σ v2 v4).bind fun v5 => (op_aL σ v5 x1).bind fun v6 => (op_gL 0 0 σ x0).bind fun v7 => (op_gR 0 10 σ x0).bind fun v8 => (op_gR 0 7 σ x0).bind fun v9 => (op_aI σ v9 x4).bind fun v10 => (op_aR .long σ v8 v10).bind fun v11 => (op_aL σ v11 ((52 : Int32) + x1)).bind fun v12 => (op_pL 0 0 σ x0 (v7 + v12)).bind fun σ13 => K51 x0 x1 (x2 + v6) (x4 + (1 : Int32)) σ13)
def f_X0_total_51   : Nat → Nat → Int32 → Int64 → Int32 → ah_H → Option (Int64 × ah_H)
  | 0, _, _, _, _, _ => none
  | n + 1, x0, x1, x2, x4, σ => f_X0_total_51_b (f_X0_total_51 n) x0 x1 x2 x4 σ
def f_X0_total_0   (x0 : Nat) (σ : ah_H) : Option (Int64 × ah_H) :=
  (op_gI 0 8 σ x0).bind fun v1 => if v1 = 0 then (some ((0 : Int64), σ)) else ((op_gR 0 17 σ x0).bind fun v2 => (op_gI 9 6 σ v2).bind fun v3 => if v3 = 0 then (some ((-2 : Int64), σ)) else ((op_gR 0 17 σ x0).bind fun v4 => (op_gI 9 6 σ v4).bind fun v5 => (op_gR 0 17 σ x0).bind fun v6 => (op_gR 9 12 σ v6).bind fun v7 => (op_aI σ v7 (1 : Int32)).bind fun v8 => f_X0_total_51 5000 x0 (((v5 - (1 : Int32)) * (13 : Int32)) + v8) (0 : Int64) (0 : Int32) σ))
def f_X0_total  (x0 : Nat) (σ : ah_H) : Option (Int64 × ah_H) := op_ck 0 σ x0 (f_X0_total_0 x0 σ)
set_option maxRecDepth 100000 in
set_option maxHeartbeats 4000000 in
theorem c_X0_total_109 {G : ah_G}   : ∀ (x2 : Int64) (σ : ah_H) (r : Int64 × ah_H), f_X0_total_109   x2 σ = some r → AW G m_X0_total 0 0 0 109 [(2, .long x2)] [] σ (ah_N G (ah_rl r)) := by
  intro x2 σ r h
  unfold f_X0_total_109 at h
  refine aw_lload_n (pc := 109) 0 dX0_total_109 rfl ?_
  refine aw_ldc2 (pc := 110) dX0_total_110 kl_X0_174 ?_
  refine aw_lcmp (pc := 113) dX0_total_113 ?_
  refine aw_if_ge (pc := 114) 121 dX0_total_114 (by decide) (fun z => ?_) (fun z => ?_)
  · replace h := (if_pos z).symm.trans h
    refine aw_ldc2 (pc := 121) dX0_total_121 kl_X0_88 ?_
    exact ow_lret (pc := 124) h dX0_total_124 rfl
  · replace h := (if_neg z).symm.trans h
    refine aw_lload_n (pc := 117) 0 dX0_total_117 rfl ?_
    refine aw_goto (pc := 118) 124 dX0_total_118 (by decide) ?_
    exact ow_lret (pc := 124) h dX0_total_124 rfl
set_option maxRecDepth 100000 in
set_option maxHeartbeats 4000000 in
theorem c_X0_total_51_b {G : ah_G}  (K51 : Nat → Int32 → Int64 → Int32 → ah_H → Option (Int64 × ah_H)) (hK51 : ∀ (x0 : Nat) (x1 : Int32) (x2 : Int64) (x4 : Int32) (σ : ah_H) (r : Int64 × ah_H), K51 x0 x1 x2 x4 σ = some r → AW G m_X0_total 0 0 0 51 [(0, .ref x0), (1, .int x1), (2, .long x2), (4, .int x4)] [] σ (ah_N G (ah_rl r))) : ∀ (x0 : Nat) (x1 : Int32) (x2 : Int64) (x4 : Int32) (σ : ah_H) (r : Int64 × ah_H), f_X0_total_51_b  K51 x0 x1 x2 x4 σ = some r → AW G m_X0_total 0 0 0 51 [(0, .ref x0), (1, .int x1), (2, .long x2), (4, .int x4)] [] σ (ah_N G (ah_rl r)) := by
  intro x0 x1 x2 x4 σ r h
  unfold f_X0_total_51_b at h
  refine aw_iload (pc := 51) 3 dX0_total_51 rfl ?_
  refine aw_aload_n (pc := 53) 0 dX0_total_53 rfl ?_
  obtain ⟨v1, e, h⟩ := op_bd h
  refine ow_gI (pc := 54) e dX0_total_54 fd_X0_163 rfl ?_
  refine aw_icmp_ge (pc := 57) 109 dX0_total_57 (by decide) (fun z => ?_) (fun z => ?_)
  · replace h := (if_pos z).symm.trans h
    refine aw_sub [2] rfl ?_
    exact c_X0_total_109  _ _ _ h
  · replace h := (if_neg z).symm.trans h
    refine aw_lload_n (pc := 60) 2 dX0_total_60 rfl ?_
    refine aw_aload_n (pc := 61) 0 dX0_total_61 rfl ?_
    obtain ⟨v2, e, h⟩ := op_bd h
    refine ow_gR (pc := 62) e dX0_total_62 fd_X0_32 rfl ?_
    refine aw_aload_n (pc := 65) 0 dX0_total_65 rfl ?_
    obtain ⟨v3, e, h⟩ := op_bd h
    refine ow_gR (pc := 66) e dX0_total_66 fd_X0_24 rfl ?_
    refine aw_iload (pc := 69) 3 dX0_total_69 rfl ?_
    obtain ⟨v4, e, h⟩ := op_bd h
    refine ow_aI (pc := 71) e dX0_total_71 ?_
    obtain ⟨v5, e, h⟩ := op_bd h
    refine ow_aR (pc := 72) e dX0_total_72 (by decide) ?_
    refine aw_iload_n (pc := 73) 1 dX0_total_73 rfl ?_
    obtain ⟨v6, e, h⟩ := op_bd h
    refine ow_aL (pc := 74) e dX0_total_74 ?_
    refine aw_ladd (pc := 75) dX0_total_75 ?_
    refine aw_lstore_n (pc := 76) [(2, .long (x2 + v6)), (0, .ref x0), (1, .int x1), (4, .int x4)] dX0_total_76 rfl (by decide) rfl ?_
    refine aw_aload_n (pc := 77) 1 dX0_total_77 rfl ?_
    refine aw_dup (pc := 78) dX0_total_78 rfl ?_
    obtain ⟨v7, e, h⟩ := op_bd h
    refine ow_gL (pc := 79) e dX0_total_79 fd_X0_78 ?_
    refine aw_aload_n (pc := 82) 1 dX0_total_82 rfl ?_
    obtain ⟨v8, e, h⟩ := op_bd h
    refine ow_gR (pc := 83) e dX0_total_83 fd_X0_32 rfl ?_
    refine aw_aload_n (pc := 86) 1 dX0_total_86 rfl ?_
    obtain ⟨v9, e, h⟩ := op_bd h
    refine ow_gR (pc := 87) e dX0_total_87 fd_X0_24 rfl ?_
    refine aw_iload (pc := 90) 3 dX0_total_90 rfl ?_
    obtain ⟨v10, e, h⟩ := op_bd h
    refine ow_aI (pc := 92) e dX0_total_92 ?_
    obtain ⟨v11, e, h⟩ := op_bd h
    refine ow_aR (pc := 93) e dX0_total_93 (by decide) ?_
    refine aw_bipush (pc := 94) (v := (52 : Int32)) dX0_total_94 (by decide) ?_
    refine aw_iload_n (pc := 96) 2 dX0_total_96 rfl ?_
    refine aw_iadd (pc := 97) dX0_total_97 ?_
    obtain ⟨v12, e, h⟩ := op_bd h
    refine ow_aL (pc := 98) e dX0_total_98 ?_
    refine aw_ladd (pc := 99) dX0_total_99 ?_
    obtain ⟨σ13, e, h⟩ := op_bd h
    refine ow_pL (pc := 100) e dX0_total_100 fd_X0_78 ?_
    refine aw_iinc (pc := 103) 3 [(4, .int (x4 + (1 : Int32))), (2, .long (x2 + v6)), (0, .ref x0), (1, .int x1)] (x4 + (1 : Int32)) dX0_total_103 rfl rfl (by decide) rfl ?_
    refine aw_goto (pc := 106) 51 dX0_total_106 (by decide) ?_
    refine aw_sub [2, 3, 1, 0] rfl ?_
    exact hK51 _ _ _ _ _ _ h
theorem c_X0_total_51 {G : ah_G}   : ∀ (n : Nat) (x0 : Nat) (x1 : Int32) (x2 : Int64) (x4 : Int32) (σ : ah_H) (r : Int64 × ah_H), f_X0_total_51   n x0 x1 x2 x4 σ = some r → AW G m_X0_total 0 0 0 51 [(0, .ref x0), (1, .int x1), (2, .long x2), (4, .int x4)] [] σ (ah_N G (ah_rl r)) := by
  intro n
  induction n with
  | zero => intro x0 x1 x2 x4 σ r h; cases h
  | succ n ih => intro x0 x1 x2 x4 σ r h; exact c_X0_total_51_b   _ ih x0 x1 x2 x4 σ r h
set_option maxRecDepth 100000 in
set_option maxHeartbeats 4000000 in
theorem c_X0_total_0 {G : ah_G}   : ∀ (x0 : Nat) (σ : ah_H) (r : Int64 × ah_H), f_X0_total_0   x0 σ = some r → AW G m_X0_total 0 0 0 0 [(0, .ref x0)] [] σ (ah_N G (ah_rl r)) := by
  intro x0 σ r h
  unfold f_X0_total_0 at h
  refine aw_aload_n (pc := 0) 0 dX0_total_0 rfl ?_
  obtain ⟨v1, e, h⟩ := op_bd h
  refine ow_gI (pc := 1) e dX0_total_1 fd_X0_163 rfl ?_
  refine aw_if_ne (pc := 4) 9 dX0_total_4 (by decide) (fun z => ?_) (fun z => ?_)
  · replace h := (if_neg z).symm.trans h
    refine aw_aload_n (pc := 9) 0 dX0_total_9 rfl ?_
    obtain ⟨v2, e, h⟩ := op_bd h
    refine ow_gR (pc := 10) e dX0_total_10 fd_X0_64 rfl ?_
    obtain ⟨v3, e, h⟩ := op_bd h
    refine ow_gI (pc := 13) e dX0_total_13 fd_X0_119 rfl ?_
    refine aw_if_ne (pc := 16) 23 dX0_total_16 (by decide) (fun z => ?_) (fun z => ?_)
    · replace h := (if_neg z).symm.trans h
      refine aw_aload_n (pc := 23) 0 dX0_total_23 rfl ?_
      obtain ⟨v4, e, h⟩ := op_bd h
      refine ow_gR (pc := 24) e dX0_total_24 fd_X0_64 rfl ?_
      obtain ⟨v5, e, h⟩ := op_bd h
      refine ow_gI (pc := 27) e dX0_total_27 fd_X0_119 rfl ?_
      refine aw_iconst (pc := 30) (v := (1 : Int32)) dX0_total_30 (by decide) ?_
      refine aw_isub (pc := 31) dX0_total_31 ?_
      refine aw_bipush (pc := 32) (v := (13 : Int32)) dX0_total_32 (by decide) ?_
      refine aw_imul (pc := 34) dX0_total_34 ?_
      refine aw_aload_n (pc := 35) 0 dX0_total_35 rfl ?_
      obtain ⟨v6, e, h⟩ := op_bd h
      refine ow_gR (pc := 36) e dX0_total_36 fd_X0_64 rfl ?_
      obtain ⟨v7, e, h⟩ := op_bd h
      refine ow_gR (pc := 39) e dX0_total_39 fd_X0_142 rfl ?_
      refine aw_iconst (pc := 42) (v := (1 : Int32)) dX0_total_42 (by decide) ?_
      obtain ⟨v8, e, h⟩ := op_bd h
      refine ow_aI (pc := 43) e dX0_total_43 ?_
      refine aw_iadd (pc := 44) dX0_total_44 ?_
      refine aw_istore_n (pc := 45) [(1, .int (((v5 - (1 : Int32)) * (13 : Int32)) + v8)), (0, .ref x0)] dX0_total_45 rfl (by decide) rfl ?_
      refine aw_lconst (pc := 46) (v := (0 : Int64)) dX0_total_46 (by decide) ?_
      refine aw_lstore_n (pc := 47) [(2, .long (0 : Int64)), (1, .int (((v5 - (1 : Int32)) * (13 : Int32)) + v8)), (0, .ref x0)] dX0_total_47 rfl (by decide) rfl ?_
      refine aw_iconst (pc := 48) (v := (0 : Int32)) dX0_total_48 (by decide) ?_
      refine aw_istore (pc := 49) [(4, .int (0 : Int32)), (2, .long (0 : Int64)), (1, .int (((v5 - (1 : Int32)) * (13 : Int32)) + v8)), (0, .ref x0)] dX0_total_49 (by decide) rfl ?_
      refine aw_sub [3, 2, 1, 0] rfl ?_
      exact c_X0_total_51  _ _ _ _ _ _ _ h
    · replace h := (if_pos z).symm.trans h
      refine aw_ldc2 (pc := 19) dX0_total_19 kl_X0_88 ?_
      exact ow_lret (pc := 22) h dX0_total_22 rfl
  · replace h := (if_pos z).symm.trans h
    refine aw_lconst (pc := 7) (v := (0 : Int64)) dX0_total_7 (by decide) ?_
    exact ow_lret (pc := 8) h dX0_total_8 rfl
theorem c_X0_total {G : ah_G}   (x0 : Nat) (σ : ah_H) (r : Int64 × ah_H) (h : f_X0_total  x0 σ = some r) : AM G m_X0_total 0 0 0 [.ref x0] σ (ah_rl r) := aw_enter (by decide) (Nat.le_of_ble_eq_true rfl) (c_X0_total_0 _ _ _ (op_ck_k h))
def f_X1_findPeak_40  (K4 : Nat → Int32 → Int32 → Int32 → ah_H → Option (ah_H)) (x0 : Nat) (x1 : Int32) (x2 : Int32) (x3 : Int32) (σ : ah_H) : Option (ah_H) :=
  K4 x0 x1 x2 (x3 + (1 : Int32)) σ
def f_X1_findPeak_46   (x0 : Nat) (x1 : Int32) (x2 : Int32) (σ : ah_H) : Option (ah_H) :=
  (op_gR 1 3 σ x0).bind fun v1 => (op_sI σ v1 x1 x2).bind fun σ2 => some σ2
def f_X1_findPeak_4_b  (K4 : Nat → Int32 → Int32 → Int32 → ah_H → Option (ah_H)) (x0 : Nat) (x1 : Int32) (x2 : Int32) (x3 : Int32) (σ : ah_H) : Option (ah_H) :=
  (op_gR 1 8 σ x0).bind fun v1 => (op_gI 9 8 σ v1).bind fun v2 => if (v2 * (30 : Int32)) ≤ x3 then (f_X1_findPeak_46 x0 x1 x2 σ) else ((op_gR 1 0 σ x0).bind fun v3 => (op_aR .long σ v3 x1).bind fun v4 => (op_aL σ v4 x3).bind fun v5 => (op_gR 1 0 σ x0).bind fun v6 => (op_aR .long σ v6 x1).bind fun v7 => (op_aL σ v7 x2).bind fun v8 => if (lg_cmp v5 v8) ≤ 0 then (f_X1_findPeak_40 K4 x0 x1 x2 x3 σ) else (f_X1_findPeak_40 K4 x0 x1 x3 x3 σ))
def f_X1_findPeak_4   : Nat → Nat → Int32 → Int32 → Int32 → ah_H → Option (ah_H)
  | 0, _, _, _, _, _ => none
  | n + 1, x0, x1, x2, x3, σ => f_X1_findPeak_4_b (f_X1_findPeak_4 n) x0 x1 x2 x3 σ
def f_X1_findPeak_0   (x0 : Nat) (x1 : Int32) (σ : ah_H) : Option (ah_H) :=
  f_X1_findPeak_4 5000 x0 x1 (0 : Int32) (1 : Int32) σ
def f_X1_findPeak  (x0 : Nat) (x1 : Int32) (σ : ah_H) : Option (ah_H) := op_ck 1 σ x0 (f_X1_findPeak_0 x0 x1 σ)
set_option maxRecDepth 100000 in
set_option maxHeartbeats 4000000 in
theorem c_X1_findPeak_40 {G : ah_G}  (K4 : Nat → Int32 → Int32 → Int32 → ah_H → Option (ah_H)) (hK4 : ∀ (x0 : Nat) (x1 : Int32) (x2 : Int32) (x3 : Int32) (σ : ah_H) (r : ah_H), K4 x0 x1 x2 x3 σ = some r → AW G m_X1_findPeak 0 0 0 4 [(0, .ref x0), (1, .int x1), (2, .int x2), (3, .int x3)] [] σ (ah_N G (ah_rv r))) : ∀ (x0 : Nat) (x1 : Int32) (x2 : Int32) (x3 : Int32) (σ : ah_H) (r : ah_H), f_X1_findPeak_40  K4 x0 x1 x2 x3 σ = some r → AW G m_X1_findPeak 0 0 0 40 [(0, .ref x0), (1, .int x1), (2, .int x2), (3, .int x3)] [] σ (ah_N G (ah_rv r)) := by
  intro x0 x1 x2 x3 σ r h
  unfold f_X1_findPeak_40 at h
  refine aw_iinc (pc := 40) 3 [(3, .int (x3 + (1 : Int32))), (0, .ref x0), (1, .int x1), (2, .int x2)] (x3 + (1 : Int32)) dX1_findPeak_40 rfl rfl (by decide) rfl ?_
  refine aw_goto (pc := 43) 4 dX1_findPeak_43 (by decide) ?_
  refine aw_sub [1, 2, 3, 0] rfl ?_
  exact hK4 _ _ _ _ _ _ h
set_option maxRecDepth 100000 in
set_option maxHeartbeats 4000000 in
theorem c_X1_findPeak_46 {G : ah_G}   : ∀ (x0 : Nat) (x1 : Int32) (x2 : Int32) (σ : ah_H) (r : ah_H), f_X1_findPeak_46   x0 x1 x2 σ = some r → AW G m_X1_findPeak 0 0 0 46 [(0, .ref x0), (1, .int x1), (2, .int x2)] [] σ (ah_N G (ah_rv r)) := by
  intro x0 x1 x2 σ r h
  unfold f_X1_findPeak_46 at h
  refine aw_aload_n (pc := 46) 0 dX1_findPeak_46 rfl ?_
  obtain ⟨v1, e, h⟩ := op_bd h
  refine ow_gR (pc := 47) e dX1_findPeak_47 fd_X1_23 rfl ?_
  refine aw_iload_n (pc := 50) 1 dX1_findPeak_50 rfl ?_
  refine aw_iload_n (pc := 51) 2 dX1_findPeak_51 rfl ?_
  obtain ⟨σ2, e, h⟩ := op_bd h
  refine ow_sI (pc := 52) e dX1_findPeak_52 ?_
  exact ow_vret (pc := 53) h dX1_findPeak_53 rfl
set_option maxRecDepth 100000 in
set_option maxHeartbeats 4000000 in
theorem c_X1_findPeak_4_b {G : ah_G}  (K4 : Nat → Int32 → Int32 → Int32 → ah_H → Option (ah_H)) (hK4 : ∀ (x0 : Nat) (x1 : Int32) (x2 : Int32) (x3 : Int32) (σ : ah_H) (r : ah_H), K4 x0 x1 x2 x3 σ = some r → AW G m_X1_findPeak 0 0 0 4 [(0, .ref x0), (1, .int x1), (2, .int x2), (3, .int x3)] [] σ (ah_N G (ah_rv r))) : ∀ (x0 : Nat) (x1 : Int32) (x2 : Int32) (x3 : Int32) (σ : ah_H) (r : ah_H), f_X1_findPeak_4_b  K4 x0 x1 x2 x3 σ = some r → AW G m_X1_findPeak 0 0 0 4 [(0, .ref x0), (1, .int x1), (2, .int x2), (3, .int x3)] [] σ (ah_N G (ah_rv r)) := by
  intro x0 x1 x2 x3 σ r h
  unfold f_X1_findPeak_4_b at h
  refine aw_iload_n (pc := 4) 3 dX1_findPeak_4 rfl ?_
  refine aw_aload_n (pc := 5) 0 dX1_findPeak_5 rfl ?_
  obtain ⟨v1, e, h⟩ := op_bd h
  refine ow_gR (pc := 6) e dX1_findPeak_6 fd_X1_36 rfl ?_
  obtain ⟨v2, e, h⟩ := op_bd h
  refine ow_gI (pc := 9) e dX1_findPeak_9 fd_X1_72 rfl ?_
  refine aw_bipush (pc := 12) (v := (30 : Int32)) dX1_findPeak_12 (by decide) ?_
  refine aw_imul (pc := 14) dX1_findPeak_14 ?_
  refine aw_icmp_ge (pc := 15) 46 dX1_findPeak_15 (by decide) (fun z => ?_) (fun z => ?_)
  · replace h := (if_pos z).symm.trans h
    refine aw_sub [0, 1, 2] rfl ?_
    exact c_X1_findPeak_46  _ _ _ _ _ h
  · replace h := (if_neg z).symm.trans h
    refine aw_aload_n (pc := 18) 0 dX1_findPeak_18 rfl ?_
    obtain ⟨v3, e, h⟩ := op_bd h
    refine ow_gR (pc := 19) e dX1_findPeak_19 fd_X1_11 rfl ?_
    refine aw_iload_n (pc := 22) 1 dX1_findPeak_22 rfl ?_
    obtain ⟨v4, e, h⟩ := op_bd h
    refine ow_aR (pc := 23) e dX1_findPeak_23 (by decide) ?_
    refine aw_iload_n (pc := 24) 3 dX1_findPeak_24 rfl ?_
    obtain ⟨v5, e, h⟩ := op_bd h
    refine ow_aL (pc := 25) e dX1_findPeak_25 ?_
    refine aw_aload_n (pc := 26) 0 dX1_findPeak_26 rfl ?_
    obtain ⟨v6, e, h⟩ := op_bd h
    refine ow_gR (pc := 27) e dX1_findPeak_27 fd_X1_11 rfl ?_
    refine aw_iload_n (pc := 30) 1 dX1_findPeak_30 rfl ?_
    obtain ⟨v7, e, h⟩ := op_bd h
    refine ow_aR (pc := 31) e dX1_findPeak_31 (by decide) ?_
    refine aw_iload_n (pc := 32) 2 dX1_findPeak_32 rfl ?_
    obtain ⟨v8, e, h⟩ := op_bd h
    refine ow_aL (pc := 33) e dX1_findPeak_33 ?_
    refine aw_lcmp (pc := 34) dX1_findPeak_34 ?_
    refine aw_if_le (pc := 35) 40 dX1_findPeak_35 (by decide) (fun z => ?_) (fun z => ?_)
    · replace h := (if_pos z).symm.trans h
      exact c_X1_findPeak_40 K4 hK4 _ _ _ _ _ _ h
    · replace h := (if_neg z).symm.trans h
      refine aw_iload_n (pc := 38) 3 dX1_findPeak_38 rfl ?_
      refine aw_istore_n (pc := 39) [(2, .int x3), (0, .ref x0), (1, .int x1), (3, .int x3)] dX1_findPeak_39 rfl (by decide) rfl ?_
      refine aw_sub [1, 2, 0, 3] rfl ?_
      exact c_X1_findPeak_40 K4 hK4 _ _ _ _ _ _ h
theorem c_X1_findPeak_4 {G : ah_G}   : ∀ (n : Nat) (x0 : Nat) (x1 : Int32) (x2 : Int32) (x3 : Int32) (σ : ah_H) (r : ah_H), f_X1_findPeak_4   n x0 x1 x2 x3 σ = some r → AW G m_X1_findPeak 0 0 0 4 [(0, .ref x0), (1, .int x1), (2, .int x2), (3, .int x3)] [] σ (ah_N G (ah_rv r)) := by
  intro n
  induction n with
  | zero => intro x0 x1 x2 x3 σ r h; cases h
  | succ n ih => intro x0 x1 x2 x3 σ r h; exact c_X1_findPeak_4_b   _ ih x0 x1 x2 x3 σ r h
set_option maxRecDepth 100000 in
set_option maxHeartbeats 4000000 in
theorem c_X1_findPeak_0 {G : ah_G}   : ∀ (x0 : Nat) (x1 : Int32) (σ : ah_H) (r : ah_H), f_X1_findPeak_0   x0 x1 σ = some r → AW G m_X1_findPeak 0 0 0 0 [(0, .ref x0), (1, .int x1)] [] σ (ah_N G (ah_rv r)) := by
  intro x0 x1 σ r h
  unfold f_X1_findPeak_0 at h
  refine aw_iconst (pc := 0) (v := (0 : Int32)) dX1_findPeak_0 (by decide) ?_
  refine aw_istore_n (pc := 1) [(2, .int (0 : Int32)), (0, .ref x0), (1, .int x1)] dX1_findPeak_1 rfl (by decide) rfl ?_
  refine aw_iconst (pc := 2) (v := (1 : Int32)) dX1_findPeak_2 (by decide) ?_
  refine aw_istore_n (pc := 3) [(3, .int (1 : Int32)), (2, .int (0 : Int32)), (0, .ref x0), (1, .int x1)] dX1_findPeak_3 rfl (by decide) rfl ?_
  refine aw_sub [2, 3, 1, 0] rfl ?_
  exact c_X1_findPeak_4  _ _ _ _ _ _ _ h
theorem c_X1_findPeak {G : ah_G}   (x0 : Nat) (x1 : Int32) (σ : ah_H) (r : ah_H) (h : f_X1_findPeak  x0 x1 σ = some r) : AM G m_X1_findPeak 0 0 0 [.ref x0, .int x1] σ (ah_rv r) := aw_enter (by decide) (Nat.le_of_ble_eq_true rfl) (c_X1_findPeak_0 _ _ _ _ (op_ck_k h))
def f_X1_passOn_133  (K35 : Nat → Int32 → Int32 → Int32 → Int32 → ah_H → Option (ah_H)) (K50 : Nat → Int32 → Int32 → Int32 → Int32 → Int32 → ah_H → Option (ah_H)) (x0 : Nat) (x1 : Int32) (x2 : Int32) (x3 : Int32) (x4 : Int32) (x5 : Int32) (σ : ah_H) : Option (ah_H) :=
  K50 x0 x1 x2 x3 x4 (x5 + (1 : Int32)) σ
def f_X1_passOn_139  (K35 : Nat → Int32 → Int32 → Int32 → Int32 → ah_H → Option (ah_H)) (x0 : Nat) (x1 : Int32) (x2 : Int32) (x3 : Int32) (x4 : Int32) (σ : ah_H) : Option (ah_H) :=
  K35 x0 x1 x2 x3 (x4 + (1 : Int32)) σ
def f_X1_passOn_50_b  (K35 : Nat → Int32 → Int32 → Int32 → Int32 → ah_H → Option (ah_H)) (K50 : Nat → Int32 → Int32 → Int32 → Int32 → Int32 → ah_H → Option (ah_H)) (x0 : Nat) (x1 : Int32) (x2 : Int32) (x3 : Int32) (x4 : Int32) (x5 : Int32) (σ : ah_H) : Option (ah_H) :=
  if (30 : Int32) ≤ x5 then (f_X1_passOn_139 K35 x0 x1 x2 x3 x4 σ) else ((op_gR 1 0 σ x0).bind fun v1 => (op_aR .long σ v1 x1).bind fun v2 => (op_aL σ v2 ((x4 * (30 : Int32)) + x5)).bind fun v3 => (op_gR 1 2 σ x0).bind fun v4 => (op_aL σ v4 x1).bind fun v5 => (op_gR 1 1 σ x0).bind fun v6 => (op_aR .long σ v6 x1).bind fun v7 => (op_gR 1 0 σ x0).bind fun v8 => (op_aR .long σ v8 x1).bind fun v9 => (op_aL σ v9 ((x4 * (30 : Int32)) + x5)).bind fun v10 => (op_sL σ v7 ((x4 * (30 : Int32)) + x5) (v10 - (op_minl v3 v5))).bind fun σ11 => if (30 : Int32) ≤ (x5 + x3) then (f_X1_passOn_133 K35 K50 x0 x1 x2 x3 x4 x5 σ11) else ((op_gR 1 0 σ11 x0).bind fun v12 => (op_aR .long σ11 v12 x2).bind fun v13 => (op_aL σ11 v13 (((x4 * (30 : Int32)) + x5) + x3)).bind fun v14 => (op_sL σ11 v13 (((x4 * (30 : Int32)) + x5) + x3) (v14 + (op_minl v3 v5))).bind fun σ15 => f_X1_passOn_133 K35 K50 x0 x1 x2 x3 x4 x5 σ15))
def f_X1_passOn_50  (K35 : Nat → Int32 → Int32 → Int32 → Int32 → ah_H → Option (ah_H)) : Nat → Nat → Int32 → Int32 → Int32 → Int32 → Int32 → ah_H → Option (ah_H)
  | 0, _, _, _, _, _, _, _ => none
  | n + 1, x0, x1, x2, x3, x4, x5, σ => f_X1_passOn_50_b K35 (f_X1_passOn_50 K35 n) x0 x1 x2 x3 x4 x5 σ
def f_X1_passOn_35_b  (K35 : Nat → Int32 → Int32 → Int32 → Int32 → ah_H → Option (ah_H)) (x0 : Nat) (x1 : Int32) (x2 : Int32) (x3 : Int32) (x4 : Int32) (σ : ah_H) : Option (ah_H) :=
  (op_gR 1 8 σ x0).bind fun v1 => (op_gI 9 8 σ v1).bind fun v2 => if v2 ≤ x4 then (some σ) else (f_X1_passOn_50 K35 5000 x0 x1 x2 x3 x4 (0 : Int32) σ)
def f_X1_passOn_35   : Nat → Nat → Int32 → Int32 → Int32 → Int32 → ah_H → Option (ah_H)
  | 0, _, _, _, _, _, _ => none
  | n + 1, x0, x1, x2, x3, x4, σ => f_X1_passOn_35_b (f_X1_passOn_35 n) x0 x1 x2 x3 x4 σ
def f_X1_passOn_0   (x0 : Nat) (x1 : Int32) (σ : ah_H) : Option (ah_H) :=
  (op_gR 1 8 σ x0).bind fun v1 => (op_gR 1 7 σ x0).bind fun v2 => (op_aI σ v2 x1).bind fun v3 => (f_X9_otherEnd v1 v3 x1 σ).bind fun r4 => (op_gR 1 8 r4.2 x0).bind fun v5 => (op_gR 9 5 r4.2 v5).bind fun v6 => (op_gR 1 7 r4.2 x0).bind fun v7 => (op_aI r4.2 v7 x1).bind fun v8 => (op_aR .int r4.2 v6 v8).bind fun v9 => (op_aI r4.2 v9 (3 : Int32)).bind fun v10 => f_X1_passOn_35 5000 x0 x1 r4.1 v10 (0 : Int32) r4.2
def f_X1_passOn  (x0 : Nat) (x1 : Int32) (σ : ah_H) : Option (ah_H) := op_ck 1 σ x0 (f_X1_passOn_0 x0 x1 σ)
set_option maxRecDepth 100000 in
set_option maxHeartbeats 4000000 in
theorem c_X1_passOn_133 {G : ah_G}  (K35 : Nat → Int32 → Int32 → Int32 → Int32 → ah_H → Option (ah_H)) (hK35 : ∀ (x0 : Nat) (x1 : Int32) (x2 : Int32) (x3 : Int32) (x4 : Int32) (σ : ah_H) (r : ah_H), K35 x0 x1 x2 x3 x4 σ = some r → AW G m_X1_passOn 1 0 0 35 [(0, .ref x0), (1, .int x1), (2, .int x2), (3, .int x3), (4, .int x4)] [] σ (ah_N G (ah_rv r))) (K50 : Nat → Int32 → Int32 → Int32 → Int32 → Int32 → ah_H → Option (ah_H)) (hK50 : ∀ (x0 : Nat) (x1 : Int32) (x2 : Int32) (x3 : Int32) (x4 : Int32) (x5 : Int32) (σ : ah_H) (r : ah_H), K50 x0 x1 x2 x3 x4 x5 σ = some r → AW G m_X1_passOn 1 0 0 50 [(0, .ref x0), (1, .int x1), (2, .int x2), (3, .int x3), (4, .int x4), (5, .int x5)] [] σ (ah_N G (ah_rv r))) : ∀ (x0 : Nat) (x1 : Int32) (x2 : Int32) (x3 : Int32) (x4 : Int32) (x5 : Int32) (σ : ah_H) (r : ah_H), f_X1_passOn_133  K35 K50 x0 x1 x2 x3 x4 x5 σ = some r → AW G m_X1_passOn 1 0 0 133 [(0, .ref x0), (1, .int x1), (2, .int x2), (3, .int x3), (4, .int x4), (5, .int x5)] [] σ (ah_N G (ah_rv r)) := by
  intro x0 x1 x2 x3 x4 x5 σ r h
  unfold f_X1_passOn_133 at h
  refine aw_iinc (pc := 133) 5 [(5, .int (x5 + (1 : Int32))), (0, .ref x0), (1, .int x1), (2, .int x2), (3, .int x3), (4, .int x4)] (x5 + (1 : Int32)) dX1_passOn_133 rfl rfl (by decide) rfl ?_
  refine aw_goto (pc := 136) 50 dX1_passOn_136 (by decide) ?_
  refine aw_sub [1, 2, 3, 4, 5, 0] rfl ?_
  exact hK50 _ _ _ _ _ _ _ _ h
set_option maxRecDepth 100000 in
set_option maxHeartbeats 4000000 in
theorem c_X1_passOn_139 {G : ah_G}  (K35 : Nat → Int32 → Int32 → Int32 → Int32 → ah_H → Option (ah_H)) (hK35 : ∀ (x0 : Nat) (x1 : Int32) (x2 : Int32) (x3 : Int32) (x4 : Int32) (σ : ah_H) (r : ah_H), K35 x0 x1 x2 x3 x4 σ = some r → AW G m_X1_passOn 1 0 0 35 [(0, .ref x0), (1, .int x1), (2, .int x2), (3, .int x3), (4, .int x4)] [] σ (ah_N G (ah_rv r))) : ∀ (x0 : Nat) (x1 : Int32) (x2 : Int32) (x3 : Int32) (x4 : Int32) (σ : ah_H) (r : ah_H), f_X1_passOn_139  K35 x0 x1 x2 x3 x4 σ = some r → AW G m_X1_passOn 1 0 0 139 [(0, .ref x0), (1, .int x1), (2, .int x2), (3, .int x3), (4, .int x4)] [] σ (ah_N G (ah_rv r)) := by
  intro x0 x1 x2 x3 x4 σ r h
  unfold f_X1_passOn_139 at h
  refine aw_iinc (pc := 139) 4 [(4, .int (x4 + (1 : Int32))), (0, .ref x0), (1, .int x1), (2, .int x2), (3, .int x3)] (x4 + (1 : Int32)) dX1_passOn_139 rfl rfl (by decide) rfl ?_
  refine aw_goto (pc := 142) 35 dX1_passOn_142 (by decide) ?_
  refine aw_sub [1, 2, 3, 4, 0] rfl ?_
  exact hK35 _ _ _ _ _ _ _ h
set_option maxRecDepth 100000 in
set_option maxHeartbeats 4000000 in
theorem c_X1_passOn_50_b {G : ah_G}  (K35 : Nat → Int32 → Int32 → Int32 → Int32 → ah_H → Option (ah_H)) (hK35 : ∀ (x0 : Nat) (x1 : Int32) (x2 : Int32) (x3 : Int32) (x4 : Int32) (σ : ah_H) (r : ah_H), K35 x0 x1 x2 x3 x4 σ = some r → AW G m_X1_passOn 1 0 0 35 [(0, .ref x0), (1, .int x1), (2, .int x2), (3, .int x3), (4, .int x4)] [] σ (ah_N G (ah_rv r))) (K50 : Nat → Int32 → Int32 → Int32 → Int32 → Int32 → ah_H → Option (ah_H)) (hK50 : ∀ (x0 : Nat) (x1 : Int32) (x2 : Int32) (x3 : Int32) (x4 : Int32) (x5 : Int32) (σ : ah_H) (r : ah_H), K50 x0 x1 x2 x3 x4 x5 σ = some r → AW G m_X1_passOn 1 0 0 50 [(0, .ref x0), (1, .int x1), (2, .int x2), (3, .int x3), (4, .int x4), (5, .int x5)] [] σ (ah_N G (ah_rv r))) : ∀ (x0 : Nat) (x1 : Int32) (x2 : Int32) (x3 : Int32) (x4 : Int32) (x5 : Int32) (σ : ah_H) (r : ah_H), f_X1_passOn_50_b  K35 K50 x0 x1 x2 x3 x4 x5 σ = some r → AW G m_X1_passOn 1 0 0 50 [(0, .ref x0), (1, .int x1), (2, .int x2), (3, .int x3), (4, .int x4), (5, .int x5)] [] σ (ah_N G (ah_rv r)) := by
  intro x0 x1 x2 x3 x4 x5 σ r h
  unfold f_X1_passOn_50_b at h
  refine aw_iload (pc := 50) 5 dX1_passOn_50 rfl ?_
  refine aw_bipush (pc := 52) (v := (30 : Int32)) dX1_passOn_52 (by decide) ?_
  refine aw_icmp_ge (pc := 54) 139 dX1_passOn_54 (by decide) (fun z => ?_) (fun z => ?_)
  · replace h := (if_pos z).symm.trans h
    refine aw_sub [0, 1, 2, 3, 4] rfl ?_
    exact c_X1_passOn_139 K35 hK35 _ _ _ _ _ _ _ h
  · replace h := (if_neg z).symm.trans h
    refine aw_iload (pc := 57) 4 dX1_passOn_57 rfl ?_
    refine aw_bipush (pc := 59) (v := (30 : Int32)) dX1_passOn_59 (by decide) ?_
    refine aw_imul (pc := 61) dX1_passOn_61 ?_
    refine aw_iload (pc := 62) 5 dX1_passOn_62 rfl ?_
    refine aw_iadd (pc := 64) dX1_passOn_64 ?_
    refine aw_istore (pc := 65) [(6, .int ((x4 * (30 : Int32)) + x5)), (0, .ref x0), (1, .int x1), (2, .int x2), (3, .int x3), (4, .int x4), (5, .int x5)] dX1_passOn_65 (by decide) rfl ?_
    refine aw_aload_n (pc := 67) 1 dX1_passOn_67 rfl ?_
    obtain ⟨v1, e, h⟩ := op_bd h
    refine ow_gR (pc := 68) e dX1_passOn_68 fd_X1_11 rfl ?_
    refine aw_iload_n (pc := 71) 2 dX1_passOn_71 rfl ?_
    obtain ⟨v2, e, h⟩ := op_bd h
    refine ow_aR (pc := 72) e dX1_passOn_72 (by decide) ?_
    refine aw_iload (pc := 73) 0 dX1_passOn_73 rfl ?_
    obtain ⟨v3, e, h⟩ := op_bd h
    refine ow_aL (pc := 75) e dX1_passOn_75 ?_
    refine aw_aload_n (pc := 76) 1 dX1_passOn_76 rfl ?_
    obtain ⟨v4, e, h⟩ := op_bd h
    refine ow_gR (pc := 77) e dX1_passOn_77 fd_X1_19 rfl ?_
    refine aw_iload_n (pc := 80) 2 dX1_passOn_80 rfl ?_
    obtain ⟨v5, e, h⟩ := op_bd h
    refine ow_aL (pc := 81) e dX1_passOn_81 ?_
    refine ow_minl (pc := 82) dX1_passOn_82 mt_X1_91 (Nat.le_of_ble_eq_true rfl) ?_
    refine aw_lstore (pc := 85) [(7, .long (op_minl v3 v5)), (6, .int ((x4 * (30 : Int32)) + x5)), (0, .ref x0), (1, .int x1), (2, .int x2), (3, .int x3), (4, .int x4), (5, .int x5)] dX1_passOn_85 (by decide) rfl ?_
    refine aw_aload_n (pc := 87) 2 dX1_passOn_87 rfl ?_
    obtain ⟨v6, e, h⟩ := op_bd h
    refine ow_gR (pc := 88) e dX1_passOn_88 fd_X1_16 rfl ?_
    refine aw_iload_n (pc := 91) 3 dX1_passOn_91 rfl ?_
    obtain ⟨v7, e, h⟩ := op_bd h
    refine ow_aR (pc := 92) e dX1_passOn_92 (by decide) ?_
    refine aw_iload (pc := 93) 1 dX1_passOn_93 rfl ?_
    refine aw_aload_n (pc := 95) 2 dX1_passOn_95 rfl ?_
    obtain ⟨v8, e, h⟩ := op_bd h
    refine ow_gR (pc := 96) e dX1_passOn_96 fd_X1_11 rfl ?_
    refine aw_iload_n (pc := 99) 3 dX1_passOn_99 rfl ?_
    obtain ⟨v9, e, h⟩ := op_bd h
    refine ow_aR (pc := 100) e dX1_passOn_100 (by decide) ?_
    refine aw_iload (pc := 101) 1 dX1_passOn_101 rfl ?_
    obtain ⟨v10, e, h⟩ := op_bd h
    refine ow_aL (pc := 103) e dX1_passOn_103 ?_
    refine aw_lload (pc := 104) 0 dX1_passOn_104 rfl ?_
    refine aw_lsub (pc := 106) dX1_passOn_106 ?_
    obtain ⟨σ11, e, h⟩ := op_bd h
    refine ow_sL (pc := 107) e dX1_passOn_107 ?_
    refine aw_iload (pc := 108) 7 dX1_passOn_108 rfl ?_
    refine aw_iload_n (pc := 110) 5 dX1_passOn_110 rfl ?_
    refine aw_iadd (pc := 111) dX1_passOn_111 ?_
    refine aw_bipush (pc := 112) (v := (30 : Int32)) dX1_passOn_112 (by decide) ?_
    refine aw_icmp_ge (pc := 114) 133 dX1_passOn_114 (by decide) (fun z => ?_) (fun z => ?_)
    · replace h := (if_pos z).symm.trans h
      refine aw_sub [2, 3, 4, 5, 6, 7] rfl ?_
      exact c_X1_passOn_133 K35 hK35 K50 hK50 _ _ _ _ _ _ _ _ h
    · replace h := (if_neg z).symm.trans h
      refine aw_aload_n (pc := 117) 2 dX1_passOn_117 rfl ?_
      obtain ⟨v12, e, h⟩ := op_bd h
      refine ow_gR (pc := 118) e dX1_passOn_118 fd_X1_11 rfl ?_
      refine aw_iload_n (pc := 121) 4 dX1_passOn_121 rfl ?_
      obtain ⟨v13, e, h⟩ := op_bd h
      refine ow_aR (pc := 122) e dX1_passOn_122 (by decide) ?_
      refine aw_iload (pc := 123) 1 dX1_passOn_123 rfl ?_
      refine aw_iload_n (pc := 125) 5 dX1_passOn_125 rfl ?_
      refine aw_iadd (pc := 126) dX1_passOn_126 ?_
      refine aw_dup2 (pc := 127) dX1_passOn_127 rfl rfl ?_
      obtain ⟨v14, e, h⟩ := op_bd h
      refine ow_aL (pc := 128) e dX1_passOn_128 ?_
      refine aw_lload (pc := 129) 0 dX1_passOn_129 rfl ?_
      refine aw_ladd (pc := 131) dX1_passOn_131 ?_
      obtain ⟨σ15, e, h⟩ := op_bd h
      refine ow_sL (pc := 132) e dX1_passOn_132 ?_
      refine aw_sub [2, 3, 4, 5, 6, 7] rfl ?_
      exact c_X1_passOn_133 K35 hK35 K50 hK50 _ _ _ _ _ _ _ _ h
theorem c_X1_passOn_50 {G : ah_G}  (K35 : Nat → Int32 → Int32 → Int32 → Int32 → ah_H → Option (ah_H)) (hK35 : ∀ (x0 : Nat) (x1 : Int32) (x2 : Int32) (x3 : Int32) (x4 : Int32) (σ : ah_H) (r : ah_H), K35 x0 x1 x2 x3 x4 σ = some r → AW G m_X1_passOn 1 0 0 35 [(0, .ref x0), (1, .int x1), (2, .int x2), (3, .int x3), (4, .int x4)] [] σ (ah_N G (ah_rv r))) : ∀ (n : Nat) (x0 : Nat) (x1 : Int32) (x2 : Int32) (x3 : Int32) (x4 : Int32) (x5 : Int32) (σ : ah_H) (r : ah_H), f_X1_passOn_50  K35 n x0 x1 x2 x3 x4 x5 σ = some r → AW G m_X1_passOn 1 0 0 50 [(0, .ref x0), (1, .int x1), (2, .int x2), (3, .int x3), (4, .int x4), (5, .int x5)] [] σ (ah_N G (ah_rv r)) := by
  intro n
  induction n with
  | zero => intro x0 x1 x2 x3 x4 x5 σ r h; cases h
  | succ n ih => intro x0 x1 x2 x3 x4 x5 σ r h; exact c_X1_passOn_50_b  K35 hK35 _ ih x0 x1 x2 x3 x4 x5 σ r h
set_option maxRecDepth 100000 in
set_option maxHeartbeats 4000000 in
theorem c_X1_passOn_35_b {G : ah_G}  (K35 : Nat → Int32 → Int32 → Int32 → Int32 → ah_H → Option (ah_H)) (hK35 : ∀ (x0 : Nat) (x1 : Int32) (x2 : Int32) (x3 : Int32) (x4 : Int32) (σ : ah_H) (r : ah_H), K35 x0 x1 x2 x3 x4 σ = some r → AW G m_X1_passOn 1 0 0 35 [(0, .ref x0), (1, .int x1), (2, .int x2), (3, .int x3), (4, .int x4)] [] σ (ah_N G (ah_rv r))) : ∀ (x0 : Nat) (x1 : Int32) (x2 : Int32) (x3 : Int32) (x4 : Int32) (σ : ah_H) (r : ah_H), f_X1_passOn_35_b  K35 x0 x1 x2 x3 x4 σ = some r → AW G m_X1_passOn 1 0 0 35 [(0, .ref x0), (1, .int x1), (2, .int x2), (3, .int x3), (4, .int x4)] [] σ (ah_N G (ah_rv r)) := by
  intro x0 x1 x2 x3 x4 σ r h
  unfold f_X1_passOn_35_b at h
  refine aw_iload (pc := 35) 4 dX1_passOn_35 rfl ?_
  refine aw_aload_n (pc := 37) 0 dX1_passOn_37 rfl ?_
  obtain ⟨v1, e, h⟩ := op_bd h
  refine ow_gR (pc := 38) e dX1_passOn_38 fd_X1_36 rfl ?_
  obtain ⟨v2, e, h⟩ := op_bd h
  refine ow_gI (pc := 41) e dX1_passOn_41 fd_X1_72 rfl ?_
  refine aw_icmp_ge (pc := 44) 145 dX1_passOn_44 (by decide) (fun z => ?_) (fun z => ?_)
  · replace h := (if_pos z).symm.trans h
    exact ow_vret (pc := 145) h dX1_passOn_145 rfl
  · replace h := (if_neg z).symm.trans h
    refine aw_iconst (pc := 47) (v := (0 : Int32)) dX1_passOn_47 (by decide) ?_
    refine aw_istore (pc := 48) [(5, .int (0 : Int32)), (0, .ref x0), (1, .int x1), (2, .int x2), (3, .int x3), (4, .int x4)] dX1_passOn_48 (by decide) rfl ?_
    refine aw_sub [1, 2, 3, 4, 5, 0] rfl ?_
    exact c_X1_passOn_50 K35 hK35 _ _ _ _ _ _ _ _ _ h
theorem c_X1_passOn_35 {G : ah_G}   : ∀ (n : Nat) (x0 : Nat) (x1 : Int32) (x2 : Int32) (x3 : Int32) (x4 : Int32) (σ : ah_H) (r : ah_H), f_X1_passOn_35   n x0 x1 x2 x3 x4 σ = some r → AW G m_X1_passOn 1 0 0 35 [(0, .ref x0), (1, .int x1), (2, .int x2), (3, .int x3), (4, .int x4)] [] σ (ah_N G (ah_rv r)) := by
  intro n
  induction n with
  | zero => intro x0 x1 x2 x3 x4 σ r h; cases h
  | succ n ih => intro x0 x1 x2 x3 x4 σ r h; exact c_X1_passOn_35_b   _ ih x0 x1 x2 x3 x4 σ r h
set_option maxRecDepth 100000 in
set_option maxHeartbeats 4000000 in
theorem c_X1_passOn_0 {G : ah_G}   : ∀ (x0 : Nat) (x1 : Int32) (σ : ah_H) (r : ah_H), f_X1_passOn_0   x0 x1 σ = some r → AW G m_X1_passOn 1 0 0 0 [(0, .ref x0), (1, .int x1)] [] σ (ah_N G (ah_rv r)) := by
  intro x0 x1 σ r h
  unfold f_X1_passOn_0 at h
  refine aw_aload_n (pc := 0) 0 dX1_passOn_0 rfl ?_
  obtain ⟨v1, e, h⟩ := op_bd h
  refine ow_gR (pc := 1) e dX1_passOn_1 fd_X1_36 rfl ?_
  refine aw_aload_n (pc := 4) 0 dX1_passOn_4 rfl ?_
  obtain ⟨v2, e, h⟩ := op_bd h
  refine ow_gR (pc := 5) e dX1_passOn_5 fd_X1_33 rfl ?_
  refine aw_iload_n (pc := 8) 1 dX1_passOn_8 rfl ?_
  obtain ⟨v3, e, h⟩ := op_bd h
  refine ow_aI (pc := 9) e dX1_passOn_9 ?_
  refine aw_iload_n (pc := 10) 1 dX1_passOn_10 rfl ?_
  obtain ⟨r4, e, h⟩ := op_bd h
  refine ow_cVi (pc := 11) [.int v3, .int x1] ((c_X9_otherEnd _ _ _ _ _ e).mono (by decide)) (op_ck_sh e) rfl dX1_passOn_11 cw_X1_85 rfl (Nat.le_of_ble_eq_true rfl) ?_
  refine aw_istore_n (pc := 14) [(2, .int r4.1), (0, .ref x0), (1, .int x1)] dX1_passOn_14 rfl (by decide) rfl ?_
  refine aw_aload_n (pc := 15) 1 dX1_passOn_15 rfl ?_
  obtain ⟨v5, e, h⟩ := op_bd h
  refine ow_gR (pc := 16) e dX1_passOn_16 fd_X1_36 rfl ?_
  obtain ⟨v6, e, h⟩ := op_bd h
  refine ow_gR (pc := 19) e dX1_passOn_19 fd_X1_89 rfl ?_
  refine aw_aload_n (pc := 22) 1 dX1_passOn_22 rfl ?_
  obtain ⟨v7, e, h⟩ := op_bd h
  refine ow_gR (pc := 23) e dX1_passOn_23 fd_X1_33 rfl ?_
  refine aw_iload_n (pc := 26) 2 dX1_passOn_26 rfl ?_
  obtain ⟨v8, e, h⟩ := op_bd h
  refine ow_aI (pc := 27) e dX1_passOn_27 ?_
  obtain ⟨v9, e, h⟩ := op_bd h
  refine ow_aR (pc := 28) e dX1_passOn_28 (by decide) ?_
  refine aw_iconst (pc := 29) (v := (3 : Int32)) dX1_passOn_29 (by decide) ?_
  obtain ⟨v10, e, h⟩ := op_bd h
  refine ow_aI (pc := 30) e dX1_passOn_30 ?_
  refine aw_istore_n (pc := 31) [(3, .int v10), (2, .int r4.1), (0, .ref x0), (1, .int x1)] dX1_passOn_31 rfl (by decide) rfl ?_
  refine aw_iconst (pc := 32) (v := (0 : Int32)) dX1_passOn_32 (by decide) ?_
  refine aw_istore (pc := 33) [(4, .int (0 : Int32)), (3, .int v10), (2, .int r4.1), (0, .ref x0), (1, .int x1)] dX1_passOn_33 (by decide) rfl ?_
  refine aw_sub [3, 4, 2, 1, 0] rfl ?_
  exact c_X1_passOn_35  _ _ _ _ _ _ _ _ h
theorem c_X1_passOn {G : ah_G}   (x0 : Nat) (x1 : Int32) (σ : ah_H) (r : ah_H) (h : f_X1_passOn  x0 x1 σ = some r) : AM G m_X1_passOn 1 0 0 [.ref x0, .int x1] σ (ah_rv r) := aw_enter (by decide) (Nat.le_of_ble_eq_true rfl) (c_X1_passOn_0 _ _ _ _ (op_ck_k h))
def f_X1_rainOn_81  (K24 : Nat → Int32 → Int32 → Int32 → ah_H → Option (ah_H)) (x0 : Nat) (x1 : Int32) (x2 : Int32) (x3 : Int32) (σ : ah_H) : Option (ah_H) :=
  K24 x0 x1 x2 (x3 + (1 : Int32)) σ
def f_X1_rainOn_38_b  (K24 : Nat → Int32 → Int32 → Int32 → ah_H → Option (ah_H)) (K38 : Nat → Int32 → Int32 → Int32 → Int32 → ah_H → Option (ah_H)) (x0 : Nat) (x1 : Int32) (x2 : Int32) (x3 : Int32) (x4 : Int32) (σ : ah_H) : Option (ah_H) :=
  if (6 : Int32) ≤ x4 then (f_X1_rainOn_81 K24 x0 x1 x2 x3 σ) else ((op_gR 1 0 σ x0).bind fun v1 => (op_aR .long σ v1 x1).bind fun v2 => (op_gR 1 8 σ x0).bind fun v3 => (op_gR 9 10 σ v3).bind fun v4 => (op_aR .int σ v4 x3).bind fun v5 => (op_aI σ v5 x4).bind fun v6 => (op_sL σ v2 ((x3 * (30 : Int32)) + x4) ((Int32.toInt64 x2) * (Int32.toInt64 v6))).bind fun σ7 => K38 x0 x1 x2 x3 (x4 + (1 : Int32)) σ7)
def f_X1_rainOn_38  (K24 : Nat → Int32 → Int32 → Int32 → ah_H → Option (ah_H)) : Nat → Nat → Int32 → Int32 → Int32 → Int32 → ah_H → Option (ah_H)
  | 0, _, _, _, _, _, _ => none
  | n + 1, x0, x1, x2, x3, x4, σ => f_X1_rainOn_38_b K24 (f_X1_rainOn_38 K24 n) x0 x1 x2 x3 x4 σ
def f_X1_rainOn_24_b  (K24 : Nat → Int32 → Int32 → Int32 → ah_H → Option (ah_H)) (x0 : Nat) (x1 : Int32) (x2 : Int32) (x3 : Int32) (σ : ah_H) : Option (ah_H) :=
  (op_gR 1 8 σ x0).bind fun v1 => (op_gI 9 8 σ v1).bind fun v2 => if v2 ≤ x3 then (some σ) else (f_X1_rainOn_38 K24 5000 x0 x1 x2 x3 (0 : Int32) σ)
def f_X1_rainOn_24   : Nat → Nat → Int32 → Int32 → Int32 → ah_H → Option (ah_H)
  | 0, _, _, _, _, _ => none
  | n + 1, x0, x1, x2, x3, σ => f_X1_rainOn_24_b (f_X1_rainOn_24 n) x0 x1 x2 x3 σ
def f_X1_rainOn_0   (x0 : Nat) (x1 : Int32) (σ : ah_H) : Option (ah_H) :=
  (op_gR 1 0 σ x0).bind fun v1 => (op_aR .long σ v1 x1).bind fun v2 => (f_J7_fill_d0a16 v2 (0 : Int64) σ).bind fun r3 => (op_gR 1 8 r3 x0).bind fun v4 => (op_gR 9 1 r3 v4).bind fun v5 => (op_aR .int r3 v5 x1).bind fun v6 => (op_aI r3 v6 (1 : Int32)).bind fun v7 => f_X1_rainOn_24 5000 x0 x1 v7 (0 : Int32) r3
def f_X1_rainOn  (x0 : Nat) (x1 : Int32) (σ : ah_H) : Option (ah_H) := op_ck 1 σ x0 (f_X1_rainOn_0 x0 x1 σ)
set_option maxRecDepth 100000 in
set_option maxHeartbeats 4000000 in
theorem c_X1_rainOn_81 {G : ah_G}  (K24 : Nat → Int32 → Int32 → Int32 → ah_H → Option (ah_H)) (hK24 : ∀ (x0 : Nat) (x1 : Int32) (x2 : Int32) (x3 : Int32) (σ : ah_H) (r : ah_H), K24 x0 x1 x2 x3 σ = some r → AW G m_X1_rainOn 1 0 0 24 [(0, .ref x0), (1, .int x1), (2, .int x2), (3, .int x3)] [] σ (ah_N G (ah_rv r))) : ∀ (x0 : Nat) (x1 : Int32) (x2 : Int32) (x3 : Int32) (σ : ah_H) (r : ah_H), f_X1_rainOn_81  K24 x0 x1 x2 x3 σ = some r → AW G m_X1_rainOn 1 0 0 81 [(0, .ref x0), (1, .int x1), (2, .int x2), (3, .int x3)] [] σ (ah_N G (ah_rv r)) := by
  intro x0 x1 x2 x3 σ r h
  unfold f_X1_rainOn_81 at h
  refine aw_iinc (pc := 81) 3 [(3, .int (x3 + (1 : Int32))), (0, .ref x0), (1, .int x1), (2, .int x2)] (x3 + (1 : Int32)) dX1_rainOn_81 rfl rfl (by decide) rfl ?_
  refine aw_goto (pc := 84) 24 dX1_rainOn_84 (by decide) ?_
  refine aw_sub [1, 2, 3, 0] rfl ?_
  exact hK24 _ _ _ _ _ _ h
set_option maxRecDepth 100000 in
set_option maxHeartbeats 4000000 in
theorem c_X1_rainOn_38_b {G : ah_G}  (K24 : Nat → Int32 → Int32 → Int32 → ah_H → Option (ah_H)) (hK24 : ∀ (x0 : Nat) (x1 : Int32) (x2 : Int32) (x3 : Int32) (σ : ah_H) (r : ah_H), K24 x0 x1 x2 x3 σ = some r → AW G m_X1_rainOn 1 0 0 24 [(0, .ref x0), (1, .int x1), (2, .int x2), (3, .int x3)] [] σ (ah_N G (ah_rv r))) (K38 : Nat → Int32 → Int32 → Int32 → Int32 → ah_H → Option (ah_H)) (hK38 : ∀ (x0 : Nat) (x1 : Int32) (x2 : Int32) (x3 : Int32) (x4 : Int32) (σ : ah_H) (r : ah_H), K38 x0 x1 x2 x3 x4 σ = some r → AW G m_X1_rainOn 1 0 0 38 [(0, .ref x0), (1, .int x1), (2, .int x2), (3, .int x3), (4, .int x4)] [] σ (ah_N G (ah_rv r))) : ∀ (x0 : Nat) (x1 : Int32) (x2 : Int32) (x3 : Int32) (x4 : Int32) (σ : ah_H) (r : ah_H), f_X1_rainOn_38_b  K24 K38 x0 x1 x2 x3 x4 σ = some r → AW G m_X1_rainOn 1 0 0 38 [(0, .ref x0), (1, .int x1), (2, .int x2), (3, .int x3), (4, .int x4)] [] σ (ah_N G (ah_rv r)) := by
  intro x0 x1 x2 x3 x4 σ r h
  unfold f_X1_rainOn_38_b at h
  refine aw_iload (pc := 38) 4 dX1_rainOn_38 rfl ?_
  refine aw_bipush (pc := 40) (v := (6 : Int32)) dX1_rainOn_40 (by decide) ?_
  refine aw_icmp_ge (pc := 42) 81 dX1_rainOn_42 (by decide) (fun z => ?_) (fun z => ?_)
  · replace h := (if_pos z).symm.trans h
    refine aw_sub [0, 1, 2, 3] rfl ?_
    exact c_X1_rainOn_81 K24 hK24 _ _ _ _ _ _ h
  · replace h := (if_neg z).symm.trans h
    refine aw_aload_n (pc := 45) 0 dX1_rainOn_45 rfl ?_
    obtain ⟨v1, e, h⟩ := op_bd h
    refine ow_gR (pc := 46) e dX1_rainOn_46 fd_X1_11 rfl ?_
    refine aw_iload_n (pc := 49) 1 dX1_rainOn_49 rfl ?_
    obtain ⟨v2, e, h⟩ := op_bd h
    refine ow_aR (pc := 50) e dX1_rainOn_50 (by decide) ?_
    refine aw_iload_n (pc := 51) 3 dX1_rainOn_51 rfl ?_
    refine aw_bipush (pc := 52) (v := (30 : Int32)) dX1_rainOn_52 (by decide) ?_
    refine aw_imul (pc := 54) dX1_rainOn_54 ?_
    refine aw_iload (pc := 55) 4 dX1_rainOn_55 rfl ?_
    refine aw_iadd (pc := 57) dX1_rainOn_57 ?_
    refine aw_iload_n (pc := 58) 2 dX1_rainOn_58 rfl ?_
    refine aw_i2l (pc := 59) dX1_rainOn_59 ?_
    refine aw_aload_n (pc := 60) 0 dX1_rainOn_60 rfl ?_
    obtain ⟨v3, e, h⟩ := op_bd h
    refine ow_gR (pc := 61) e dX1_rainOn_61 fd_X1_36 rfl ?_
    obtain ⟨v4, e, h⟩ := op_bd h
    refine ow_gR (pc := 64) e dX1_rainOn_64 fd_X1_79 rfl ?_
    refine aw_iload_n (pc := 67) 3 dX1_rainOn_67 rfl ?_
    obtain ⟨v5, e, h⟩ := op_bd h
    refine ow_aR (pc := 68) e dX1_rainOn_68 (by decide) ?_
    refine aw_iload (pc := 69) 4 dX1_rainOn_69 rfl ?_
    obtain ⟨v6, e, h⟩ := op_bd h
    refine ow_aI (pc := 71) e dX1_rainOn_71 ?_
    refine aw_i2l (pc := 72) dX1_rainOn_72 ?_
    refine aw_lmul (pc := 73) dX1_rainOn_73 ?_
    obtain ⟨σ7, e, h⟩ := op_bd h
    refine ow_sL (pc := 74) e dX1_rainOn_74 ?_
    refine aw_iinc (pc := 75) 4 [(4, .int (x4 + (1 : Int32))), (0, .ref x0), (1, .int x1), (2, .int x2), (3, .int x3)] (x4 + (1 : Int32)) dX1_rainOn_75 rfl rfl (by decide) rfl ?_
    refine aw_goto (pc := 78) 38 dX1_rainOn_78 (by decide) ?_
    refine aw_sub [1, 2, 3, 4, 0] rfl ?_
    exact hK38 _ _ _ _ _ _ _ h
theorem c_X1_rainOn_38 {G : ah_G}  (K24 : Nat → Int32 → Int32 → Int32 → ah_H → Option (ah_H)) (hK24 : ∀ (x0 : Nat) (x1 : Int32) (x2 : Int32) (x3 : Int32) (σ : ah_H) (r : ah_H), K24 x0 x1 x2 x3 σ = some r → AW G m_X1_rainOn 1 0 0 24 [(0, .ref x0), (1, .int x1), (2, .int x2), (3, .int x3)] [] σ (ah_N G (ah_rv r))) : ∀ (n : Nat) (x0 : Nat) (x1 : Int32) (x2 : Int32) (x3 : Int32) (x4 : Int32) (σ : ah_H) (r : ah_H), f_X1_rainOn_38  K24 n x0 x1 x2 x3 x4 σ = some r → AW G m_X1_rainOn 1 0 0 38 [(0, .ref x0), (1, .int x1), (2, .int x2), (3, .int x3), (4, .int x4)] [] σ (ah_N G (ah_rv r)) := by
  intro n
  induction n with
  | zero => intro x0 x1 x2 x3 x4 σ r h; cases h
  | succ n ih => intro x0 x1 x2 x3 x4 σ r h; exact c_X1_rainOn_38_b  K24 hK24 _ ih x0 x1 x2 x3 x4 σ r h
set_option maxRecDepth 100000 in
set_option maxHeartbeats 4000000 in
theorem c_X1_rainOn_24_b {G : ah_G}  (K24 : Nat → Int32 → Int32 → Int32 → ah_H → Option (ah_H)) (hK24 : ∀ (x0 : Nat) (x1 : Int32) (x2 : Int32) (x3 : Int32) (σ : ah_H) (r : ah_H), K24 x0 x1 x2 x3 σ = some r → AW G m_X1_rainOn 1 0 0 24 [(0, .ref x0), (1, .int x1), (2, .int x2), (3, .int x3)] [] σ (ah_N G (ah_rv r))) : ∀ (x0 : Nat) (x1 : Int32) (x2 : Int32) (x3 : Int32) (σ : ah_H) (r : ah_H), f_X1_rainOn_24_b  K24 x0 x1 x2 x3 σ = some r → AW G m_X1_rainOn 1 0 0 24 [(0, .ref x0), (1, .int x1), (2, .int x2), (3, .int x3)] [] σ (ah_N G (ah_rv r)) := by
  intro x0 x1 x2 x3 σ r h
  unfold f_X1_rainOn_24_b at h
  refine aw_iload_n (pc := 24) 3 dX1_rainOn_24 rfl ?_
  refine aw_aload_n (pc := 25) 0 dX1_rainOn_25 rfl ?_
  obtain ⟨v1, e, h⟩ := op_bd h
  refine ow_gR (pc := 26) e dX1_rainOn_26 fd_X1_36 rfl ?_
  obtain ⟨v2, e, h⟩ := op_bd h
  refine ow_gI (pc := 29) e dX1_rainOn_29 fd_X1_72 rfl ?_
  refine aw_icmp_ge (pc := 32) 87 dX1_rainOn_32 (by decide) (fun z => ?_) (fun z => ?_)
  · replace h := (if_pos z).symm.trans h
    exact ow_vret (pc := 87) h dX1_rainOn_87 rfl
  · replace h := (if_neg z).symm.trans h
    refine aw_iconst (pc := 35) (v := (0 : Int32)) dX1_rainOn_35 (by decide) ?_
    refine aw_istore (pc := 36) [(4, .int (0 : Int32)), (0, .ref x0), (1, .int x1), (2, .int x2), (3, .int x3)] dX1_rainOn_36 (by decide) rfl ?_
    refine aw_sub [1, 2, 3, 4, 0] rfl ?_
    exact c_X1_rainOn_38 K24 hK24 _ _ _ _ _ _ _ _ h
theorem c_X1_rainOn_24 {G : ah_G}   : ∀ (n : Nat) (x0 : Nat) (x1 : Int32) (x2 : Int32) (x3 : Int32) (σ : ah_H) (r : ah_H), f_X1_rainOn_24   n x0 x1 x2 x3 σ = some r → AW G m_X1_rainOn 1 0 0 24 [(0, .ref x0), (1, .int x1), (2, .int x2), (3, .int x3)] [] σ (ah_N G (ah_rv r)) := by
  intro n
  induction n with
  | zero => intro x0 x1 x2 x3 σ r h; cases h
  | succ n ih => intro x0 x1 x2 x3 σ r h; exact c_X1_rainOn_24_b   _ ih x0 x1 x2 x3 σ r h
set_option maxRecDepth 100000 in
set_option maxHeartbeats 4000000 in
theorem c_X1_rainOn_0 {G : ah_G}   : ∀ (x0 : Nat) (x1 : Int32) (σ : ah_H) (r : ah_H), f_X1_rainOn_0   x0 x1 σ = some r → AW G m_X1_rainOn 1 0 0 0 [(0, .ref x0), (1, .int x1)] [] σ (ah_N G (ah_rv r)) := by
  intro x0 x1 σ r h
  unfold f_X1_rainOn_0 at h
  refine aw_aload_n (pc := 0) 0 dX1_rainOn_0 rfl ?_
  obtain ⟨v1, e, h⟩ := op_bd h
  refine ow_gR (pc := 1) e dX1_rainOn_1 fd_X1_11 rfl ?_
  refine aw_iload_n (pc := 4) 1 dX1_rainOn_4 rfl ?_
  obtain ⟨v2, e, h⟩ := op_bd h
  refine ow_aR (pc := 5) e dX1_rainOn_5 (by decide) ?_
  refine aw_lconst (pc := 6) (v := (0 : Int64)) dX1_rainOn_6 (by decide) ?_
  obtain ⟨r3, e, h⟩ := op_bd h
  refine ow_cSv (pc := 7) [.ref v2, .long (0 : Int64)] ((c_J7_fill_d0a16 _ _ _ _ e).mono (by decide)) rfl dX1_rainOn_7 cw_X1_44 rfl (Nat.le_of_ble_eq_true rfl) ?_
  refine aw_aload_n (pc := 10) 0 dX1_rainOn_10 rfl ?_
  obtain ⟨v4, e, h⟩ := op_bd h
  refine ow_gR (pc := 11) e dX1_rainOn_11 fd_X1_36 rfl ?_
  obtain ⟨v5, e, h⟩ := op_bd h
  refine ow_gR (pc := 14) e dX1_rainOn_14 fd_X1_75 rfl ?_
  refine aw_iload_n (pc := 17) 1 dX1_rainOn_17 rfl ?_
  obtain ⟨v6, e, h⟩ := op_bd h
  refine ow_aR (pc := 18) e dX1_rainOn_18 (by decide) ?_
  refine aw_iconst (pc := 19) (v := (1 : Int32)) dX1_rainOn_19 (by decide) ?_
  obtain ⟨v7, e, h⟩ := op_bd h
  refine ow_aI (pc := 20) e dX1_rainOn_20 ?_
  refine aw_istore_n (pc := 21) [(2, .int v7), (0, .ref x0), (1, .int x1)] dX1_rainOn_21 rfl (by decide) rfl ?_
  refine aw_iconst (pc := 22) (v := (0 : Int32)) dX1_rainOn_22 (by decide) ?_
  refine aw_istore_n (pc := 23) [(3, .int (0 : Int32)), (2, .int v7), (0, .ref x0), (1, .int x1)] dX1_rainOn_23 rfl (by decide) rfl ?_
  refine aw_sub [2, 3, 1, 0] rfl ?_
  exact c_X1_rainOn_24  _ _ _ _ _ _ _ h
theorem c_X1_rainOn {G : ah_G}   (x0 : Nat) (x1 : Int32) (σ : ah_H) (r : ah_H) (h : f_X1_rainOn  x0 x1 σ = some r) : AM G m_X1_rainOn 1 0 0 [.ref x0, .int x1] σ (ah_rv r) := aw_enter (by decide) (Nat.le_of_ble_eq_true rfl) (c_X1_rainOn_0 _ _ _ _ (op_ck_k h))
def f_X1_sortDownwards_54  (K10 : Nat → Int32 → ah_H → Option (ah_H)) (x0 : Nat) (x1 : Int32) (σ : ah_H) : Option (ah_H) :=
  K10 x0 (x1 + (1 : Int32)) σ
def f_X1_sortDownwards_107  (K67 : Nat → Int32 → ah_H → Option (ah_H)) (x0 : Nat) (x1 : Int32) (σ : ah_H) : Option (ah_H) :=
  K67 x0 (x1 + (1 : Int32)) σ
def f_X1_sortDownwards_212  (K115 : Nat → Int32 → ah_H → Option (ah_H)) (x0 : Nat) (x1 : Int32) (σ : ah_H) : Option (ah_H) :=
  K115 x0 (x1 + (1 : Int32)) σ
def f_X1_sortDownwards_158  (K115 : Nat → Int32 → ah_H → Option (ah_H)) (x0 : Nat) (x1 : Int32) (s0 : Int32) (σ : ah_H) : Option (ah_H) :=
  if s0 = (-1 : Int32) then (f_X1_sortDownwards_212 K115 x0 x1 σ) else ((op_gR 1 5 σ x0).bind fun v1 => (op_aI σ v1 s0).bind fun v2 => (op_sI σ v1 s0 (v2 - (1 : Int32))).bind fun σ3 => (op_gR 1 5 σ3 x0).bind fun v4 => (op_aI σ3 v4 s0).bind fun v5 => if v5 = 0 then ((op_gI 1 6 σ3 x0).bind fun v6 => if (7 : Int32) ≤ v6 then (f_X1_sortDownwards_212 K115 x0 x1 σ3) else ((op_gR 1 4 σ3 x0).bind fun v7 => (op_gI 1 6 σ3 x0).bind fun v8 => (op_sI σ3 v7 v8 s0).bind fun σ9 => (op_gI 1 6 σ9 x0).bind fun v10 => (op_pI 1 6 σ9 x0 (v10 + (1 : Int32))).bind fun σ11 => f_X1_sortDownwards_212 K115 x0 x1 σ11)) else (f_X1_sortDownwards_212 K115 x0 x1 σ3))
def f_X1_sortDownwards_115_b  (K115 : Nat → Int32 → ah_H → Option (ah_H)) (x0 : Nat) (x1 : Int32) (σ : ah_H) : Option (ah_H) :=
  (op_gI 1 6 σ x0).bind fun v1 => if v1 ≤ x1 then (some σ) else ((op_gR 1 7 σ x0).bind fun v2 => (op_gR 1 4 σ x0).bind fun v3 => (op_aI σ v3 x1).bind fun v4 => (op_aI σ v2 v4).bind fun v5 => if v5 = (-1 : Int32) then (f_X1_sortDownwards_158 K115 x0 x1 (-1 : Int32) σ) else ((op_gR 1 8 σ x0).bind fun v6 => (op_gR 1 4 σ x0).bind fun v7 => (op_aI σ v7 x1).bind fun v8 => (f_X9_otherEnd v6 v5 v8 σ).bind fun r9 => f_X1_sortDownwards_158 K115 x0 x1 r9.1 r9.2))
def f_X1_sortDownwards_115   : Nat → Nat → Int32 → ah_H → Option (ah_H)
  | 0, _, _, _ => none
  | n + 1, x0, x1, σ => f_X1_sortDownwards_115_b (f_X1_sortDownwards_115 n) x0 x1 σ
def f_X1_sortDownwards_113   (x0 : Nat) (σ : ah_H) : Option (ah_H) :=
  f_X1_sortDownwards_115 5000 x0 (0 : Int32) σ
def f_X1_sortDownwards_67_b  (K67 : Nat → Int32 → ah_H → Option (ah_H)) (x0 : Nat) (x1 : Int32) (σ : ah_H) : Option (ah_H) :=
  (op_gR 1 8 σ x0).bind fun v1 => (op_gI 9 0 σ v1).bind fun v2 => if v2 ≤ x1 then (f_X1_sortDownwards_113 x0 σ) else ((op_gR 1 5 σ x0).bind fun v3 => (op_aI σ v3 x1).bind fun v4 => if v4 = 0 then ((op_gR 1 4 σ x0).bind fun v5 => (op_gI 1 6 σ x0).bind fun v6 => (op_sI σ v5 v6 x1).bind fun σ7 => (op_gI 1 6 σ7 x0).bind fun v8 => (op_pI 1 6 σ7 x0 (v8 + (1 : Int32))).bind fun σ9 => f_X1_sortDownwards_107 K67 x0 x1 σ9) else (f_X1_sortDownwards_107 K67 x0 x1 σ))
def f_X1_sortDownwards_67   : Nat → Nat → Int32 → ah_H → Option (ah_H)
  | 0, _, _, _ => none
  | n + 1, x0, x1, σ => f_X1_sortDownwards_67_b (f_X1_sortDownwards_67 n) x0 x1 σ
def f_X1_sortDownwards_60   (x0 : Nat) (σ : ah_H) : Option (ah_H) :=
  (op_pI 1 6 σ x0 (0 : Int32)).bind fun σ1 => f_X1_sortDownwards_67 5000 x0 (0 : Int32) σ1
def f_X1_sortDownwards_10_b  (K10 : Nat → Int32 → ah_H → Option (ah_H)) (x0 : Nat) (x1 : Int32) (σ : ah_H) : Option (ah_H) :=
  (op_gR 1 8 σ x0).bind fun v1 => (op_gI 9 0 σ v1).bind fun v2 => if v2 ≤ x1 then (f_X1_sortDownwards_60 x0 σ) else ((op_gR 1 7 σ x0).bind fun v3 => (op_aI σ v3 x1).bind fun v4 => if v4 = (-1 : Int32) then (f_X1_sortDownwards_54 K10 x0 x1 σ) else ((op_gR 1 5 σ x0).bind fun v5 => (op_gR 1 8 σ x0).bind fun v6 => (op_gR 1 7 σ x0).bind fun v7 => (op_aI σ v7 x1).bind fun v8 => (f_X9_otherEnd v6 v8 x1 σ).bind fun r9 => (op_aI r9.2 v5 r9.1).bind fun v10 => (op_sI r9.2 v5 r9.1 (v10 + (1 : Int32))).bind fun σ11 => f_X1_sortDownwards_54 K10 x0 x1 σ11))
def f_X1_sortDownwards_10   : Nat → Nat → Int32 → ah_H → Option (ah_H)
  | 0, _, _, _ => none
  | n + 1, x0, x1, σ => f_X1_sortDownwards_10_b (f_X1_sortDownwards_10 n) x0 x1 σ
def f_X1_sortDownwards_0   (x0 : Nat) (σ : ah_H) : Option (ah_H) :=
  (op_gR 1 5 σ x0).bind fun v1 => (f_J7_fill_53178 v1 (0 : Int32) σ).bind fun r2 => f_X1_sortDownwards_10 5000 x0 (0 : Int32) r2
def f_X1_sortDownwards  (x0 : Nat) (σ : ah_H) : Option (ah_H) := op_ck 1 σ x0 (f_X1_sortDownwards_0 x0 σ)
set_option maxRecDepth 100000 in
set_option maxHeartbeats 4000000 in
theorem c_X1_sortDownwards_54 {G : ah_G}  (K10 : Nat → Int32 → ah_H → Option (ah_H)) (hK10 : ∀ (x0 : Nat) (x1 : Int32) (σ : ah_H) (r : ah_H), K10 x0 x1 σ = some r → AW G m_X1_sortDownwards 1 0 0 10 [(0, .ref x0), (1, .int x1)] [] σ (ah_N G (ah_rv r))) : ∀ (x0 : Nat) (x1 : Int32) (σ : ah_H) (r : ah_H), f_X1_sortDownwards_54  K10 x0 x1 σ = some r → AW G m_X1_sortDownwards 1 0 0 54 [(0, .ref x0), (1, .int x1)] [] σ (ah_N G (ah_rv r)) := by
  intro x0 x1 σ r h
  unfold f_X1_sortDownwards_54 at h
  refine aw_iinc (pc := 54) 1 [(1, .int (x1 + (1 : Int32))), (0, .ref x0)] (x1 + (1 : Int32)) dX1_sortDownwards_54 rfl rfl (by decide) rfl ?_
  refine aw_goto (pc := 57) 10 dX1_sortDownwards_57 (by decide) ?_
  refine aw_sub [1, 0] rfl ?_
  exact hK10 _ _ _ _ h
set_option maxRecDepth 100000 in
set_option maxHeartbeats 4000000 in
theorem c_X1_sortDownwards_107 {G : ah_G}  (K67 : Nat → Int32 → ah_H → Option (ah_H)) (hK67 : ∀ (x0 : Nat) (x1 : Int32) (σ : ah_H) (r : ah_H), K67 x0 x1 σ = some r → AW G m_X1_sortDownwards 1 0 0 67 [(0, .ref x0), (1, .int x1)] [] σ (ah_N G (ah_rv r))) : ∀ (x0 : Nat) (x1 : Int32) (σ : ah_H) (r : ah_H), f_X1_sortDownwards_107  K67 x0 x1 σ = some r → AW G m_X1_sortDownwards 1 0 0 107 [(0, .ref x0), (1, .int x1)] [] σ (ah_N G (ah_rv r)) := by
  intro x0 x1 σ r h
  unfold f_X1_sortDownwards_107 at h
  refine aw_iinc (pc := 107) 1 [(1, .int (x1 + (1 : Int32))), (0, .ref x0)] (x1 + (1 : Int32)) dX1_sortDownwards_107 rfl rfl (by decide) rfl ?_
  refine aw_goto (pc := 110) 67 dX1_sortDownwards_110 (by decide) ?_
  refine aw_sub [1, 0] rfl ?_
  exact hK67 _ _ _ _ h
set_option maxRecDepth 100000 in
set_option maxHeartbeats 4000000 in
theorem c_X1_sortDownwards_212 {G : ah_G}  (K115 : Nat → Int32 → ah_H → Option (ah_H)) (hK115 : ∀ (x0 : Nat) (x1 : Int32) (σ : ah_H) (r : ah_H), K115 x0 x1 σ = some r → AW G m_X1_sortDownwards 1 0 0 115 [(0, .ref x0), (1, .int x1)] [] σ (ah_N G (ah_rv r))) : ∀ (x0 : Nat) (x1 : Int32) (σ : ah_H) (r : ah_H), f_X1_sortDownwards_212  K115 x0 x1 σ = some r → AW G m_X1_sortDownwards 1 0 0 212 [(0, .ref x0), (1, .int x1)] [] σ (ah_N G (ah_rv r)) := by
  intro x0 x1 σ r h
  unfold f_X1_sortDownwards_212 at h
  refine aw_iinc (pc := 212) 1 [(1, .int (x1 + (1 : Int32))), (0, .ref x0)] (x1 + (1 : Int32)) dX1_sortDownwards_212 rfl rfl (by decide) rfl ?_
  refine aw_goto (pc := 215) 115 dX1_sortDownwards_215 (by decide) ?_
  refine aw_sub [1, 0] rfl ?_
  exact hK115 _ _ _ _ h
set_option maxRecDepth 100000 in
set_option maxHeartbeats 4000000 in
theorem c_X1_sortDownwards_158 {G : ah_G}  (K115 : Nat → Int32 → ah_H → Option (ah_H)) (hK115 : ∀ (x0 : Nat) (x1 : Int32) (σ : ah_H) (r : ah_H), K115 x0 x1 σ = some r → AW G m_X1_sortDownwards 1 0 0 115 [(0, .ref x0), (1, .int x1)] [] σ (ah_N G (ah_rv r))) : ∀ (x0 : Nat) (x1 : Int32) (s0 : Int32) (σ : ah_H) (r : ah_H), f_X1_sortDownwards_158  K115 x0 x1 s0 σ = some r → AW G m_X1_sortDownwards 1 0 0 158 [(0, .ref x0), (1, .int x1)] [.int s0] σ (ah_N G (ah_rv r)) := by
  intro x0 x1 s0 σ r h
  unfold f_X1_sortDownwards_158 at h
  refine aw_istore_n (pc := 158) [(3, .int s0), (0, .ref x0), (1, .int x1)] dX1_sortDownwards_158 rfl (by decide) rfl ?_
  refine aw_iload_n (pc := 159) 0 dX1_sortDownwards_159 rfl ?_
  refine aw_iconst (pc := 160) (v := (-1 : Int32)) dX1_sortDownwards_160 (by decide) ?_
  refine aw_icmp_eq (pc := 161) 212 dX1_sortDownwards_161 (by decide) (fun z => ?_) (fun z => ?_)
  · replace h := (if_pos z).symm.trans h
    refine aw_sub [1, 2] rfl ?_
    exact c_X1_sortDownwards_212 K115 hK115 _ _ _ _ h
  · replace h := (if_neg z).symm.trans h
    refine aw_aload_n (pc := 164) 1 dX1_sortDownwards_164 rfl ?_
    obtain ⟨v1, e, h⟩ := op_bd h
    refine ow_gR (pc := 165) e dX1_sortDownwards_165 fd_X1_30 rfl ?_
    refine aw_iload_n (pc := 168) 0 dX1_sortDownwards_168 rfl ?_
    refine aw_dup2 (pc := 169) dX1_sortDownwards_169 rfl rfl ?_
    obtain ⟨v2, e, h⟩ := op_bd h
    refine ow_aI (pc := 170) e dX1_sortDownwards_170 ?_
    refine aw_iconst (pc := 171) (v := (1 : Int32)) dX1_sortDownwards_171 (by decide) ?_
    refine aw_isub (pc := 172) dX1_sortDownwards_172 ?_
    obtain ⟨σ3, e, h⟩ := op_bd h
    refine ow_sI (pc := 173) e dX1_sortDownwards_173 ?_
    refine aw_aload_n (pc := 174) 1 dX1_sortDownwards_174 rfl ?_
    obtain ⟨v4, e, h⟩ := op_bd h
    refine ow_gR (pc := 175) e dX1_sortDownwards_175 fd_X1_30 rfl ?_
    refine aw_iload_n (pc := 178) 0 dX1_sortDownwards_178 rfl ?_
    obtain ⟨v5, e, h⟩ := op_bd h
    refine ow_aI (pc := 179) e dX1_sortDownwards_179 ?_
    refine aw_if_ne (pc := 180) 212 dX1_sortDownwards_180 (by decide) (fun z => ?_) (fun z => ?_)
    · replace h := (if_neg z).symm.trans h
      refine aw_sub [1, 2] rfl ?_
      exact c_X1_sortDownwards_212 K115 hK115 _ _ _ _ h
    · replace h := (if_pos z).symm.trans h
      refine aw_aload_n (pc := 183) 1 dX1_sortDownwards_183 rfl ?_
      obtain ⟨v6, e, h⟩ := op_bd h
      refine ow_gI (pc := 184) e dX1_sortDownwards_184 fd_X1_63 rfl ?_
      refine aw_bipush (pc := 187) (v := (7 : Int32)) dX1_sortDownwards_187 (by decide) ?_
      refine aw_icmp_ge (pc := 189) 212 dX1_sortDownwards_189 (by decide) (fun z => ?_) (fun z => ?_)
      · replace h := (if_pos z).symm.trans h
        refine aw_sub [1, 2] rfl ?_
        exact c_X1_sortDownwards_212 K115 hK115 _ _ _ _ h
      · replace h := (if_neg z).symm.trans h
        refine aw_aload_n (pc := 192) 1 dX1_sortDownwards_192 rfl ?_
        obtain ⟨v7, e, h⟩ := op_bd h
        refine ow_gR (pc := 193) e dX1_sortDownwards_193 fd_X1_27 rfl ?_
        refine aw_aload_n (pc := 196) 1 dX1_sortDownwards_196 rfl ?_
        obtain ⟨v8, e, h⟩ := op_bd h
        refine ow_gI (pc := 197) e dX1_sortDownwards_197 fd_X1_63 rfl ?_
        refine aw_iload_n (pc := 200) 0 dX1_sortDownwards_200 rfl ?_
        obtain ⟨σ9, e, h⟩ := op_bd h
        refine ow_sI (pc := 201) e dX1_sortDownwards_201 ?_
        refine aw_aload_n (pc := 202) 1 dX1_sortDownwards_202 rfl ?_
        refine aw_dup (pc := 203) dX1_sortDownwards_203 rfl ?_
        obtain ⟨v10, e, h⟩ := op_bd h
        refine ow_gI (pc := 204) e dX1_sortDownwards_204 fd_X1_63 rfl ?_
        refine aw_iconst (pc := 207) (v := (1 : Int32)) dX1_sortDownwards_207 (by decide) ?_
        refine aw_iadd (pc := 208) dX1_sortDownwards_208 ?_
        obtain ⟨σ11, e, h⟩ := op_bd h
        refine ow_pI (pc := 209) e dX1_sortDownwards_209 fd_X1_63 ?_
        refine aw_sub [1, 2] rfl ?_
        exact c_X1_sortDownwards_212 K115 hK115 _ _ _ _ h
set_option maxRecDepth 100000 in
set_option maxHeartbeats 4000000 in
theorem c_X1_sortDownwards_115_b {G : ah_G}  (K115 : Nat → Int32 → ah_H → Option (ah_H)) (hK115 : ∀ (x0 : Nat) (x1 : Int32) (σ : ah_H) (r : ah_H), K115 x0 x1 σ = some r → AW G m_X1_sortDownwards 1 0 0 115 [(0, .ref x0), (1, .int x1)] [] σ (ah_N G (ah_rv r))) : ∀ (x0 : Nat) (x1 : Int32) (σ : ah_H) (r : ah_H), f_X1_sortDownwards_115_b  K115 x0 x1 σ = some r → AW G m_X1_sortDownwards 1 0 0 115 [(0, .ref x0), (1, .int x1)] [] σ (ah_N G (ah_rv r)) := by
  intro x0 x1 σ r h
  unfold f_X1_sortDownwards_115_b at h
  refine aw_iload_n (pc := 115) 1 dX1_sortDownwards_115 rfl ?_
  refine aw_aload_n (pc := 116) 0 dX1_sortDownwards_116 rfl ?_
  obtain ⟨v1, e, h⟩ := op_bd h
  refine ow_gI (pc := 117) e dX1_sortDownwards_117 fd_X1_63 rfl ?_
  refine aw_icmp_ge (pc := 120) 218 dX1_sortDownwards_120 (by decide) (fun z => ?_) (fun z => ?_)
  · replace h := (if_pos z).symm.trans h
    exact ow_vret (pc := 218) h dX1_sortDownwards_218 rfl
  · replace h := (if_neg z).symm.trans h
    refine aw_aload_n (pc := 123) 0 dX1_sortDownwards_123 rfl ?_
    obtain ⟨v2, e, h⟩ := op_bd h
    refine ow_gR (pc := 124) e dX1_sortDownwards_124 fd_X1_33 rfl ?_
    refine aw_aload_n (pc := 127) 0 dX1_sortDownwards_127 rfl ?_
    obtain ⟨v3, e, h⟩ := op_bd h
    refine ow_gR (pc := 128) e dX1_sortDownwards_128 fd_X1_27 rfl ?_
    refine aw_iload_n (pc := 131) 1 dX1_sortDownwards_131 rfl ?_
    obtain ⟨v4, e, h⟩ := op_bd h
    refine ow_aI (pc := 132) e dX1_sortDownwards_132 ?_
    obtain ⟨v5, e, h⟩ := op_bd h
    refine ow_aI (pc := 133) e dX1_sortDownwards_133 ?_
    refine aw_istore_n (pc := 134) [(2, .int v5), (0, .ref x0), (1, .int x1)] dX1_sortDownwards_134 rfl (by decide) rfl ?_
    refine aw_iload_n (pc := 135) 0 dX1_sortDownwards_135 rfl ?_
    refine aw_iconst (pc := 136) (v := (-1 : Int32)) dX1_sortDownwards_136 (by decide) ?_
    refine aw_icmp_ne (pc := 137) 144 dX1_sortDownwards_137 (by decide) (fun z => ?_) (fun z => ?_)
    · replace h := (if_neg z).symm.trans h
      refine aw_aload_n (pc := 144) 1 dX1_sortDownwards_144 rfl ?_
      obtain ⟨v6, e, h⟩ := op_bd h
      refine ow_gR (pc := 145) e dX1_sortDownwards_145 fd_X1_36 rfl ?_
      refine aw_iload_n (pc := 148) 0 dX1_sortDownwards_148 rfl ?_
      refine aw_aload_n (pc := 149) 1 dX1_sortDownwards_149 rfl ?_
      obtain ⟨v7, e, h⟩ := op_bd h
      refine ow_gR (pc := 150) e dX1_sortDownwards_150 fd_X1_27 rfl ?_
      refine aw_iload_n (pc := 153) 2 dX1_sortDownwards_153 rfl ?_
      obtain ⟨v8, e, h⟩ := op_bd h
      refine ow_aI (pc := 154) e dX1_sortDownwards_154 ?_
      obtain ⟨r9, e, h⟩ := op_bd h
      refine ow_cVi (pc := 155) [.int v5, .int v8] ((c_X9_otherEnd _ _ _ _ _ e).mono (by decide)) (op_ck_sh e) rfl dX1_sortDownwards_155 cw_X1_85 rfl (Nat.le_of_ble_eq_true rfl) ?_
      refine aw_sub [1, 2] rfl ?_
      exact c_X1_sortDownwards_158 K115 hK115 _ _ _ _ _ h
    · replace h := (if_pos z).symm.trans h
      refine aw_iconst (pc := 140) (v := (-1 : Int32)) dX1_sortDownwards_140 (by decide) ?_
      refine aw_goto (pc := 141) 158 dX1_sortDownwards_141 (by decide) ?_
      refine aw_sub [1, 2] rfl ?_
      exact c_X1_sortDownwards_158 K115 hK115 _ _ _ _ _ h
theorem c_X1_sortDownwards_115 {G : ah_G}   : ∀ (n : Nat) (x0 : Nat) (x1 : Int32) (σ : ah_H) (r : ah_H), f_X1_sortDownwards_115   n x0 x1 σ = some r → AW G m_X1_sortDownwards 1 0 0 115 [(0, .ref x0), (1, .int x1)] [] σ (ah_N G (ah_rv r)) := by
  intro n
  induction n with
  | zero => intro x0 x1 σ r h; cases h
  | succ n ih => intro x0 x1 σ r h; exact c_X1_sortDownwards_115_b   _ ih x0 x1 σ r h
set_option maxRecDepth 100000 in
set_option maxHeartbeats 4000000 in
theorem c_X1_sortDownwards_113 {G : ah_G}   : ∀ (x0 : Nat) (σ : ah_H) (r : ah_H), f_X1_sortDownwards_113   x0 σ = some r → AW G m_X1_sortDownwards 1 0 0 113 [(0, .ref x0)] [] σ (ah_N G (ah_rv r)) := by
  intro x0 σ r h
  unfold f_X1_sortDownwards_113 at h
  refine aw_iconst (pc := 113) (v := (0 : Int32)) dX1_sortDownwards_113 (by decide) ?_
  refine aw_istore_n (pc := 114) [(1, .int (0 : Int32)), (0, .ref x0)] dX1_sortDownwards_114 rfl (by decide) rfl ?_
  refine aw_sub [1, 0] rfl ?_
  exact c_X1_sortDownwards_115  _ _ _ _ _ h
set_option maxRecDepth 100000 in
set_option maxHeartbeats 4000000 in
theorem c_X1_sortDownwards_67_b {G : ah_G}  (K67 : Nat → Int32 → ah_H → Option (ah_H)) (hK67 : ∀ (x0 : Nat) (x1 : Int32) (σ : ah_H) (r : ah_H), K67 x0 x1 σ = some r → AW G m_X1_sortDownwards 1 0 0 67 [(0, .ref x0), (1, .int x1)] [] σ (ah_N G (ah_rv r))) : ∀ (x0 : Nat) (x1 : Int32) (σ : ah_H) (r : ah_H), f_X1_sortDownwards_67_b  K67 x0 x1 σ = some r → AW G m_X1_sortDownwards 1 0 0 67 [(0, .ref x0), (1, .int x1)] [] σ (ah_N G (ah_rv r)) := by
  intro x0 x1 σ r h
  unfold f_X1_sortDownwards_67_b at h
  refine aw_iload_n (pc := 67) 1 dX1_sortDownwards_67 rfl ?_
  refine aw_aload_n (pc := 68) 0 dX1_sortDownwards_68 rfl ?_
  obtain ⟨v1, e, h⟩ := op_bd h
  refine ow_gR (pc := 69) e dX1_sortDownwards_69 fd_X1_36 rfl ?_
  obtain ⟨v2, e, h⟩ := op_bd h
  refine ow_gI (pc := 72) e dX1_sortDownwards_72 fd_X1_50 rfl ?_
  refine aw_icmp_ge (pc := 75) 113 dX1_sortDownwards_75 (by decide) (fun z => ?_) (fun z => ?_)
  · replace h := (if_pos z).symm.trans h
    refine aw_sub [0] rfl ?_
    exact c_X1_sortDownwards_113  _ _ _ h
  · replace h := (if_neg z).symm.trans h
    refine aw_aload_n (pc := 78) 0 dX1_sortDownwards_78 rfl ?_
    obtain ⟨v3, e, h⟩ := op_bd h
    refine ow_gR (pc := 79) e dX1_sortDownwards_79 fd_X1_30 rfl ?_
    refine aw_iload_n (pc := 82) 1 dX1_sortDownwards_82 rfl ?_
    obtain ⟨v4, e, h⟩ := op_bd h
    refine ow_aI (pc := 83) e dX1_sortDownwards_83 ?_
    refine aw_if_ne (pc := 84) 107 dX1_sortDownwards_84 (by decide) (fun z => ?_) (fun z => ?_)
    · replace h := (if_neg z).symm.trans h
      exact c_X1_sortDownwards_107 K67 hK67 _ _ _ _ h
    · replace h := (if_pos z).symm.trans h
      refine aw_aload_n (pc := 87) 0 dX1_sortDownwards_87 rfl ?_
      obtain ⟨v5, e, h⟩ := op_bd h
      refine ow_gR (pc := 88) e dX1_sortDownwards_88 fd_X1_27 rfl ?_
      refine aw_aload_n (pc := 91) 0 dX1_sortDownwards_91 rfl ?_
      obtain ⟨v6, e, h⟩ := op_bd h
      refine ow_gI (pc := 92) e dX1_sortDownwards_92 fd_X1_63 rfl ?_
      refine aw_iload_n (pc := 95) 1 dX1_sortDownwards_95 rfl ?_
      obtain ⟨σ7, e, h⟩ := op_bd h
      refine ow_sI (pc := 96) e dX1_sortDownwards_96 ?_
      refine aw_aload_n (pc := 97) 0 dX1_sortDownwards_97 rfl ?_
      refine aw_dup (pc := 98) dX1_sortDownwards_98 rfl ?_
      obtain ⟨v8, e, h⟩ := op_bd h
      refine ow_gI (pc := 99) e dX1_sortDownwards_99 fd_X1_63 rfl ?_
      refine aw_iconst (pc := 102) (v := (1 : Int32)) dX1_sortDownwards_102 (by decide) ?_
      refine aw_iadd (pc := 103) dX1_sortDownwards_103 ?_
      obtain ⟨σ9, e, h⟩ := op_bd h
      refine ow_pI (pc := 104) e dX1_sortDownwards_104 fd_X1_63 ?_
      exact c_X1_sortDownwards_107 K67 hK67 _ _ _ _ h
theorem c_X1_sortDownwards_67 {G : ah_G}   : ∀ (n : Nat) (x0 : Nat) (x1 : Int32) (σ : ah_H) (r : ah_H), f_X1_sortDownwards_67   n x0 x1 σ = some r → AW G m_X1_sortDownwards 1 0 0 67 [(0, .ref x0), (1, .int x1)] [] σ (ah_N G (ah_rv r)) := by
  intro n
  induction n with
  | zero => intro x0 x1 σ r h; cases h
  | succ n ih => intro x0 x1 σ r h; exact c_X1_sortDownwards_67_b   _ ih x0 x1 σ r h
set_option maxRecDepth 100000 in
set_option maxHeartbeats 4000000 in
theorem c_X1_sortDownwards_60 {G : ah_G}   : ∀ (x0 : Nat) (σ : ah_H) (r : ah_H), f_X1_sortDownwards_60   x0 σ = some r → AW G m_X1_sortDownwards 1 0 0 60 [(0, .ref x0)] [] σ (ah_N G (ah_rv r)) := by
  intro x0 σ r h
  unfold f_X1_sortDownwards_60 at h
  refine aw_aload_n (pc := 60) 0 dX1_sortDownwards_60 rfl ?_
  refine aw_iconst (pc := 61) (v := (0 : Int32)) dX1_sortDownwards_61 (by decide) ?_
  obtain ⟨σ1, e, h⟩ := op_bd h
  refine ow_pI (pc := 62) e dX1_sortDownwards_62 fd_X1_63 ?_
  refine aw_iconst (pc := 65) (v := (0 : Int32)) dX1_sortDownwards_65 (by decide) ?_
  refine aw_istore_n (pc := 66) [(1, .int (0 : Int32)), (0, .ref x0)] dX1_sortDownwards_66 rfl (by decide) rfl ?_
  refine aw_sub [1, 0] rfl ?_
  exact c_X1_sortDownwards_67  _ _ _ _ _ h
set_option maxRecDepth 100000 in
set_option maxHeartbeats 4000000 in
theorem c_X1_sortDownwards_10_b {G : ah_G}  (K10 : Nat → Int32 → ah_H → Option (ah_H)) (hK10 : ∀ (x0 : Nat) (x1 : Int32) (σ : ah_H) (r : ah_H), K10 x0 x1 σ = some r → AW G m_X1_sortDownwards 1 0 0 10 [(0, .ref x0), (1, .int x1)] [] σ (ah_N G (ah_rv r))) : ∀ (x0 : Nat) (x1 : Int32) (σ : ah_H) (r : ah_H), f_X1_sortDownwards_10_b  K10 x0 x1 σ = some r → AW G m_X1_sortDownwards 1 0 0 10 [(0, .ref x0), (1, .int x1)] [] σ (ah_N G (ah_rv r)) := by
  intro x0 x1 σ r h
  unfold f_X1_sortDownwards_10_b at h
  refine aw_iload_n (pc := 10) 1 dX1_sortDownwards_10 rfl ?_
  refine aw_aload_n (pc := 11) 0 dX1_sortDownwards_11 rfl ?_
  obtain ⟨v1, e, h⟩ := op_bd h
  refine ow_gR (pc := 12) e dX1_sortDownwards_12 fd_X1_36 rfl ?_
  obtain ⟨v2, e, h⟩ := op_bd h
  refine ow_gI (pc := 15) e dX1_sortDownwards_15 fd_X1_50 rfl ?_
  refine aw_icmp_ge (pc := 18) 60 dX1_sortDownwards_18 (by decide) (fun z => ?_) (fun z => ?_)
  · replace h := (if_pos z).symm.trans h
    refine aw_sub [0] rfl ?_
    exact c_X1_sortDownwards_60  _ _ _ h
  · replace h := (if_neg z).symm.trans h
    refine aw_aload_n (pc := 21) 0 dX1_sortDownwards_21 rfl ?_
    obtain ⟨v3, e, h⟩ := op_bd h
    refine ow_gR (pc := 22) e dX1_sortDownwards_22 fd_X1_33 rfl ?_
    refine aw_iload_n (pc := 25) 1 dX1_sortDownwards_25 rfl ?_
    obtain ⟨v4, e, h⟩ := op_bd h
    refine ow_aI (pc := 26) e dX1_sortDownwards_26 ?_
    refine aw_iconst (pc := 27) (v := (-1 : Int32)) dX1_sortDownwards_27 (by decide) ?_
    refine aw_icmp_eq (pc := 28) 54 dX1_sortDownwards_28 (by decide) (fun z => ?_) (fun z => ?_)
    · replace h := (if_pos z).symm.trans h
      exact c_X1_sortDownwards_54 K10 hK10 _ _ _ _ h
    · replace h := (if_neg z).symm.trans h
      refine aw_aload_n (pc := 31) 0 dX1_sortDownwards_31 rfl ?_
      obtain ⟨v5, e, h⟩ := op_bd h
      refine ow_gR (pc := 32) e dX1_sortDownwards_32 fd_X1_30 rfl ?_
      refine aw_aload_n (pc := 35) 0 dX1_sortDownwards_35 rfl ?_
      obtain ⟨v6, e, h⟩ := op_bd h
      refine ow_gR (pc := 36) e dX1_sortDownwards_36 fd_X1_36 rfl ?_
      refine aw_aload_n (pc := 39) 0 dX1_sortDownwards_39 rfl ?_
      obtain ⟨v7, e, h⟩ := op_bd h
      refine ow_gR (pc := 40) e dX1_sortDownwards_40 fd_X1_33 rfl ?_
      refine aw_iload_n (pc := 43) 1 dX1_sortDownwards_43 rfl ?_
      obtain ⟨v8, e, h⟩ := op_bd h
      refine ow_aI (pc := 44) e dX1_sortDownwards_44 ?_
      refine aw_iload_n (pc := 45) 1 dX1_sortDownwards_45 rfl ?_
      obtain ⟨r9, e, h⟩ := op_bd h
      refine ow_cVi (pc := 46) [.int v8, .int x1] ((c_X9_otherEnd _ _ _ _ _ e).mono (by decide)) (op_ck_sh e) rfl dX1_sortDownwards_46 cw_X1_85 rfl (Nat.le_of_ble_eq_true rfl) ?_
      refine aw_dup2 (pc := 49) dX1_sortDownwards_49 rfl rfl ?_
      obtain ⟨v10, e, h⟩ := op_bd h
      refine ow_aI (pc := 50) e dX1_sortDownwards_50 ?_
      refine aw_iconst (pc := 51) (v := (1 : Int32)) dX1_sortDownwards_51 (by decide) ?_
      refine aw_iadd (pc := 52) dX1_sortDownwards_52 ?_
      obtain ⟨σ11, e, h⟩ := op_bd h
      refine ow_sI (pc := 53) e dX1_sortDownwards_53 ?_
      exact c_X1_sortDownwards_54 K10 hK10 _ _ _ _ h
theorem c_X1_sortDownwards_10 {G : ah_G}   : ∀ (n : Nat) (x0 : Nat) (x1 : Int32) (σ : ah_H) (r : ah_H), f_X1_sortDownwards_10   n x0 x1 σ = some r → AW G m_X1_sortDownwards 1 0 0 10 [(0, .ref x0), (1, .int x1)] [] σ (ah_N G (ah_rv r)) := by
  intro n
  induction n with
  | zero => intro x0 x1 σ r h; cases h
  | succ n ih => intro x0 x1 σ r h; exact c_X1_sortDownwards_10_b   _ ih x0 x1 σ r h
set_option maxRecDepth 100000 in
set_option maxHeartbeats 4000000 in
theorem c_X1_sortDownwards_0 {G : ah_G}   : ∀ (x0 : Nat) (σ : ah_H) (r : ah_H), f_X1_sortDownwards_0   x0 σ = some r → AW G m_X1_sortDownwards 1 0 0 0 [(0, .ref x0)] [] σ (ah_N G (ah_rv r)) := by
  intro x0 σ r h
  unfold f_X1_sortDownwards_0 at h
  refine aw_aload_n (pc := 0) 0 dX1_sortDownwards_0 rfl ?_
  obtain ⟨v1, e, h⟩ := op_bd h
  refine ow_gR (pc := 1) e dX1_sortDownwards_1 fd_X1_30 rfl ?_
  refine aw_iconst (pc := 4) (v := (0 : Int32)) dX1_sortDownwards_4 (by decide) ?_
  obtain ⟨r2, e, h⟩ := op_bd h
  refine ow_cSv (pc := 5) [.ref v1, .int (0 : Int32)] ((c_J7_fill_53178 _ _ _ _ e).mono (by decide)) rfl dX1_sortDownwards_5 cw_X1_82 rfl (Nat.le_of_ble_eq_true rfl) ?_
  refine aw_iconst (pc := 8) (v := (0 : Int32)) dX1_sortDownwards_8 (by decide) ?_
  refine aw_istore_n (pc := 9) [(1, .int (0 : Int32)), (0, .ref x0)] dX1_sortDownwards_9 rfl (by decide) rfl ?_
  refine aw_sub [1, 0] rfl ?_
  exact c_X1_sortDownwards_10  _ _ _ _ _ h
theorem c_X1_sortDownwards {G : ah_G}   (x0 : Nat) (σ : ah_H) (r : ah_H) (h : f_X1_sortDownwards  x0 σ = some r) : AM G m_X1_sortDownwards 1 0 0 [.ref x0] σ (ah_rv r) := aw_enter (by decide) (Nat.le_of_ble_eq_true rfl) (c_X1_sortDownwards_0 _ _ _ (op_ck_k h))
def f_X1_run_68  (K35 : Nat → Int32 → ah_H → Option (ah_H)) (x0 : Nat) (x2 : Int32) (σ : ah_H) : Option (ah_H) :=
  K35 x0 (x2 + (1 : Int32)) σ
def f_X1_run_116  (K76 : Nat → Int32 → ah_H → Option (ah_H)) (x0 : Nat) (x2 : Int32) (σ : ah_H) : Option (ah_H) :=
  (f_X1_findPeak x0 x2 σ).bind fun r1 => K76 x0 (x2 + (1 : Int32)) r1
def f_X1_run_76_b  (K76 : Nat → Int32 → ah_H → Option (ah_H)) (x0 : Nat) (x2 : Int32) (σ : ah_H) : Option (ah_H) :=
  (op_gR 1 8 σ x0).bind fun v1 => (op_gI 9 0 σ v1).bind fun v2 => if v2 ≤ x2 then (some σ) else ((op_gR 1 5 σ x0).bind fun v3 => (op_aI σ v3 x2).bind fun v4 => if v4 ≤ 0 then (f_X1_run_116 K76 x0 x2 σ) else ((op_gR 1 0 σ x0).bind fun v5 => (op_aR .long σ v5 x2).bind fun v6 => (f_J7_fill_d0a16 v6 (0 : Int64) σ).bind fun r7 => (op_gR 1 1 r7 x0).bind fun v8 => (op_aR .long r7 v8 x2).bind fun v9 => (f_J7_fill_d0a16 v9 (0 : Int64) r7).bind fun r10 => f_X1_run_116 K76 x0 x2 r10))
def f_X1_run_76   : Nat → Nat → Int32 → ah_H → Option (ah_H)
  | 0, _, _, _ => none
  | n + 1, x0, x2, σ => f_X1_run_76_b (f_X1_run_76 n) x0 x2 σ
def f_X1_run_74   (x0 : Nat) (σ : ah_H) : Option (ah_H) :=
  f_X1_run_76 5000 x0 (0 : Int32) σ
def f_X1_run_35_b  (K35 : Nat → Int32 → ah_H → Option (ah_H)) (x0 : Nat) (x2 : Int32) (σ : ah_H) : Option (ah_H) :=
  (op_gI 1 6 σ x0).bind fun v1 => if v1 ≤ x2 then (f_X1_run_74 x0 σ) else ((op_gR 1 7 σ x0).bind fun v2 => (op_gR 1 4 σ x0).bind fun v3 => (op_aI σ v3 x2).bind fun v4 => (op_aI σ v2 v4).bind fun v5 => if v5 = (-1 : Int32) then (f_X1_run_68 K35 x0 x2 σ) else ((op_gR 1 4 σ x0).bind fun v6 => (op_aI σ v6 x2).bind fun v7 => (f_X1_passOn x0 v7 σ).bind fun r8 => f_X1_run_68 K35 x0 x2 r8))
def f_X1_run_35   : Nat → Nat → Int32 → ah_H → Option (ah_H)
  | 0, _, _, _ => none
  | n + 1, x0, x2, σ => f_X1_run_35_b (f_X1_run_35 n) x0 x2 σ
def f_X1_run_29   (x0 : Nat) (σ : ah_H) : Option (ah_H) :=
  (f_X1_sortDownwards x0 σ).bind fun r1 => f_X1_run_35 5000 x0 (0 : Int32) r1
def f_X1_run_7_b  (K7 : Nat → Int32 → ah_H → Option (ah_H)) (x0 : Nat) (x2 : Int32) (σ : ah_H) : Option (ah_H) :=
  (op_gR 1 8 σ x0).bind fun v1 => (op_gI 9 0 σ v1).bind fun v2 => if v2 ≤ x2 then (f_X1_run_29 x0 σ) else ((f_X1_rainOn x0 x2 σ).bind fun r3 => K7 x0 (x2 + (1 : Int32)) r3)
def f_X1_run_7   : Nat → Nat → Int32 → ah_H → Option (ah_H)
  | 0, _, _, _ => none
  | n + 1, x0, x2, σ => f_X1_run_7_b (f_X1_run_7 n) x0 x2 σ
def f_X1_run_0   (x0 : Nat) (x1 : Nat) (σ : ah_H) : Option (ah_H) :=
  (op_pR 1 8 σ x0 x1).bind fun σ1 => f_X1_run_7 5000 x0 (0 : Int32) σ1
def f_X1_run  (x0 : Nat) (x1 : Nat) (σ : ah_H) : Option (ah_H) := op_ck 1 σ x0 (f_X1_run_0 x0 x1 σ)
set_option maxRecDepth 100000 in
set_option maxHeartbeats 4000000 in
theorem c_X1_run_68 {G : ah_G}  (K35 : Nat → Int32 → ah_H → Option (ah_H)) (hK35 : ∀ (x0 : Nat) (x2 : Int32) (σ : ah_H) (r : ah_H), K35 x0 x2 σ = some r → AW G m_X1_run 2 0 0 35 [(0, .ref x0), (2, .int x2)] [] σ (ah_N G (ah_rv r))) : ∀ (x0 : Nat) (x2 : Int32) (σ : ah_H) (r : ah_H), f_X1_run_68  K35 x0 x2 σ = some r → AW G m_X1_run 2 0 0 68 [(0, .ref x0), (2, .int x2)] [] σ (ah_N G (ah_rv r)) := by
  intro x0 x2 σ r h
  unfold f_X1_run_68 at h
  refine aw_iinc (pc := 68) 1 [(2, .int (x2 + (1 : Int32))), (0, .ref x0)] (x2 + (1 : Int32)) dX1_run_68 rfl rfl (by decide) rfl ?_
  refine aw_goto (pc := 71) 35 dX1_run_71 (by decide) ?_
  refine aw_sub [1, 0] rfl ?_
  exact hK35 _ _ _ _ h
set_option maxRecDepth 100000 in
set_option maxHeartbeats 4000000 in
theorem c_X1_run_116 {G : ah_G}  (K76 : Nat → Int32 → ah_H → Option (ah_H)) (hK76 : ∀ (x0 : Nat) (x2 : Int32) (σ : ah_H) (r : ah_H), K76 x0 x2 σ = some r → AW G m_X1_run 2 0 0 76 [(0, .ref x0), (2, .int x2)] [] σ (ah_N G (ah_rv r))) : ∀ (x0 : Nat) (x2 : Int32) (σ : ah_H) (r : ah_H), f_X1_run_116  K76 x0 x2 σ = some r → AW G m_X1_run 2 0 0 116 [(0, .ref x0), (2, .int x2)] [] σ (ah_N G (ah_rv r)) := by
  intro x0 x2 σ r h
  unfold f_X1_run_116 at h
  refine aw_aload_n (pc := 116) 0 dX1_run_116 rfl ?_
  refine aw_iload_n (pc := 117) 1 dX1_run_117 rfl ?_
  obtain ⟨r1, e, h⟩ := op_bd h
  refine ow_cVv (pc := 118) [.int x2] ((c_X1_findPeak _ _ _ _ e).mono (by decide)) (op_ck_sh e) rfl dX1_run_118 cw_X1_69 rfl (Nat.le_of_ble_eq_true rfl) ?_
  refine aw_iinc (pc := 121) 1 [(2, .int (x2 + (1 : Int32))), (0, .ref x0)] (x2 + (1 : Int32)) dX1_run_121 rfl rfl (by decide) rfl ?_
  refine aw_goto (pc := 124) 76 dX1_run_124 (by decide) ?_
  refine aw_sub [1, 0] rfl ?_
  exact hK76 _ _ _ _ h
set_option maxRecDepth 100000 in
set_option maxHeartbeats 4000000 in
theorem c_X1_run_76_b {G : ah_G}  (K76 : Nat → Int32 → ah_H → Option (ah_H)) (hK76 : ∀ (x0 : Nat) (x2 : Int32) (σ : ah_H) (r : ah_H), K76 x0 x2 σ = some r → AW G m_X1_run 2 0 0 76 [(0, .ref x0), (2, .int x2)] [] σ (ah_N G (ah_rv r))) : ∀ (x0 : Nat) (x2 : Int32) (σ : ah_H) (r : ah_H), f_X1_run_76_b  K76 x0 x2 σ = some r → AW G m_X1_run 2 0 0 76 [(0, .ref x0), (2, .int x2)] [] σ (ah_N G (ah_rv r)) := by
  intro x0 x2 σ r h
  unfold f_X1_run_76_b at h
  refine aw_iload_n (pc := 76) 1 dX1_run_76 rfl ?_
  refine aw_aload_n (pc := 77) 0 dX1_run_77 rfl ?_
  obtain ⟨v1, e, h⟩ := op_bd h
  refine ow_gR (pc := 78) e dX1_run_78 fd_X1_36 rfl ?_
  obtain ⟨v2, e, h⟩ := op_bd h
  refine ow_gI (pc := 81) e dX1_run_81 fd_X1_50 rfl ?_
  refine aw_icmp_ge (pc := 84) 127 dX1_run_84 (by decide) (fun z => ?_) (fun z => ?_)
  · replace h := (if_pos z).symm.trans h
    exact ow_vret (pc := 127) h dX1_run_127 rfl
  · replace h := (if_neg z).symm.trans h
    refine aw_aload_n (pc := 87) 0 dX1_run_87 rfl ?_
    obtain ⟨v3, e, h⟩ := op_bd h
    refine ow_gR (pc := 88) e dX1_run_88 fd_X1_30 rfl ?_
    refine aw_iload_n (pc := 91) 1 dX1_run_91 rfl ?_
    obtain ⟨v4, e, h⟩ := op_bd h
    refine ow_aI (pc := 92) e dX1_run_92 ?_
    refine aw_if_le (pc := 93) 116 dX1_run_93 (by decide) (fun z => ?_) (fun z => ?_)
    · replace h := (if_pos z).symm.trans h
      exact c_X1_run_116 K76 hK76 _ _ _ _ h
    · replace h := (if_neg z).symm.trans h
      refine aw_aload_n (pc := 96) 0 dX1_run_96 rfl ?_
      obtain ⟨v5, e, h⟩ := op_bd h
      refine ow_gR (pc := 97) e dX1_run_97 fd_X1_11 rfl ?_
      refine aw_iload_n (pc := 100) 1 dX1_run_100 rfl ?_
      obtain ⟨v6, e, h⟩ := op_bd h
      refine ow_aR (pc := 101) e dX1_run_101 (by decide) ?_
      refine aw_lconst (pc := 102) (v := (0 : Int64)) dX1_run_102 (by decide) ?_
      obtain ⟨r7, e, h⟩ := op_bd h
      refine ow_cSv (pc := 103) [.ref v6, .long (0 : Int64)] ((c_J7_fill_d0a16 _ _ _ _ e).mono (by decide)) rfl dX1_run_103 cw_X1_44 rfl (Nat.le_of_ble_eq_true rfl) ?_
      refine aw_aload_n (pc := 106) 0 dX1_run_106 rfl ?_
      obtain ⟨v8, e, h⟩ := op_bd h
      refine ow_gR (pc := 107) e dX1_run_107 fd_X1_16 rfl ?_
      refine aw_iload_n (pc := 110) 1 dX1_run_110 rfl ?_
      obtain ⟨v9, e, h⟩ := op_bd h
      refine ow_aR (pc := 111) e dX1_run_111 (by decide) ?_
      refine aw_lconst (pc := 112) (v := (0 : Int64)) dX1_run_112 (by decide) ?_
      obtain ⟨r10, e, h⟩ := op_bd h
      refine ow_cSv (pc := 113) [.ref v9, .long (0 : Int64)] ((c_J7_fill_d0a16 _ _ _ _ e).mono (by decide)) rfl dX1_run_113 cw_X1_44 rfl (Nat.le_of_ble_eq_true rfl) ?_
      exact c_X1_run_116 K76 hK76 _ _ _ _ h
theorem c_X1_run_76 {G : ah_G}   : ∀ (n : Nat) (x0 : Nat) (x2 : Int32) (σ : ah_H) (r : ah_H), f_X1_run_76   n x0 x2 σ = some r → AW G m_X1_run 2 0 0 76 [(0, .ref x0), (2, .int x2)] [] σ (ah_N G (ah_rv r)) := by
  intro n
  induction n with
  | zero => intro x0 x2 σ r h; cases h
  | succ n ih => intro x0 x2 σ r h; exact c_X1_run_76_b   _ ih x0 x2 σ r h
set_option maxRecDepth 100000 in
set_option maxHeartbeats 4000000 in
theorem c_X1_run_74 {G : ah_G}   : ∀ (x0 : Nat) (σ : ah_H) (r : ah_H), f_X1_run_74   x0 σ = some r → AW G m_X1_run 2 0 0 74 [(0, .ref x0)] [] σ (ah_N G (ah_rv r)) := by
  intro x0 σ r h
  unfold f_X1_run_74 at h
  refine aw_iconst (pc := 74) (v := (0 : Int32)) dX1_run_74 (by decide) ?_
  refine aw_istore_n (pc := 75) [(2, .int (0 : Int32)), (0, .ref x0)] dX1_run_75 rfl (by decide) rfl ?_
  refine aw_sub [1, 0] rfl ?_
  exact c_X1_run_76  _ _ _ _ _ h
set_option maxRecDepth 100000 in
set_option maxHeartbeats 4000000 in
theorem c_X1_run_35_b {G : ah_G}  (K35 : Nat → Int32 → ah_H → Option (ah_H)) (hK35 : ∀ (x0 : Nat) (x2 : Int32) (σ : ah_H) (r : ah_H), K35 x0 x2 σ = some r → AW G m_X1_run 2 0 0 35 [(0, .ref x0), (2, .int x2)] [] σ (ah_N G (ah_rv r))) : ∀ (x0 : Nat) (x2 : Int32) (σ : ah_H) (r : ah_H), f_X1_run_35_b  K35 x0 x2 σ = some r → AW G m_X1_run 2 0 0 35 [(0, .ref x0), (2, .int x2)] [] σ (ah_N G (ah_rv r)) := by
  intro x0 x2 σ r h
  unfold f_X1_run_35_b at h
  refine aw_iload_n (pc := 35) 1 dX1_run_35 rfl ?_
  refine aw_aload_n (pc := 36) 0 dX1_run_36 rfl ?_
  obtain ⟨v1, e, h⟩ := op_bd h
  refine ow_gI (pc := 37) e dX1_run_37 fd_X1_63 rfl ?_
  refine aw_icmp_ge (pc := 40) 74 dX1_run_40 (by decide) (fun z => ?_) (fun z => ?_)
  · replace h := (if_pos z).symm.trans h
    refine aw_sub [0] rfl ?_
    exact c_X1_run_74  _ _ _ h
  · replace h := (if_neg z).symm.trans h
    refine aw_aload_n (pc := 43) 0 dX1_run_43 rfl ?_
    obtain ⟨v2, e, h⟩ := op_bd h
    refine ow_gR (pc := 44) e dX1_run_44 fd_X1_33 rfl ?_
    refine aw_aload_n (pc := 47) 0 dX1_run_47 rfl ?_
    obtain ⟨v3, e, h⟩ := op_bd h
    refine ow_gR (pc := 48) e dX1_run_48 fd_X1_27 rfl ?_
    refine aw_iload_n (pc := 51) 1 dX1_run_51 rfl ?_
    obtain ⟨v4, e, h⟩ := op_bd h
    refine ow_aI (pc := 52) e dX1_run_52 ?_
    obtain ⟨v5, e, h⟩ := op_bd h
    refine ow_aI (pc := 53) e dX1_run_53 ?_
    refine aw_iconst (pc := 54) (v := (-1 : Int32)) dX1_run_54 (by decide) ?_
    refine aw_icmp_eq (pc := 55) 68 dX1_run_55 (by decide) (fun z => ?_) (fun z => ?_)
    · replace h := (if_pos z).symm.trans h
      exact c_X1_run_68 K35 hK35 _ _ _ _ h
    · replace h := (if_neg z).symm.trans h
      refine aw_aload_n (pc := 58) 0 dX1_run_58 rfl ?_
      refine aw_aload_n (pc := 59) 0 dX1_run_59 rfl ?_
      obtain ⟨v6, e, h⟩ := op_bd h
      refine ow_gR (pc := 60) e dX1_run_60 fd_X1_27 rfl ?_
      refine aw_iload_n (pc := 63) 1 dX1_run_63 rfl ?_
      obtain ⟨v7, e, h⟩ := op_bd h
      refine ow_aI (pc := 64) e dX1_run_64 ?_
      obtain ⟨r8, e, h⟩ := op_bd h
      refine ow_cVv (pc := 65) [.int v7] ((c_X1_passOn _ _ _ _ e).mono (by decide)) (op_ck_sh e) rfl dX1_run_65 cw_X1_66 rfl (Nat.le_of_ble_eq_true rfl) ?_
      exact c_X1_run_68 K35 hK35 _ _ _ _ h
theorem c_X1_run_35 {G : ah_G}   : ∀ (n : Nat) (x0 : Nat) (x2 : Int32) (σ : ah_H) (r : ah_H), f_X1_run_35   n x0 x2 σ = some r → AW G m_X1_run 2 0 0 35 [(0, .ref x0), (2, .int x2)] [] σ (ah_N G (ah_rv r)) := by
  intro n
  induction n with
  | zero => intro x0 x2 σ r h; cases h
  | succ n ih => intro x0 x2 σ r h; exact c_X1_run_35_b   _ ih x0 x2 σ r h
set_option maxRecDepth 100000 in
set_option maxHeartbeats 4000000 in
theorem c_X1_run_29 {G : ah_G}   : ∀ (x0 : Nat) (σ : ah_H) (r : ah_H), f_X1_run_29   x0 σ = some r → AW G m_X1_run 2 0 0 29 [(0, .ref x0)] [] σ (ah_N G (ah_rv r)) := by
  intro x0 σ r h
  unfold f_X1_run_29 at h
  refine aw_aload_n (pc := 29) 0 dX1_run_29 rfl ?_
  obtain ⟨r1, e, h⟩ := op_bd h
  refine ow_cVv (pc := 30) [] ((c_X1_sortDownwards _ _ _ e).mono (by decide)) (op_ck_sh e) rfl dX1_run_30 cw_X1_60 rfl (Nat.le_of_ble_eq_true rfl) ?_
  refine aw_iconst (pc := 33) (v := (0 : Int32)) dX1_run_33 (by decide) ?_
  refine aw_istore_n (pc := 34) [(2, .int (0 : Int32)), (0, .ref x0)] dX1_run_34 rfl (by decide) rfl ?_
  refine aw_sub [1, 0] rfl ?_
  exact c_X1_run_35  _ _ _ _ _ h
set_option maxRecDepth 100000 in
set_option maxHeartbeats 4000000 in
theorem c_X1_run_7_b {G : ah_G}  (K7 : Nat → Int32 → ah_H → Option (ah_H)) (hK7 : ∀ (x0 : Nat) (x2 : Int32) (σ : ah_H) (r : ah_H), K7 x0 x2 σ = some r → AW G m_X1_run 2 0 0 7 [(0, .ref x0), (2, .int x2)] [] σ (ah_N G (ah_rv r))) : ∀ (x0 : Nat) (x2 : Int32) (σ : ah_H) (r : ah_H), f_X1_run_7_b  K7 x0 x2 σ = some r → AW G m_X1_run 2 0 0 7 [(0, .ref x0), (2, .int x2)] [] σ (ah_N G (ah_rv r)) := by
  intro x0 x2 σ r h
  unfold f_X1_run_7_b at h
  refine aw_iload_n (pc := 7) 1 dX1_run_7 rfl ?_
  refine aw_aload_n (pc := 8) 0 dX1_run_8 rfl ?_
  obtain ⟨v1, e, h⟩ := op_bd h
  refine ow_gR (pc := 9) e dX1_run_9 fd_X1_36 rfl ?_
  obtain ⟨v2, e, h⟩ := op_bd h
  refine ow_gI (pc := 12) e dX1_run_12 fd_X1_50 rfl ?_
  refine aw_icmp_ge (pc := 15) 29 dX1_run_15 (by decide) (fun z => ?_) (fun z => ?_)
  · replace h := (if_pos z).symm.trans h
    refine aw_sub [0] rfl ?_
    exact c_X1_run_29  _ _ _ h
  · replace h := (if_neg z).symm.trans h
    refine aw_aload_n (pc := 18) 0 dX1_run_18 rfl ?_
    refine aw_iload_n (pc := 19) 1 dX1_run_19 rfl ?_
    obtain ⟨r3, e, h⟩ := op_bd h
    refine ow_cVv (pc := 20) [.int x2] ((c_X1_rainOn _ _ _ _ e).mono (by decide)) (op_ck_sh e) rfl dX1_run_20 cw_X1_56 rfl (Nat.le_of_ble_eq_true rfl) ?_
    refine aw_iinc (pc := 23) 1 [(2, .int (x2 + (1 : Int32))), (0, .ref x0)] (x2 + (1 : Int32)) dX1_run_23 rfl rfl (by decide) rfl ?_
    refine aw_goto (pc := 26) 7 dX1_run_26 (by decide) ?_
    refine aw_sub [1, 0] rfl ?_
    exact hK7 _ _ _ _ h
theorem c_X1_run_7 {G : ah_G}   : ∀ (n : Nat) (x0 : Nat) (x2 : Int32) (σ : ah_H) (r : ah_H), f_X1_run_7   n x0 x2 σ = some r → AW G m_X1_run 2 0 0 7 [(0, .ref x0), (2, .int x2)] [] σ (ah_N G (ah_rv r)) := by
  intro n
  induction n with
  | zero => intro x0 x2 σ r h; cases h
  | succ n ih => intro x0 x2 σ r h; exact c_X1_run_7_b   _ ih x0 x2 σ r h
set_option maxRecDepth 100000 in
set_option maxHeartbeats 4000000 in
theorem c_X1_run_0 {G : ah_G}   : ∀ (x0 : Nat) (x1 : Nat) (σ : ah_H) (r : ah_H), f_X1_run_0   x0 x1 σ = some r → AW G m_X1_run 2 0 0 0 [(0, .ref x0), (1, .ref x1)] [] σ (ah_N G (ah_rv r)) := by
  intro x0 x1 σ r h
  unfold f_X1_run_0 at h
  refine aw_aload_n (pc := 0) 0 dX1_run_0 rfl ?_
  refine aw_aload_n (pc := 1) 1 dX1_run_1 rfl ?_
  obtain ⟨σ1, e, h⟩ := op_bd h
  refine ow_pR (pc := 2) e dX1_run_2 fd_X1_36 rfl ?_
  refine aw_iconst (pc := 5) (v := (0 : Int32)) dX1_run_5 (by decide) ?_
  refine aw_istore_n (pc := 6) [(2, .int (0 : Int32)), (0, .ref x0), (1, .ref x1)] dX1_run_6 rfl (by decide) rfl ?_
  refine aw_sub [1, 0] rfl ?_
  exact c_X1_run_7  _ _ _ _ _ h
theorem c_X1_run {G : ah_G}   (x0 : Nat) (x1 : Nat) (σ : ah_H) (r : ah_H) (h : f_X1_run  x0 x1 σ = some r) : AM G m_X1_run 2 0 0 [.ref x0, .ref x1] σ (ah_rv r) := aw_enter (by decide) (Nat.le_of_ble_eq_true rfl) (c_X1_run_0 _ _ _ _ (op_ck_k h))
def f_X0_solve_101  (K54 : Nat → Int32 → ah_H → Option (Int64 × ah_H)) (x0 : Nat) (x2 : Int32) (σ : ah_H) : Option (Int64 × ah_H) :=
  K54 x0 (x2 + (-1 : Int32)) σ
def f_X0_solve_107   (x0 : Nat) (σ : ah_H) : Option (Int64 × ah_H) :=
  (op_gR 0 17 σ x0).bind fun v1 => (op_gI 9 2 σ v1).bind fun v2 => (f_X0_gather x0 v2 σ).bind fun r3 => (f_X0_total x0 r3).bind fun r4 => some (r4.1, r4.2)
def f_X0_solve_54_b  (K54 : Nat → Int32 → ah_H → Option (Int64 × ah_H)) (x0 : Nat) (x2 : Int32) (σ : ah_H) : Option (Int64 × ah_H) :=
  if x2 ≤ 0 then (f_X0_solve_107 x0 σ) else ((op_gR 0 3 σ x0).bind fun v1 => (op_aI σ v1 x2).bind fun v2 => (f_X0_gather x0 v2 σ).bind fun r3 => (op_gR 0 3 r3 x0).bind fun v4 => (op_aI r3 v4 x2).bind fun v5 => (f_X0_isNew x0 v5 r3).bind fun r6 => if r6.1 = 0 then (f_X0_solve_101 K54 x0 x2 r6.2) else ((op_gR 0 3 r6.2 x0).bind fun v7 => (op_aI r6.2 v7 x2).bind fun v8 => (f_X0_priceLifts x0 v8 r6.2).bind fun r9 => (op_gR 0 3 r9 x0).bind fun v10 => (op_aI r9 v10 x2).bind fun v11 => (f_X0_fill x0 v11 r9).bind fun r12 => f_X0_solve_101 K54 x0 x2 r12))
def f_X0_solve_54   : Nat → Nat → Int32 → ah_H → Option (Int64 × ah_H)
  | 0, _, _, _ => none
  | n + 1, x0, x2, σ => f_X0_solve_54_b (f_X0_solve_54 n) x0 x2 σ
def f_X0_solve_31   (x0 : Nat) (x1 : Int32) (σ : ah_H) : Option (Int64 × ah_H) :=
  (f_X0_orient x0 x1 σ).bind fun r1 => (op_gR 0 2 r1 x0).bind fun v2 => (op_gR 0 17 r1 x0).bind fun v3 => (f_X1_run v2 v3 r1).bind fun r4 => (op_gI 0 4 r4 x0).bind fun v5 => f_X0_solve_54 5000 x0 (v5 - (1 : Int32)) r4
def f_X0_solve_0   (x0 : Nat) (x1 : Int32) (σ : ah_H) : Option (Int64 × ah_H) :=
  (op_pL 0 0 σ x0 (0 : Int64)).bind fun σ1 => (op_gR 0 17 σ1 x0).bind fun v2 => (op_gI 9 2 σ1 v2).bind fun v3 => if v3 = (-1 : Int32) then (some ((-2 : Int64), σ1)) else ((op_gI 0 16 σ1 x0).bind fun v4 => if v4 = 0 then ((f_X0_price x0 σ1).bind fun r5 => f_X0_solve_31 x0 x1 r5) else (f_X0_solve_31 x0 x1 σ1))
def f_X0_solve  (x0 : Nat) (x1 : Int32) (σ : ah_H) : Option (Int64 × ah_H) := op_ck 0 σ x0 (f_X0_solve_0 x0 x1 σ)
set_option maxRecDepth 100000 in
set_option maxHeartbeats 4000000 in
theorem c_X0_solve_101 {G : ah_G}  (K54 : Nat → Int32 → ah_H → Option (Int64 × ah_H)) (hK54 : ∀ (x0 : Nat) (x2 : Int32) (σ : ah_H) (r : Int64 × ah_H), K54 x0 x2 σ = some r → AW G m_X0_solve 4 0 0 54 [(0, .ref x0), (2, .int x2)] [] σ (ah_N G (ah_rl r))) : ∀ (x0 : Nat) (x2 : Int32) (σ : ah_H) (r : Int64 × ah_H), f_X0_solve_101  K54 x0 x2 σ = some r → AW G m_X0_solve 4 0 0 101 [(0, .ref x0), (2, .int x2)] [] σ (ah_N G (ah_rl r)) := by
  intro x0 x2 σ r h
  unfold f_X0_solve_101 at h
  refine aw_iinc (pc := 101) 1 [(2, .int (x2 + (-1 : Int32))), (0, .ref x0)] (x2 + (-1 : Int32)) dX0_solve_101 rfl rfl (by decide) rfl ?_
  refine aw_goto (pc := 104) 54 dX0_solve_104 (by decide) ?_
  refine aw_sub [1, 0] rfl ?_
  exact hK54 _ _ _ _ h
set_option maxRecDepth 100000 in
set_option maxHeartbeats 4000000 in
theorem c_X0_solve_107 {G : ah_G}   : ∀ (x0 : Nat) (σ : ah_H) (r : Int64 × ah_H), f_X0_solve_107   x0 σ = some r → AW G m_X0_solve 4 0 0 107 [(0, .ref x0)] [] σ (ah_N G (ah_rl r)) := by
  intro x0 σ r h
  unfold f_X0_solve_107 at h
  refine aw_aload_n (pc := 107) 0 dX0_solve_107 rfl ?_
  refine aw_aload_n (pc := 108) 0 dX0_solve_108 rfl ?_
  obtain ⟨v1, e, h⟩ := op_bd h
  refine ow_gR (pc := 109) e dX0_solve_109 fd_X0_64 rfl ?_
  obtain ⟨v2, e, h⟩ := op_bd h
  refine ow_gI (pc := 112) e dX0_solve_112 fd_X0_82 rfl ?_
  obtain ⟨r3, e, h⟩ := op_bd h
  refine ow_cVv (pc := 115) [.int v2] ((c_X0_gather _ _ _ _ e).mono (by decide)) (op_ck_sh e) rfl dX0_solve_115 cw_X0_103 rfl (Nat.le_of_ble_eq_true rfl) ?_
  refine aw_aload_n (pc := 118) 0 dX0_solve_118 rfl ?_
  obtain ⟨r4, e, h⟩ := op_bd h
  refine ow_cVl (pc := 119) [] ((c_X0_total _ _ _ e).mono (by decide)) (op_ck_sh e) rfl dX0_solve_119 cw_X0_115 rfl (Nat.le_of_ble_eq_true rfl) ?_
  exact ow_lret (pc := 122) h dX0_solve_122 rfl
set_option maxRecDepth 100000 in
set_option maxHeartbeats 4000000 in
theorem c_X0_solve_54_b {G : ah_G}  (K54 : Nat → Int32 → ah_H → Option (Int64 × ah_H)) (hK54 : ∀ (x0 : Nat) (x2 : Int32) (σ : ah_H) (r : Int64 × ah_H), K54 x0 x2 σ = some r → AW G m_X0_solve 4 0 0 54 [(0, .ref x0), (2, .int x2)] [] σ (ah_N G (ah_rl r))) : ∀ (x0 : Nat) (x2 : Int32) (σ : ah_H) (r : Int64 × ah_H), f_X0_solve_54_b  K54 x0 x2 σ = some r → AW G m_X0_solve 4 0 0 54 [(0, .ref x0), (2, .int x2)] [] σ (ah_N G (ah_rl r)) := by
  intro x0 x2 σ r h
  unfold f_X0_solve_54_b at h
  refine aw_iload_n (pc := 54) 1 dX0_solve_54 rfl ?_
  refine aw_if_le (pc := 55) 107 dX0_solve_55 (by decide) (fun z => ?_) (fun z => ?_)
  · replace h := (if_pos z).symm.trans h
    refine aw_sub [0] rfl ?_
    exact c_X0_solve_107  _ _ _ h
  · replace h := (if_neg z).symm.trans h
    refine aw_aload_n (pc := 58) 0 dX0_solve_58 rfl ?_
    refine aw_aload_n (pc := 59) 0 dX0_solve_59 rfl ?_
    obtain ⟨v1, e, h⟩ := op_bd h
    refine ow_gR (pc := 60) e dX0_solve_60 fd_X0_15 rfl ?_
    refine aw_iload_n (pc := 63) 1 dX0_solve_63 rfl ?_
    obtain ⟨v2, e, h⟩ := op_bd h
    refine ow_aI (pc := 64) e dX0_solve_64 ?_
    obtain ⟨r3, e, h⟩ := op_bd h
    refine ow_cVv (pc := 65) [.int v2] ((c_X0_gather _ _ _ _ e).mono (by decide)) (op_ck_sh e) rfl dX0_solve_65 cw_X0_103 rfl (Nat.le_of_ble_eq_true rfl) ?_
    refine aw_aload_n (pc := 68) 0 dX0_solve_68 rfl ?_
    refine aw_aload_n (pc := 69) 0 dX0_solve_69 rfl ?_
    obtain ⟨v4, e, h⟩ := op_bd h
    refine ow_gR (pc := 70) e dX0_solve_70 fd_X0_15 rfl ?_
    refine aw_iload_n (pc := 73) 1 dX0_solve_73 rfl ?_
    obtain ⟨v5, e, h⟩ := op_bd h
    refine ow_aI (pc := 74) e dX0_solve_74 ?_
    obtain ⟨r6, e, h⟩ := op_bd h
    refine ow_cVi (pc := 75) [.int v5] ((c_X0_isNew _ _ _ _ e).mono (by decide)) (op_ck_sh e) rfl dX0_solve_75 cw_X0_106 rfl (Nat.le_of_ble_eq_true rfl) ?_
    refine aw_if_eq (pc := 78) 101 dX0_solve_78 (by decide) (fun z => ?_) (fun z => ?_)
    · replace h := (if_pos z).symm.trans h
      exact c_X0_solve_101 K54 hK54 _ _ _ _ h
    · replace h := (if_neg z).symm.trans h
      refine aw_aload_n (pc := 81) 0 dX0_solve_81 rfl ?_
      refine aw_aload_n (pc := 82) 0 dX0_solve_82 rfl ?_
      obtain ⟨v7, e, h⟩ := op_bd h
      refine ow_gR (pc := 83) e dX0_solve_83 fd_X0_15 rfl ?_
      refine aw_iload_n (pc := 86) 1 dX0_solve_86 rfl ?_
      obtain ⟨v8, e, h⟩ := op_bd h
      refine ow_aI (pc := 87) e dX0_solve_87 ?_
      obtain ⟨r9, e, h⟩ := op_bd h
      refine ow_cVv (pc := 88) [.int v8] ((c_X0_priceLifts _ _ _ _ e).mono (by decide)) (op_ck_sh e) rfl dX0_solve_88 cw_X0_110 rfl (Nat.le_of_ble_eq_true rfl) ?_
      refine aw_aload_n (pc := 91) 0 dX0_solve_91 rfl ?_
      refine aw_aload_n (pc := 92) 0 dX0_solve_92 rfl ?_
      obtain ⟨v10, e, h⟩ := op_bd h
      refine ow_gR (pc := 93) e dX0_solve_93 fd_X0_15 rfl ?_
      refine aw_iload_n (pc := 96) 1 dX0_solve_96 rfl ?_
      obtain ⟨v11, e, h⟩ := op_bd h
      refine ow_aI (pc := 97) e dX0_solve_97 ?_
      obtain ⟨r12, e, h⟩ := op_bd h
      refine ow_cVv (pc := 98) [.int v11] ((c_X0_fill _ _ _ _ e).mono (by decide)) (op_ck_sh e) rfl dX0_solve_98 cw_X0_113 rfl (Nat.le_of_ble_eq_true rfl) ?_
      exact c_X0_solve_101 K54 hK54 _ _ _ _ h
theorem c_X0_solve_54 {G : ah_G}   : ∀ (n : Nat) (x0 : Nat) (x2 : Int32) (σ : ah_H) (r : Int64 × ah_H), f_X0_solve_54   n x0 x2 σ = some r → AW G m_X0_solve 4 0 0 54 [(0, .ref x0), (2, .int x2)] [] σ (ah_N G (ah_rl r)) := by
  intro n
  induction n with
  | zero => intro x0 x2 σ r h; cases h
  | succ n ih => intro x0 x2 σ r h; exact c_X0_solve_54_b   _ ih x0 x2 σ r h
set_option maxRecDepth 100000 in
set_option maxHeartbeats 4000000 in
theorem c_X0_solve_31 {G : ah_G}   : ∀ (x0 : Nat) (x1 : Int32) (σ : ah_H) (r : Int64 × ah_H), f_X0_solve_31   x0 x1 σ = some r → AW G m_X0_solve 4 0 0 31 [(0, .ref x0), (1, .int x1)] [] σ (ah_N G (ah_rl r)) := by
  intro x0 x1 σ r h
  unfold f_X0_solve_31 at h
  refine aw_aload_n (pc := 31) 0 dX0_solve_31 rfl ?_
  refine aw_iload_n (pc := 32) 1 dX0_solve_32 rfl ?_
  obtain ⟨r1, e, h⟩ := op_bd h
  refine ow_cVv (pc := 33) [.int x1] ((c_X0_orient _ _ _ _ e).mono (by decide)) (op_ck_sh e) rfl dX0_solve_33 cw_X0_93 rfl (Nat.le_of_ble_eq_true rfl) ?_
  refine aw_aload_n (pc := 36) 0 dX0_solve_36 rfl ?_
  obtain ⟨v2, e, h⟩ := op_bd h
  refine ow_gR (pc := 37) e dX0_solve_37 fd_X0_56 rfl ?_
  refine aw_aload_n (pc := 40) 0 dX0_solve_40 rfl ?_
  obtain ⟨v3, e, h⟩ := op_bd h
  refine ow_gR (pc := 41) e dX0_solve_41 fd_X0_64 rfl ?_
  obtain ⟨r4, e, h⟩ := op_bd h
  refine ow_cVv (pc := 44) [.ref v3] ((c_X1_run _ _ _ _ e).mono (by decide)) (op_ck_sh e) rfl dX0_solve_44 cw_X0_97 rfl (Nat.le_of_ble_eq_true rfl) ?_
  refine aw_aload_n (pc := 47) 0 dX0_solve_47 rfl ?_
  obtain ⟨v5, e, h⟩ := op_bd h
  refine ow_gI (pc := 48) e dX0_solve_48 fd_X0_100 rfl ?_
  refine aw_iconst (pc := 51) (v := (1 : Int32)) dX0_solve_51 (by decide) ?_
  refine aw_isub (pc := 52) dX0_solve_52 ?_
  refine aw_istore_n (pc := 53) [(2, .int (v5 - (1 : Int32))), (0, .ref x0), (1, .int x1)] dX0_solve_53 rfl (by decide) rfl ?_
  refine aw_sub [1, 0] rfl ?_
  exact c_X0_solve_54  _ _ _ _ _ h
set_option maxRecDepth 100000 in
set_option maxHeartbeats 4000000 in
theorem c_X0_solve_0 {G : ah_G}   : ∀ (x0 : Nat) (x1 : Int32) (σ : ah_H) (r : Int64 × ah_H), f_X0_solve_0   x0 x1 σ = some r → AW G m_X0_solve 4 0 0 0 [(0, .ref x0), (1, .int x1)] [] σ (ah_N G (ah_rl r)) := by
  intro x0 x1 σ r h
  unfold f_X0_solve_0 at h
  refine aw_aload_n (pc := 0) 0 dX0_solve_0 rfl ?_
  refine aw_lconst (pc := 1) (v := (0 : Int64)) dX0_solve_1 (by decide) ?_
  obtain ⟨σ1, e, h⟩ := op_bd h
  refine ow_pL (pc := 2) e dX0_solve_2 fd_X0_78 ?_
  refine aw_aload_n (pc := 5) 0 dX0_solve_5 rfl ?_
  obtain ⟨v2, e, h⟩ := op_bd h
  refine ow_gR (pc := 6) e dX0_solve_6 fd_X0_64 rfl ?_
  obtain ⟨v3, e, h⟩ := op_bd h
  refine ow_gI (pc := 9) e dX0_solve_9 fd_X0_82 rfl ?_
  refine aw_iconst (pc := 12) (v := (-1 : Int32)) dX0_solve_12 (by decide) ?_
  refine aw_icmp_ne (pc := 13) 20 dX0_solve_13 (by decide) (fun z => ?_) (fun z => ?_)
  · replace h := (if_neg z).symm.trans h
    refine aw_aload_n (pc := 20) 0 dX0_solve_20 rfl ?_
    obtain ⟨v4, e, h⟩ := op_bd h
    refine ow_gI (pc := 21) e dX0_solve_21 fd_X0_68 rfl ?_
    refine aw_if_ne (pc := 24) 31 dX0_solve_24 (by decide) (fun z => ?_) (fun z => ?_)
    · replace h := (if_neg z).symm.trans h
      exact c_X0_solve_31  _ _ _ _ h
    · replace h := (if_pos z).symm.trans h
      refine aw_aload_n (pc := 27) 0 dX0_solve_27 rfl ?_
      obtain ⟨r5, e, h⟩ := op_bd h
      refine ow_cVv (pc := 28) [] ((c_X0_price _ _ _ e).mono (by decide)) (op_ck_sh e) rfl dX0_solve_28 cw_X0_90 rfl (Nat.le_of_ble_eq_true rfl) ?_
      exact c_X0_solve_31  _ _ _ _ h
  · replace h := (if_pos z).symm.trans h
    refine aw_ldc2 (pc := 16) dX0_solve_16 kl_X0_88 ?_
    exact ow_lret (pc := 19) h dX0_solve_19 rfl
theorem c_X0_solve {G : ah_G}   (x0 : Nat) (x1 : Int32) (σ : ah_H) (r : Int64 × ah_H) (h : f_X0_solve  x0 x1 σ = some r) : AM G m_X0_solve 4 0 0 [.ref x0, .int x1] σ (ah_rl r) := aw_enter (by decide) (Nat.le_of_ble_eq_true rfl) (c_X0_solve_0 _ _ _ _ (op_ck_k h))
def f_X5_put_0   (x0 : Nat) (x1 : Int32) (x2 : Int32) (x3 : Int32) (x4 : Int32) (x5 : Int32) (σ : ah_H) : Option (ah_H) :=
  (op_gR 5 0 σ x0).bind fun v1 => (op_sI σ v1 x1 x2).bind fun σ2 => (op_gR 5 1 σ2 x0).bind fun v3 => (op_sI σ2 v3 x1 x3).bind fun σ4 => (op_gR 5 2 σ4 x0).bind fun v5 => (op_sI σ4 v5 x1 x4).bind fun σ6 => (op_gR 5 3 σ6 x0).bind fun v7 => (op_sI σ6 v7 x1 x5).bind fun σ8 => some σ8
def f_X5_put  (x0 : Nat) (x1 : Int32) (x2 : Int32) (x3 : Int32) (x4 : Int32) (x5 : Int32) (σ : ah_H) : Option (ah_H) := op_ck 5 σ x0 (f_X5_put_0 x0 x1 x2 x3 x4 x5 σ)
set_option maxRecDepth 100000 in
set_option maxHeartbeats 4000000 in
theorem c_X5_put_0 {G : ah_G}   : ∀ (x0 : Nat) (x1 : Int32) (x2 : Int32) (x3 : Int32) (x4 : Int32) (x5 : Int32) (σ : ah_H) (r : ah_H), f_X5_put_0   x0 x1 x2 x3 x4 x5 σ = some r → AW G m_X5_put 0 0 0 0 [(0, .ref x0), (1, .int x1), (2, .int x2), (3, .int x3), (4, .int x4), (5, .int x5)] [] σ (ah_N G (ah_rv r)) := by
  intro x0 x1 x2 x3 x4 x5 σ r h
  unfold f_X5_put_0 at h
  refine aw_aload_n (pc := 0) 0 dX5_put_0 rfl ?_
  obtain ⟨v1, e, h⟩ := op_bd h
  refine ow_gR (pc := 1) e dX5_put_1 fd_X5_9 rfl ?_
  refine aw_iload_n (pc := 4) 1 dX5_put_4 rfl ?_
  refine aw_iload_n (pc := 5) 2 dX5_put_5 rfl ?_
  obtain ⟨σ2, e, h⟩ := op_bd h
  refine ow_sI (pc := 6) e dX5_put_6 ?_
  refine aw_aload_n (pc := 7) 0 dX5_put_7 rfl ?_
  obtain ⟨v3, e, h⟩ := op_bd h
  refine ow_gR (pc := 8) e dX5_put_8 fd_X5_15 rfl ?_
  refine aw_iload_n (pc := 11) 1 dX5_put_11 rfl ?_
  refine aw_iload_n (pc := 12) 3 dX5_put_12 rfl ?_
  obtain ⟨σ4, e, h⟩ := op_bd h
  refine ow_sI (pc := 13) e dX5_put_13 ?_
  refine aw_aload_n (pc := 14) 0 dX5_put_14 rfl ?_
  obtain ⟨v5, e, h⟩ := op_bd h
  refine ow_gR (pc := 15) e dX5_put_15 fd_X5_18 rfl ?_
  refine aw_iload_n (pc := 18) 1 dX5_put_18 rfl ?_
  refine aw_iload (pc := 19) 4 dX5_put_19 rfl ?_
  obtain ⟨σ6, e, h⟩ := op_bd h
  refine ow_sI (pc := 21) e dX5_put_21 ?_
  refine aw_aload_n (pc := 22) 0 dX5_put_22 rfl ?_
  obtain ⟨v7, e, h⟩ := op_bd h
  refine ow_gR (pc := 23) e dX5_put_23 fd_X5_21 rfl ?_
  refine aw_iload_n (pc := 26) 1 dX5_put_26 rfl ?_
  refine aw_iload (pc := 27) 5 dX5_put_27 rfl ?_
  obtain ⟨σ8, e, h⟩ := op_bd h
  refine ow_sI (pc := 29) e dX5_put_29 ?_
  exact ow_vret (pc := 30) h dX5_put_30 rfl
theorem c_X5_put {G : ah_G}   (x0 : Nat) (x1 : Int32) (x2 : Int32) (x3 : Int32) (x4 : Int32) (x5 : Int32) (σ : ah_H) (r : ah_H) (h : f_X5_put  x0 x1 x2 x3 x4 x5 σ = some r) : AM G m_X5_put 0 0 0 [.ref x0, .int x1, .int x2, .int x3, .int x4, .int x5] σ (ah_rv r) := aw_enter (by decide) (Nat.le_of_ble_eq_true rfl) (c_X5_put_0 _ _ _ _ _ _ _ _ (op_ck_k h))
def f_X0_layInto_28_b  (K28 : Nat → Nat → Int64 → Int32 → ah_H → Option (ah_H)) (x0 : Nat) (x1 : Nat) (x3 : Int64) (x5 : Int32) (σ : ah_H) : Option (ah_H) :=
  (op_gI 0 4 σ x0).bind fun v1 => if v1 ≤ x5 then (some σ) else ((op_gR 0 3 σ x0).bind fun v2 => (op_aI σ v2 x5).bind fun v3 => (f_X0_shiftOf x0 v3 σ).bind fun r4 => (op_gR 0 1 r4.2 x0).bind fun v5 => (op_aI r4.2 v5 v3).bind fun v6 => (f_X5_put x1 v3 v6 (((Int64.toInt32 (x3 >>> (Int32.toInt64 r4.1 &&& 63))) &&& (1023 : Int32)) >>> ((8 : Int32) &&& 31)) ((((Int64.toInt32 (x3 >>> (Int32.toInt64 r4.1 &&& 63))) &&& (1023 : Int32)) >>> ((4 : Int32) &&& 31)) &&& (15 : Int32)) (((Int64.toInt32 (x3 >>> (Int32.toInt64 r4.1 &&& 63))) &&& (1023 : Int32)) &&& (15 : Int32)) r4.2).bind fun r7 => K28 x0 x1 x3 (x5 + (1 : Int32)) r7)
def f_X0_layInto_28   : Nat → Nat → Nat → Int64 → Int32 → ah_H → Option (ah_H)
  | 0, _, _, _, _, _ => none
  | n + 1, x0, x1, x3, x5, σ => f_X0_layInto_28_b (f_X0_layInto_28 n) x0 x1 x3 x5 σ
def f_X0_layInto_0   (x0 : Nat) (x1 : Nat) (x2 : Int32) (x3 : Int64) (σ : ah_H) : Option (ah_H) :=
  (op_gR 0 17 σ x0).bind fun v1 => (op_gI 9 2 σ v1).bind fun v2 => if v2 = (-1 : Int32) then (some σ) else ((f_X0_orient x0 x2 σ).bind fun r3 => (op_gR 5 0 r3 x1).bind fun v4 => (f_J7_fill_53178 v4 (-1 : Int32) r3).bind fun r5 => f_X0_layInto_28 5000 x0 x1 x3 (1 : Int32) r5)
def f_X0_layInto  (x0 : Nat) (x1 : Nat) (x2 : Int32) (x3 : Int64) (σ : ah_H) : Option (ah_H) := op_ck 0 σ x0 (f_X0_layInto_0 x0 x1 x2 x3 σ)
set_option maxRecDepth 100000 in
set_option maxHeartbeats 4000000 in
theorem c_X0_layInto_28_b {G : ah_G}  (K28 : Nat → Nat → Int64 → Int32 → ah_H → Option (ah_H)) (hK28 : ∀ (x0 : Nat) (x1 : Nat) (x3 : Int64) (x5 : Int32) (σ : ah_H) (r : ah_H), K28 x0 x1 x3 x5 σ = some r → AW G m_X0_layInto 2 0 0 28 [(0, .ref x0), (1, .ref x1), (3, .long x3), (5, .int x5)] [] σ (ah_N G (ah_rv r))) : ∀ (x0 : Nat) (x1 : Nat) (x3 : Int64) (x5 : Int32) (σ : ah_H) (r : ah_H), f_X0_layInto_28_b  K28 x0 x1 x3 x5 σ = some r → AW G m_X0_layInto 2 0 0 28 [(0, .ref x0), (1, .ref x1), (3, .long x3), (5, .int x5)] [] σ (ah_N G (ah_rv r)) := by
  intro x0 x1 x3 x5 σ r h
  unfold f_X0_layInto_28_b at h
  refine aw_iload (pc := 28) 3 dX0_layInto_28 rfl ?_
  refine aw_aload_n (pc := 30) 0 dX0_layInto_30 rfl ?_
  obtain ⟨v1, e, h⟩ := op_bd h
  refine ow_gI (pc := 31) e dX0_layInto_31 fd_X0_100 rfl ?_
  refine aw_icmp_ge (pc := 34) 97 dX0_layInto_34 (by decide) (fun z => ?_) (fun z => ?_)
  · replace h := (if_pos z).symm.trans h
    exact ow_vret (pc := 97) h dX0_layInto_97 rfl
  · replace h := (if_neg z).symm.trans h
    refine aw_aload_n (pc := 37) 0 dX0_layInto_37 rfl ?_
    obtain ⟨v2, e, h⟩ := op_bd h
    refine ow_gR (pc := 38) e dX0_layInto_38 fd_X0_15 rfl ?_
    refine aw_iload (pc := 41) 3 dX0_layInto_41 rfl ?_
    obtain ⟨v3, e, h⟩ := op_bd h
    refine ow_aI (pc := 43) e dX0_layInto_43 ?_
    refine aw_istore (pc := 44) [(6, .int v3), (0, .ref x0), (1, .ref x1), (3, .long x3), (5, .int x5)] dX0_layInto_44 (by decide) rfl ?_
    refine aw_lload_n (pc := 46) 3 dX0_layInto_46 rfl ?_
    refine aw_aload_n (pc := 47) 1 dX0_layInto_47 rfl ?_
    refine aw_iload (pc := 48) 0 dX0_layInto_48 rfl ?_
    obtain ⟨r4, e, h⟩ := op_bd h
    refine ow_cVi (pc := 50) [.int v3] ((c_X0_shiftOf _ _ _ _ e).mono (by decide)) (op_ck_sh e) rfl dX0_layInto_50 cw_X0_227 rfl (Nat.le_of_ble_eq_true rfl) ?_
    refine aw_lshr (pc := 53) dX0_layInto_53 ?_
    refine aw_l2i (pc := 54) dX0_layInto_54 ?_
    refine aw_sipush (pc := 55) (v := (1023 : Int32)) dX0_layInto_55 (by decide) ?_
    refine aw_iand (pc := 58) dX0_layInto_58 ?_
    refine aw_istore (pc := 59) [(7, .int ((Int64.toInt32 (x3 >>> (Int32.toInt64 r4.1 &&& 63))) &&& (1023 : Int32))), (6, .int v3), (0, .ref x0), (1, .ref x1), (3, .long x3), (5, .int x5)] dX0_layInto_59 (by decide) rfl ?_
    refine aw_aload_n (pc := 61) 3 dX0_layInto_61 rfl ?_
    refine aw_iload (pc := 62) 1 dX0_layInto_62 rfl ?_
    refine aw_aload_n (pc := 64) 2 dX0_layInto_64 rfl ?_
    obtain ⟨v5, e, h⟩ := op_bd h
    refine ow_gR (pc := 65) e dX0_layInto_65 fd_X0_11 rfl ?_
    refine aw_iload (pc := 68) 1 dX0_layInto_68 rfl ?_
    obtain ⟨v6, e, h⟩ := op_bd h
    refine ow_aI (pc := 70) e dX0_layInto_70 ?_
    refine aw_iload (pc := 71) 0 dX0_layInto_71 rfl ?_
    refine aw_bipush (pc := 73) (v := (8 : Int32)) dX0_layInto_73 (by decide) ?_
    refine aw_ishr (pc := 75) dX0_layInto_75 ?_
    refine aw_iload (pc := 76) 0 dX0_layInto_76 rfl ?_
    refine aw_iconst (pc := 78) (v := (4 : Int32)) dX0_layInto_78 (by decide) ?_
    refine aw_ishr (pc := 79) dX0_layInto_79 ?_
    refine aw_bipush (pc := 80) (v := (15 : Int32)) dX0_layInto_80 (by decide) ?_
    refine aw_iand (pc := 82) dX0_layInto_82 ?_
    refine aw_iload (pc := 83) 0 dX0_layInto_83 rfl ?_
    refine aw_bipush (pc := 85) (v := (15 : Int32)) dX0_layInto_85 (by decide) ?_
    refine aw_iand (pc := 87) dX0_layInto_87 ?_
    obtain ⟨r7, e, h⟩ := op_bd h
    refine ow_cVv (pc := 88) [.int v3, .int v6, .int (((Int64.toInt32 (x3 >>> (Int32.toInt64 r4.1 &&& 63))) &&& (1023 : Int32)) >>> ((8 : Int32) &&& 31)), .int ((((Int64.toInt32 (x3 >>> (Int32.toInt64 r4.1 &&& 63))) &&& (1023 : Int32)) >>> ((4 : Int32) &&& 31)) &&& (15 : Int32)), .int (((Int64.toInt32 (x3 >>> (Int32.toInt64 r4.1 &&& 63))) &&& (1023 : Int32)) &&& (15 : Int32))] ((c_X5_put _ _ _ _ _ _ _ _ e).mono (by decide)) (op_ck_sh e) rfl dX0_layInto_88 cw_X0_241 rfl (Nat.le_of_ble_eq_true rfl) ?_
    refine aw_iinc (pc := 91) 5 [(5, .int (x5 + (1 : Int32))), (7, .int ((Int64.toInt32 (x3 >>> (Int32.toInt64 r4.1 &&& 63))) &&& (1023 : Int32))), (6, .int v3), (0, .ref x0), (1, .ref x1), (3, .long x3)] (x5 + (1 : Int32)) dX0_layInto_91 rfl rfl (by decide) rfl ?_
    refine aw_goto (pc := 94) 28 dX0_layInto_94 (by decide) ?_
    refine aw_sub [3, 4, 5, 0] rfl ?_
    exact hK28 _ _ _ _ _ _ h
theorem c_X0_layInto_28 {G : ah_G}   : ∀ (n : Nat) (x0 : Nat) (x1 : Nat) (x3 : Int64) (x5 : Int32) (σ : ah_H) (r : ah_H), f_X0_layInto_28   n x0 x1 x3 x5 σ = some r → AW G m_X0_layInto 2 0 0 28 [(0, .ref x0), (1, .ref x1), (3, .long x3), (5, .int x5)] [] σ (ah_N G (ah_rv r)) := by
  intro n
  induction n with
  | zero => intro x0 x1 x3 x5 σ r h; cases h
  | succ n ih => intro x0 x1 x3 x5 σ r h; exact c_X0_layInto_28_b   _ ih x0 x1 x3 x5 σ r h
set_option maxRecDepth 100000 in
set_option maxHeartbeats 4000000 in
theorem c_X0_layInto_0 {G : ah_G}   : ∀ (x0 : Nat) (x1 : Nat) (x2 : Int32) (x3 : Int64) (σ : ah_H) (r : ah_H), f_X0_layInto_0   x0 x1 x2 x3 σ = some r → AW G m_X0_layInto 2 0 0 0 [(0, .ref x0), (1, .ref x1), (2, .int x2), (3, .long x3)] [] σ (ah_N G (ah_rv r)) := by
  intro x0 x1 x2 x3 σ r h
  unfold f_X0_layInto_0 at h
  refine aw_aload_n (pc := 0) 0 dX0_layInto_0 rfl ?_
  obtain ⟨v1, e, h⟩ := op_bd h
  refine ow_gR (pc := 1) e dX0_layInto_1 fd_X0_64 rfl ?_
  obtain ⟨v2, e, h⟩ := op_bd h
  refine ow_gI (pc := 4) e dX0_layInto_4 fd_X0_82 rfl ?_
  refine aw_iconst (pc := 7) (v := (-1 : Int32)) dX0_layInto_7 (by decide) ?_
  refine aw_icmp_ne (pc := 8) 12 dX0_layInto_8 (by decide) (fun z => ?_) (fun z => ?_)
  · replace h := (if_neg z).symm.trans h
    refine aw_aload_n (pc := 12) 0 dX0_layInto_12 rfl ?_
    refine aw_iload_n (pc := 13) 2 dX0_layInto_13 rfl ?_
    obtain ⟨r3, e, h⟩ := op_bd h
    refine ow_cVv (pc := 14) [.int x2] ((c_X0_orient _ _ _ _ e).mono (by decide)) (op_ck_sh e) rfl dX0_layInto_14 cw_X0_93 rfl (Nat.le_of_ble_eq_true rfl) ?_
    refine aw_aload_n (pc := 17) 1 dX0_layInto_17 rfl ?_
    obtain ⟨v4, e, h⟩ := op_bd h
    refine ow_gR (pc := 18) e dX0_layInto_18 fd_X0_238 rfl ?_
    refine aw_iconst (pc := 21) (v := (-1 : Int32)) dX0_layInto_21 (by decide) ?_
    obtain ⟨r5, e, h⟩ := op_bd h
    refine ow_cSv (pc := 22) [.ref v4, .int (-1 : Int32)] ((c_J7_fill_53178 _ _ _ _ e).mono (by decide)) rfl dX0_layInto_22 cw_X0_72 rfl (Nat.le_of_ble_eq_true rfl) ?_
    refine aw_iconst (pc := 25) (v := (1 : Int32)) dX0_layInto_25 (by decide) ?_
    refine aw_istore (pc := 26) [(5, .int (1 : Int32)), (0, .ref x0), (1, .ref x1), (2, .int x2), (3, .long x3)] dX0_layInto_26 (by decide) rfl ?_
    refine aw_sub [1, 2, 4, 0] rfl ?_
    exact c_X0_layInto_28  _ _ _ _ _ _ _ h
  · replace h := (if_pos z).symm.trans h
    exact ow_vret (pc := 11) h dX0_layInto_11 rfl
theorem c_X0_layInto {G : ah_G}   (x0 : Nat) (x1 : Nat) (x2 : Int32) (x3 : Int64) (σ : ah_H) (r : ah_H) (h : f_X0_layInto  x0 x1 x2 x3 σ = some r) : AM G m_X0_layInto 2 0 0 [.ref x0, .ref x1, .int x2, .long x3] σ (ah_rv r) := aw_enter (by decide) (Nat.le_of_ble_eq_true rfl) (c_X0_layInto_0 _ _ _ _ _ _ (op_ck_k h))
def f_X10_serve_0   (x0 : Nat) (x1 : Nat) (σ : ah_H) : Option (ah_H) :=
  (op_pR 10 6 σ x0 x1).bind fun σ1 => (op_pZ 10 7 σ1 x0 (0 : Int32)).bind fun σ2 => (op_gR 10 4 σ2 x0).bind fun v3 => (f_J7_fill_d0a16 v3 (-9 : Int64) σ2).bind fun r4 => (op_gR 10 3 r4 x0).bind fun v5 => (f_X0_serve v5 x1 r4).bind fun r6 => some r6
def f_X10_serve  (x0 : Nat) (x1 : Nat) (σ : ah_H) : Option (ah_H) := op_ck 10 σ x0 (f_X10_serve_0 x0 x1 σ)
set_option maxRecDepth 100000 in
set_option maxHeartbeats 4000000 in
theorem c_X10_serve_0 {G : ah_G}   : ∀ (x0 : Nat) (x1 : Nat) (σ : ah_H) (r : ah_H), f_X10_serve_0   x0 x1 σ = some r → AW G m_X10_serve 2 0 0 0 [(0, .ref x0), (1, .ref x1)] [] σ (ah_N G (ah_rv r)) := by
  intro x0 x1 σ r h
  unfold f_X10_serve_0 at h
  refine aw_aload_n (pc := 0) 0 dX10_serve_0 rfl ?_
  refine aw_aload_n (pc := 1) 1 dX10_serve_1 rfl ?_
  obtain ⟨σ1, e, h⟩ := op_bd h
  refine ow_pR (pc := 2) e dX10_serve_2 fd_X10_30 rfl ?_
  refine aw_aload_n (pc := 5) 0 dX10_serve_5 rfl ?_
  refine aw_iconst (pc := 6) (v := (0 : Int32)) dX10_serve_6 (by decide) ?_
  obtain ⟨σ2, e, h⟩ := op_bd h
  refine ow_pZ (pc := 7) e dX10_serve_7 fd_X10_34 ?_
  refine aw_aload_n (pc := 10) 0 dX10_serve_10 rfl ?_
  obtain ⟨v3, e, h⟩ := op_bd h
  refine ow_gR (pc := 11) e dX10_serve_11 fd_X10_11 rfl ?_
  refine aw_ldc2 (pc := 14) dX10_serve_14 kl_X10_38 ?_
  obtain ⟨r4, e, h⟩ := op_bd h
  refine ow_cSv (pc := 17) [.ref v3, .long (-9 : Int64)] ((c_J7_fill_d0a16 _ _ _ _ e).mono (by decide)) rfl dX10_serve_17 cw_X10_40 rfl (Nat.le_of_ble_eq_true rfl) ?_
  refine aw_aload_n (pc := 20) 0 dX10_serve_20 rfl ?_
  obtain ⟨v5, e, h⟩ := op_bd h
  refine ow_gR (pc := 21) e dX10_serve_21 fd_X10_23 rfl ?_
  refine aw_aload_n (pc := 24) 1 dX10_serve_24 rfl ?_
  obtain ⟨r6, e, h⟩ := op_bd h
  refine ow_cVv (pc := 25) [.ref x1] ((c_X0_serve _ _ _ _ e).mono (by decide)) (op_ck_sh e) rfl dX10_serve_25 cw_X10_46 rfl (Nat.le_of_ble_eq_true rfl) ?_
  exact ow_vret (pc := 28) h dX10_serve_28 rfl
theorem c_X10_serve {G : ah_G}   (x0 : Nat) (x1 : Nat) (σ : ah_H) (r : ah_H) (h : f_X10_serve  x0 x1 σ = some r) : AM G m_X10_serve 2 0 0 [.ref x0, .ref x1] σ (ah_rv r) := aw_enter (by decide) (Nat.le_of_ble_eq_true rfl) (c_X10_serve_0 _ _ _ _ (op_ck_k h))
def f_X10_init_0   (x0 : Nat) (x1 : Nat) (σ : ah_H) : Option (ah_H) :=
  (op_nwA .long 1024 σ).bind fun r1 => (op_pR 10 4 r1.2 x0 r1.1).bind fun σ2 => (op_nwA .long 1024 σ2).bind fun r3 => (op_pR 10 5 r3.2 x0 r3.1).bind fun σ4 => (op_nwO 0 σ4).bind fun r5 => (f_X0_init r5.1 x1 r5.2).bind fun σ6 => (op_pR 10 3 σ6 x0 r5.1).bind fun σ7 => (f_X10_serve x0 x1 σ7).bind fun r8 => some r8
def f_X10_init  (x0 : Nat) (x1 : Nat) (σ : ah_H) : Option (ah_H) := op_ck 10 σ x0 (f_X10_init_0 x0 x1 σ)
set_option maxRecDepth 100000 in
set_option maxHeartbeats 4000000 in
theorem c_X10_init_0 {G : ah_G} (hex : ah_ex G)   : ∀ (x0 : Nat) (x1 : Nat) (σ : ah_H) (r : ah_H), f_X10_init_0   x0 x1 σ = some r → AW G m_X10_init 3 61 6300 0 [(0, .ref x0), (1, .ref x1)] [] σ (ah_N G (ah_rv r)) := by
  intro x0 x1 σ r h
  unfold f_X10_init_0 at h
  refine aw_aload_n (pc := 0) 0 dX10_init_0 rfl ?_
  refine ow_oi (pc := 1) dX10_init_1 oi_X10_3 (Nat.le_of_ble_eq_true rfl) ?_
  refine aw_aload_n (pc := 4) 0 dX10_init_4 rfl ?_
  refine aw_sipush (pc := 5) (v := (1024 : Int32)) dX10_init_5 (by decide) ?_
  obtain ⟨r1, e, h⟩ := op_bd h
  refine ow_nwA hex (pc := 8) (kc := 60) (ks := 5276) (N := 1024) e dX10_init_8 rfl (by decide) (by decide) (by decide) ac_long (by decide) ⟨rfl, rfl⟩ ?_
  obtain ⟨σ2, e, h⟩ := op_bd h
  refine ow_pRF (pc := 10) e dX10_init_10 fd_X10_11 rfl rfl (fun C T N h => by cases h; rfl) ?_
  refine aw_aload_n (pc := 13) 0 dX10_init_13 rfl ?_
  refine aw_sipush (pc := 14) (v := (1024 : Int32)) dX10_init_14 (by decide) ?_
  obtain ⟨r3, e, h⟩ := op_bd h
  refine ow_nwA hex (pc := 17) (kc := 59) (ks := 4252) (N := 1024) e dX10_init_17 rfl (by decide) (by decide) (by decide) ac_long (by decide) ⟨rfl, rfl⟩ ?_
  obtain ⟨σ4, e, h⟩ := op_bd h
  refine ow_pRF (pc := 19) e dX10_init_19 fd_X10_15 rfl rfl (fun C T N h => by cases h; rfl) ?_
  refine aw_aload_n (pc := 22) 0 dX10_init_22 rfl ?_
  obtain ⟨r5, e, h⟩ := op_bd h
  refine ow_nwO hex (pc := 23) (kc := 58) (ks := 4232) (N := 20) e dX10_init_23 nw_X10_18 ?_
  refine aw_dup (pc := 26) dX10_init_26 rfl ?_
  refine aw_aload_n (pc := 27) 1 dX10_init_27 rfl ?_
  obtain ⟨σ6, e, h⟩ := op_bd h
  refine ow_cI (pc := 28) (ka := 58) (kb := 4232) (kc := 0) (ks := 0) [.ref x1] ((c_X0_init hex _ _ _ _ e).mono (by decide)) rfl dX10_init_28 ci_X10_20 rfl (Nat.le_of_ble_eq_true rfl) ?_
  obtain ⟨σ7, e, h⟩ := op_bd h
  refine ow_pRF (pc := 31) e dX10_init_31 fd_X10_23 rfl rfl (fun C T N h => by cases h; rfl) ?_
  refine aw_aload_n (pc := 34) 0 dX10_init_34 rfl ?_
  refine aw_aload_n (pc := 35) 1 dX10_init_35 rfl ?_
  obtain ⟨r8, e, h⟩ := op_bd h
  refine ow_cVvK (pc := 36) [.ref x1] ((c_X10_serve _ _ _ _ e).mono (by decide)) (op_ck_sh e) rfl dX10_init_36 cw_X10_27 rfl (Nat.le_of_ble_eq_true rfl) ?_
  exact ow_vret (pc := 39) h dX10_init_39 rfl
theorem c_X10_init {G : ah_G} (hex : ah_ex G)   (x0 : Nat) (x1 : Nat) (σ : ah_H) (r : ah_H) (h : f_X10_init  x0 x1 σ = some r) : AM G m_X10_init 3 61 6300 [.ref x0, .ref x1] σ (ah_rv r) := aw_enter (by decide) (Nat.le_of_ble_eq_true rfl) (c_X10_init_0 hex _ _ _ _ (op_ck_k h))
def f_X9_endBits_0   (x0 : Nat) (x1 : Int32) (σ : ah_H) : Option (Int32 × ah_H) :=
  (op_gR 9 5 σ x0).bind fun v1 => (op_aR .int σ v1 x1).bind fun v2 => (op_aI σ v2 (0 : Int32)).bind fun v3 => (op_gR 9 5 σ x0).bind fun v4 => (op_aR .int σ v4 x1).bind fun v5 => (op_aI σ v5 (1 : Int32)).bind fun v6 => some ((((1 : Int32) <<< (v3 &&& 31)) ||| ((1 : Int32) <<< (v6 &&& 31))), σ)
def f_X9_endBits  (x0 : Nat) (x1 : Int32) (σ : ah_H) : Option (Int32 × ah_H) := op_ck 9 σ x0 (f_X9_endBits_0 x0 x1 σ)
set_option maxRecDepth 100000 in
set_option maxHeartbeats 4000000 in
theorem c_X9_endBits_0 {G : ah_G}   : ∀ (x0 : Nat) (x1 : Int32) (σ : ah_H) (r : Int32 × ah_H), f_X9_endBits_0   x0 x1 σ = some r → AW G m_X9_endBits 0 0 0 0 [(0, .ref x0), (1, .int x1)] [] σ (ah_N G (ah_ri r)) := by
  intro x0 x1 σ r h
  unfold f_X9_endBits_0 at h
  refine aw_iconst (pc := 0) (v := (1 : Int32)) dX9_endBits_0 (by decide) ?_
  refine aw_aload_n (pc := 1) 0 dX9_endBits_1 rfl ?_
  obtain ⟨v1, e, h⟩ := op_bd h
  refine ow_gR (pc := 2) e dX9_endBits_2 fd_X9_16 rfl ?_
  refine aw_iload_n (pc := 5) 1 dX9_endBits_5 rfl ?_
  obtain ⟨v2, e, h⟩ := op_bd h
  refine ow_aR (pc := 6) e dX9_endBits_6 (by decide) ?_
  refine aw_iconst (pc := 7) (v := (0 : Int32)) dX9_endBits_7 (by decide) ?_
  obtain ⟨v3, e, h⟩ := op_bd h
  refine ow_aI (pc := 8) e dX9_endBits_8 ?_
  refine aw_ishl (pc := 9) dX9_endBits_9 ?_
  refine aw_iconst (pc := 10) (v := (1 : Int32)) dX9_endBits_10 (by decide) ?_
  refine aw_aload_n (pc := 11) 0 dX9_endBits_11 rfl ?_
  obtain ⟨v4, e, h⟩ := op_bd h
  refine ow_gR (pc := 12) e dX9_endBits_12 fd_X9_16 rfl ?_
  refine aw_iload_n (pc := 15) 1 dX9_endBits_15 rfl ?_
  obtain ⟨v5, e, h⟩ := op_bd h
  refine ow_aR (pc := 16) e dX9_endBits_16 (by decide) ?_
  refine aw_iconst (pc := 17) (v := (1 : Int32)) dX9_endBits_17 (by decide) ?_
  obtain ⟨v6, e, h⟩ := op_bd h
  refine ow_aI (pc := 18) e dX9_endBits_18 ?_
  refine aw_ishl (pc := 19) dX9_endBits_19 ?_
  refine aw_ior (pc := 20) dX9_endBits_20 ?_
  exact ow_iret (pc := 21) h dX9_endBits_21 rfl
theorem c_X9_endBits {G : ah_G}   (x0 : Nat) (x1 : Int32) (σ : ah_H) (r : Int32 × ah_H) (h : f_X9_endBits  x0 x1 σ = some r) : AM G m_X9_endBits 0 0 0 [.ref x0, .int x1] σ (ah_ri r) := aw_enter (by decide) (Nat.le_of_ble_eq_true rfl) (c_X9_endBits_0 _ _ _ _ (op_ck_k h))
def f_X10_joinsAll_90  (K32 : Nat → Int32 → Int32 → Int32 → ah_H → Option (Int32 × ah_H)) (K46 : Nat → Int32 → Int32 → Int32 → Int32 → ah_H → Option (Int32 × ah_H)) (x0 : Nat) (x1 : Int32) (x2 : Int32) (x3 : Int32) (x4 : Int32) (σ : ah_H) : Option (Int32 × ah_H) :=
  K46 x0 x1 x2 x3 (x4 + (1 : Int32)) σ
def f_X10_joinsAll_96  (K32 : Nat → Int32 → Int32 → Int32 → ah_H → Option (Int32 × ah_H)) (x0 : Nat) (x1 : Int32) (x2 : Int32) (x3 : Int32) (σ : ah_H) : Option (Int32 × ah_H) :=
  K32 x0 x1 x2 (x3 + (1 : Int32)) σ
def f_X10_joinsAll_46_b  (K32 : Nat → Int32 → Int32 → Int32 → ah_H → Option (Int32 × ah_H)) (K46 : Nat → Int32 → Int32 → Int32 → Int32 → ah_H → Option (Int32 × ah_H)) (x0 : Nat) (x1 : Int32) (x2 : Int32) (x3 : Int32) (x4 : Int32) (σ : ah_H) : Option (Int32 × ah_H) :=
  (op_gR 10 6 σ x0).bind fun v1 => (op_gI 9 4 σ v1).bind fun v2 => if v2 ≤ x4 then (f_X10_joinsAll_96 K32 x0 x1 x2 x3 σ) else ((op_gR 10 6 σ x0).bind fun v3 => (f_X9_endBits v3 x4 σ).bind fun r4 => if ((x1 >>> (x4 &&& 31)) &&& (1 : Int32)) = 0 then (f_X10_joinsAll_90 K32 K46 x0 x1 x2 x3 x4 r4.2) else (if (x2 &&& r4.1) = 0 then (f_X10_joinsAll_90 K32 K46 x0 x1 x2 x3 x4 r4.2) else (f_X10_joinsAll_90 K32 K46 x0 x1 (x2 ||| r4.1) x3 x4 r4.2)))
def f_X10_joinsAll_46  (K32 : Nat → Int32 → Int32 → Int32 → ah_H → Option (Int32 × ah_H)) : Nat → Nat → Int32 → Int32 → Int32 → Int32 → ah_H → Option (Int32 × ah_H)
  | 0, _, _, _, _, _, _ => none
  | n + 1, x0, x1, x2, x3, x4, σ => f_X10_joinsAll_46_b K32 (f_X10_joinsAll_46 K32 n) x0 x1 x2 x3 x4 σ
def f_X10_joinsAll_102   (x0 : Nat) (x2 : Int32) (σ : ah_H) : Option (Int32 × ah_H) :=
  (op_gR 10 6 σ x0).bind fun v1 => (op_gI 9 0 σ v1).bind fun v2 => if x2 = (((1 : Int32) <<< (v2 &&& 31)) - (1 : Int32)) then ((op_rz (1 : Int32)).map fun q => (q, σ)) else ((op_rz (0 : Int32)).map fun q => (q, σ))
def f_X10_joinsAll_32_b  (K32 : Nat → Int32 → Int32 → Int32 → ah_H → Option (Int32 × ah_H)) (x0 : Nat) (x1 : Int32) (x2 : Int32) (x3 : Int32) (σ : ah_H) : Option (Int32 × ah_H) :=
  (op_gR 10 6 σ x0).bind fun v1 => (op_gI 9 0 σ v1).bind fun v2 => if v2 ≤ x3 then (f_X10_joinsAll_102 x0 x2 σ) else (f_X10_joinsAll_46 K32 5000 x0 x1 x2 x3 (0 : Int32) σ)
def f_X10_joinsAll_32   : Nat → Nat → Int32 → Int32 → Int32 → ah_H → Option (Int32 × ah_H)
  | 0, _, _, _, _, _ => none
  | n + 1, x0, x1, x2, x3, σ => f_X10_joinsAll_32_b (f_X10_joinsAll_32 n) x0 x1 x2 x3 σ
def f_X10_joinsAll_0   (x0 : Nat) (x1 : Int32) (σ : ah_H) : Option (Int32 × ah_H) :=
  (op_gR 10 6 σ x0).bind fun v1 => (op_gI 9 0 σ v1).bind fun v2 => if v2 = 0 then ((op_rz (0 : Int32)).map fun q => (q, σ)) else ((f_J6_bitCount_0f7a4 x1 σ).bind fun r3 => (op_gR 10 6 r3.2 x0).bind fun v4 => (op_gI 9 0 r3.2 v4).bind fun v5 => if r3.1 = (v5 - (1 : Int32)) then (f_X10_joinsAll_32 5000 x0 x1 (1 : Int32) (1 : Int32) r3.2) else ((op_rz (0 : Int32)).map fun q => (q, r3.2)))
def f_X10_joinsAll  (x0 : Nat) (x1 : Int32) (σ : ah_H) : Option (Int32 × ah_H) := op_ck 10 σ x0 (f_X10_joinsAll_0 x0 x1 σ)
set_option maxRecDepth 100000 in
set_option maxHeartbeats 4000000 in
theorem c_X10_joinsAll_90 {G : ah_G}  (K32 : Nat → Int32 → Int32 → Int32 → ah_H → Option (Int32 × ah_H)) (hK32 : ∀ (x0 : Nat) (x1 : Int32) (x2 : Int32) (x3 : Int32) (σ : ah_H) (r : Int32 × ah_H), K32 x0 x1 x2 x3 σ = some r → AW G m_X10_joinsAll 1 0 0 32 [(0, .ref x0), (1, .int x1), (2, .int x2), (3, .int x3)] [] σ (ah_N G (ah_ri r))) (K46 : Nat → Int32 → Int32 → Int32 → Int32 → ah_H → Option (Int32 × ah_H)) (hK46 : ∀ (x0 : Nat) (x1 : Int32) (x2 : Int32) (x3 : Int32) (x4 : Int32) (σ : ah_H) (r : Int32 × ah_H), K46 x0 x1 x2 x3 x4 σ = some r → AW G m_X10_joinsAll 1 0 0 46 [(0, .ref x0), (1, .int x1), (2, .int x2), (3, .int x3), (4, .int x4)] [] σ (ah_N G (ah_ri r))) : ∀ (x0 : Nat) (x1 : Int32) (x2 : Int32) (x3 : Int32) (x4 : Int32) (σ : ah_H) (r : Int32 × ah_H), f_X10_joinsAll_90  K32 K46 x0 x1 x2 x3 x4 σ = some r → AW G m_X10_joinsAll 1 0 0 90 [(0, .ref x0), (1, .int x1), (2, .int x2), (3, .int x3), (4, .int x4)] [] σ (ah_N G (ah_ri r)) := by
  intro x0 x1 x2 x3 x4 σ r h
  unfold f_X10_joinsAll_90 at h
  refine aw_iinc (pc := 90) 4 [(4, .int (x4 + (1 : Int32))), (0, .ref x0), (1, .int x1), (2, .int x2), (3, .int x3)] (x4 + (1 : Int32)) dX10_joinsAll_90 rfl rfl (by decide) rfl ?_
  refine aw_goto (pc := 93) 46 dX10_joinsAll_93 (by decide) ?_
  refine aw_sub [1, 2, 3, 4, 0] rfl ?_
  exact hK46 _ _ _ _ _ _ _ h
set_option maxRecDepth 100000 in
set_option maxHeartbeats 4000000 in
theorem c_X10_joinsAll_96 {G : ah_G}  (K32 : Nat → Int32 → Int32 → Int32 → ah_H → Option (Int32 × ah_H)) (hK32 : ∀ (x0 : Nat) (x1 : Int32) (x2 : Int32) (x3 : Int32) (σ : ah_H) (r : Int32 × ah_H), K32 x0 x1 x2 x3 σ = some r → AW G m_X10_joinsAll 1 0 0 32 [(0, .ref x0), (1, .int x1), (2, .int x2), (3, .int x3)] [] σ (ah_N G (ah_ri r))) : ∀ (x0 : Nat) (x1 : Int32) (x2 : Int32) (x3 : Int32) (σ : ah_H) (r : Int32 × ah_H), f_X10_joinsAll_96  K32 x0 x1 x2 x3 σ = some r → AW G m_X10_joinsAll 1 0 0 96 [(0, .ref x0), (1, .int x1), (2, .int x2), (3, .int x3)] [] σ (ah_N G (ah_ri r)) := by
  intro x0 x1 x2 x3 σ r h
  unfold f_X10_joinsAll_96 at h
  refine aw_iinc (pc := 96) 3 [(3, .int (x3 + (1 : Int32))), (0, .ref x0), (1, .int x1), (2, .int x2)] (x3 + (1 : Int32)) dX10_joinsAll_96 rfl rfl (by decide) rfl ?_
  refine aw_goto (pc := 99) 32 dX10_joinsAll_99 (by decide) ?_
  refine aw_sub [1, 2, 3, 0] rfl ?_
  exact hK32 _ _ _ _ _ _ h
set_option maxRecDepth 100000 in
set_option maxHeartbeats 4000000 in
theorem c_X10_joinsAll_46_b {G : ah_G}  (K32 : Nat → Int32 → Int32 → Int32 → ah_H → Option (Int32 × ah_H)) (hK32 : ∀ (x0 : Nat) (x1 : Int32) (x2 : Int32) (x3 : Int32) (σ : ah_H) (r : Int32 × ah_H), K32 x0 x1 x2 x3 σ = some r → AW G m_X10_joinsAll 1 0 0 32 [(0, .ref x0), (1, .int x1), (2, .int x2), (3, .int x3)] [] σ (ah_N G (ah_ri r))) (K46 : Nat → Int32 → Int32 → Int32 → Int32 → ah_H → Option (Int32 × ah_H)) (hK46 : ∀ (x0 : Nat) (x1 : Int32) (x2 : Int32) (x3 : Int32) (x4 : Int32) (σ : ah_H) (r : Int32 × ah_H), K46 x0 x1 x2 x3 x4 σ = some r → AW G m_X10_joinsAll 1 0 0 46 [(0, .ref x0), (1, .int x1), (2, .int x2), (3, .int x3), (4, .int x4)] [] σ (ah_N G (ah_ri r))) : ∀ (x0 : Nat) (x1 : Int32) (x2 : Int32) (x3 : Int32) (x4 : Int32) (σ : ah_H) (r : Int32 × ah_H), f_X10_joinsAll_46_b  K32 K46 x0 x1 x2 x3 x4 σ = some r → AW G m_X10_joinsAll 1 0 0 46 [(0, .ref x0), (1, .int x1), (2, .int x2), (3, .int x3), (4, .int x4)] [] σ (ah_N G (ah_ri r)) := by
  intro x0 x1 x2 x3 x4 σ r h
  unfold f_X10_joinsAll_46_b at h
  refine aw_iload (pc := 46) 4 dX10_joinsAll_46 rfl ?_
  refine aw_aload_n (pc := 48) 0 dX10_joinsAll_48 rfl ?_
  obtain ⟨v1, e, h⟩ := op_bd h
  refine ow_gR (pc := 49) e dX10_joinsAll_49 fd_X10_30 rfl ?_
  obtain ⟨v2, e, h⟩ := op_bd h
  refine ow_gI (pc := 52) e dX10_joinsAll_52 fd_X10_47 rfl ?_
  refine aw_icmp_ge (pc := 55) 96 dX10_joinsAll_55 (by decide) (fun z => ?_) (fun z => ?_)
  · replace h := (if_pos z).symm.trans h
    refine aw_sub [0, 1, 2, 3] rfl ?_
    exact c_X10_joinsAll_96 K32 hK32 _ _ _ _ _ _ h
  · replace h := (if_neg z).symm.trans h
    refine aw_aload_n (pc := 58) 0 dX10_joinsAll_58 rfl ?_
    obtain ⟨v3, e, h⟩ := op_bd h
    refine ow_gR (pc := 59) e dX10_joinsAll_59 fd_X10_30 rfl ?_
    refine aw_iload (pc := 62) 4 dX10_joinsAll_62 rfl ?_
    obtain ⟨r4, e, h⟩ := op_bd h
    refine ow_cVi (pc := 64) [.int x4] ((c_X9_endBits _ _ _ _ e).mono (by decide)) (op_ck_sh e) rfl dX10_joinsAll_64 cw_X10_75 rfl (Nat.le_of_ble_eq_true rfl) ?_
    refine aw_istore (pc := 67) [(5, .int r4.1), (0, .ref x0), (1, .int x1), (2, .int x2), (3, .int x3), (4, .int x4)] dX10_joinsAll_67 (by decide) rfl ?_
    refine aw_iload_n (pc := 69) 2 dX10_joinsAll_69 rfl ?_
    refine aw_iload (pc := 70) 5 dX10_joinsAll_70 rfl ?_
    refine aw_ishr (pc := 72) dX10_joinsAll_72 ?_
    refine aw_iconst (pc := 73) (v := (1 : Int32)) dX10_joinsAll_73 (by decide) ?_
    refine aw_iand (pc := 74) dX10_joinsAll_74 ?_
    refine aw_if_eq (pc := 75) 90 dX10_joinsAll_75 (by decide) (fun z => ?_) (fun z => ?_)
    · replace h := (if_pos z).symm.trans h
      refine aw_sub [1, 2, 3, 4, 5] rfl ?_
      exact c_X10_joinsAll_90 K32 hK32 K46 hK46 _ _ _ _ _ _ _ h
    · replace h := (if_neg z).symm.trans h
      refine aw_iload_n (pc := 78) 3 dX10_joinsAll_78 rfl ?_
      refine aw_iload (pc := 79) 0 dX10_joinsAll_79 rfl ?_
      refine aw_iand (pc := 81) dX10_joinsAll_81 ?_
      refine aw_if_eq (pc := 82) 90 dX10_joinsAll_82 (by decide) (fun z => ?_) (fun z => ?_)
      · replace h := (if_pos z).symm.trans h
        refine aw_sub [1, 2, 3, 4, 5] rfl ?_
        exact c_X10_joinsAll_90 K32 hK32 K46 hK46 _ _ _ _ _ _ _ h
      · replace h := (if_neg z).symm.trans h
        refine aw_iload_n (pc := 85) 3 dX10_joinsAll_85 rfl ?_
        refine aw_iload (pc := 86) 0 dX10_joinsAll_86 rfl ?_
        refine aw_ior (pc := 88) dX10_joinsAll_88 ?_
        refine aw_istore_n (pc := 89) [(2, .int (x2 ||| r4.1)), (5, .int r4.1), (0, .ref x0), (1, .int x1), (3, .int x3), (4, .int x4)] dX10_joinsAll_89 rfl (by decide) rfl ?_
        refine aw_sub [2, 3, 0, 4, 5] rfl ?_
        exact c_X10_joinsAll_90 K32 hK32 K46 hK46 _ _ _ _ _ _ _ h
theorem c_X10_joinsAll_46 {G : ah_G}  (K32 : Nat → Int32 → Int32 → Int32 → ah_H → Option (Int32 × ah_H)) (hK32 : ∀ (x0 : Nat) (x1 : Int32) (x2 : Int32) (x3 : Int32) (σ : ah_H) (r : Int32 × ah_H), K32 x0 x1 x2 x3 σ = some r → AW G m_X10_joinsAll 1 0 0 32 [(0, .ref x0), (1, .int x1), (2, .int x2), (3, .int x3)] [] σ (ah_N G (ah_ri r))) : ∀ (n : Nat) (x0 : Nat) (x1 : Int32) (x2 : Int32) (x3 : Int32) (x4 : Int32) (σ : ah_H) (r : Int32 × ah_H), f_X10_joinsAll_46  K32 n x0 x1 x2 x3 x4 σ = some r → AW G m_X10_joinsAll 1 0 0 46 [(0, .ref x0), (1, .int x1), (2, .int x2), (3, .int x3), (4, .int x4)] [] σ (ah_N G (ah_ri r)) := by
  intro n
  induction n with
  | zero => intro x0 x1 x2 x3 x4 σ r h; cases h
  | succ n ih => intro x0 x1 x2 x3 x4 σ r h; exact c_X10_joinsAll_46_b  K32 hK32 _ ih x0 x1 x2 x3 x4 σ r h
set_option maxRecDepth 100000 in
set_option maxHeartbeats 4000000 in
theorem c_X10_joinsAll_102 {G : ah_G}   : ∀ (x0 : Nat) (x2 : Int32) (σ : ah_H) (r : Int32 × ah_H), f_X10_joinsAll_102   x0 x2 σ = some r → AW G m_X10_joinsAll 1 0 0 102 [(0, .ref x0), (2, .int x2)] [] σ (ah_N G (ah_ri r)) := by
  intro x0 x2 σ r h
  unfold f_X10_joinsAll_102 at h
  refine aw_iload_n (pc := 102) 1 dX10_joinsAll_102 rfl ?_
  refine aw_iconst (pc := 103) (v := (1 : Int32)) dX10_joinsAll_103 (by decide) ?_
  refine aw_aload_n (pc := 104) 0 dX10_joinsAll_104 rfl ?_
  obtain ⟨v1, e, h⟩ := op_bd h
  refine ow_gR (pc := 105) e dX10_joinsAll_105 fd_X10_30 rfl ?_
  obtain ⟨v2, e, h⟩ := op_bd h
  refine ow_gI (pc := 108) e dX10_joinsAll_108 fd_X10_66 rfl ?_
  refine aw_ishl (pc := 111) dX10_joinsAll_111 ?_
  refine aw_iconst (pc := 112) (v := (1 : Int32)) dX10_joinsAll_112 (by decide) ?_
  refine aw_isub (pc := 113) dX10_joinsAll_113 ?_
  refine aw_icmp_ne (pc := 114) 121 dX10_joinsAll_114 (by decide) (fun z => ?_) (fun z => ?_)
  · replace h := (if_neg z).symm.trans h
    refine aw_iconst (pc := 121) (v := (0 : Int32)) dX10_joinsAll_121 (by decide) ?_
    exact ow_zret (pc := 122) h dX10_joinsAll_122 rfl
  · replace h := (if_pos z).symm.trans h
    refine aw_iconst (pc := 117) (v := (1 : Int32)) dX10_joinsAll_117 (by decide) ?_
    refine aw_goto (pc := 118) 122 dX10_joinsAll_118 (by decide) ?_
    exact ow_zret (pc := 122) h dX10_joinsAll_122 rfl
set_option maxRecDepth 100000 in
set_option maxHeartbeats 4000000 in
theorem c_X10_joinsAll_32_b {G : ah_G}  (K32 : Nat → Int32 → Int32 → Int32 → ah_H → Option (Int32 × ah_H)) (hK32 : ∀ (x0 : Nat) (x1 : Int32) (x2 : Int32) (x3 : Int32) (σ : ah_H) (r : Int32 × ah_H), K32 x0 x1 x2 x3 σ = some r → AW G m_X10_joinsAll 1 0 0 32 [(0, .ref x0), (1, .int x1), (2, .int x2), (3, .int x3)] [] σ (ah_N G (ah_ri r))) : ∀ (x0 : Nat) (x1 : Int32) (x2 : Int32) (x3 : Int32) (σ : ah_H) (r : Int32 × ah_H), f_X10_joinsAll_32_b  K32 x0 x1 x2 x3 σ = some r → AW G m_X10_joinsAll 1 0 0 32 [(0, .ref x0), (1, .int x1), (2, .int x2), (3, .int x3)] [] σ (ah_N G (ah_ri r)) := by
  intro x0 x1 x2 x3 σ r h
  unfold f_X10_joinsAll_32_b at h
  refine aw_iload_n (pc := 32) 3 dX10_joinsAll_32 rfl ?_
  refine aw_aload_n (pc := 33) 0 dX10_joinsAll_33 rfl ?_
  obtain ⟨v1, e, h⟩ := op_bd h
  refine ow_gR (pc := 34) e dX10_joinsAll_34 fd_X10_30 rfl ?_
  obtain ⟨v2, e, h⟩ := op_bd h
  refine ow_gI (pc := 37) e dX10_joinsAll_37 fd_X10_66 rfl ?_
  refine aw_icmp_ge (pc := 40) 102 dX10_joinsAll_40 (by decide) (fun z => ?_) (fun z => ?_)
  · replace h := (if_pos z).symm.trans h
    refine aw_sub [0, 2] rfl ?_
    exact c_X10_joinsAll_102  _ _ _ _ h
  · replace h := (if_neg z).symm.trans h
    refine aw_iconst (pc := 43) (v := (0 : Int32)) dX10_joinsAll_43 (by decide) ?_
    refine aw_istore (pc := 44) [(4, .int (0 : Int32)), (0, .ref x0), (1, .int x1), (2, .int x2), (3, .int x3)] dX10_joinsAll_44 (by decide) rfl ?_
    refine aw_sub [1, 2, 3, 4, 0] rfl ?_
    exact c_X10_joinsAll_46 K32 hK32 _ _ _ _ _ _ _ _ h
theorem c_X10_joinsAll_32 {G : ah_G}   : ∀ (n : Nat) (x0 : Nat) (x1 : Int32) (x2 : Int32) (x3 : Int32) (σ : ah_H) (r : Int32 × ah_H), f_X10_joinsAll_32   n x0 x1 x2 x3 σ = some r → AW G m_X10_joinsAll 1 0 0 32 [(0, .ref x0), (1, .int x1), (2, .int x2), (3, .int x3)] [] σ (ah_N G (ah_ri r)) := by
  intro n
  induction n with
  | zero => intro x0 x1 x2 x3 σ r h; cases h
  | succ n ih => intro x0 x1 x2 x3 σ r h; exact c_X10_joinsAll_32_b   _ ih x0 x1 x2 x3 σ r h
set_option maxRecDepth 100000 in
set_option maxHeartbeats 4000000 in
theorem c_X10_joinsAll_0 {G : ah_G}   : ∀ (x0 : Nat) (x1 : Int32) (σ : ah_H) (r : Int32 × ah_H), f_X10_joinsAll_0   x0 x1 σ = some r → AW G m_X10_joinsAll 1 0 0 0 [(0, .ref x0), (1, .int x1)] [] σ (ah_N G (ah_ri r)) := by
  intro x0 x1 σ r h
  unfold f_X10_joinsAll_0 at h
  refine aw_aload_n (pc := 0) 0 dX10_joinsAll_0 rfl ?_
  obtain ⟨v1, e, h⟩ := op_bd h
  refine ow_gR (pc := 1) e dX10_joinsAll_1 fd_X10_30 rfl ?_
  obtain ⟨v2, e, h⟩ := op_bd h
  refine ow_gI (pc := 4) e dX10_joinsAll_4 fd_X10_66 rfl ?_
  refine aw_if_eq (pc := 7) 26 dX10_joinsAll_7 (by decide) (fun z => ?_) (fun z => ?_)
  · replace h := (if_pos z).symm.trans h
    refine aw_iconst (pc := 26) (v := (0 : Int32)) dX10_joinsAll_26 (by decide) ?_
    exact ow_zret (pc := 27) h dX10_joinsAll_27 rfl
  · replace h := (if_neg z).symm.trans h
    refine aw_iload_n (pc := 10) 1 dX10_joinsAll_10 rfl ?_
    obtain ⟨r3, e, h⟩ := op_bd h
    refine ow_cSi (pc := 11) [.int x1] ((c_J6_bitCount_0f7a4 _ _ _ e).mono (by decide)) rfl dX10_joinsAll_11 cw_X10_69 rfl (Nat.le_of_ble_eq_true rfl) ?_
    refine aw_aload_n (pc := 14) 0 dX10_joinsAll_14 rfl ?_
    obtain ⟨v4, e, h⟩ := op_bd h
    refine ow_gR (pc := 15) e dX10_joinsAll_15 fd_X10_30 rfl ?_
    obtain ⟨v5, e, h⟩ := op_bd h
    refine ow_gI (pc := 18) e dX10_joinsAll_18 fd_X10_66 rfl ?_
    refine aw_iconst (pc := 21) (v := (1 : Int32)) dX10_joinsAll_21 (by decide) ?_
    refine aw_isub (pc := 22) dX10_joinsAll_22 ?_
    refine aw_icmp_eq (pc := 23) 28 dX10_joinsAll_23 (by decide) (fun z => ?_) (fun z => ?_)
    · replace h := (if_pos z).symm.trans h
      refine aw_iconst (pc := 28) (v := (1 : Int32)) dX10_joinsAll_28 (by decide) ?_
      refine aw_istore_n (pc := 29) [(2, .int (1 : Int32)), (0, .ref x0), (1, .int x1)] dX10_joinsAll_29 rfl (by decide) rfl ?_
      refine aw_iconst (pc := 30) (v := (1 : Int32)) dX10_joinsAll_30 (by decide) ?_
      refine aw_istore_n (pc := 31) [(3, .int (1 : Int32)), (2, .int (1 : Int32)), (0, .ref x0), (1, .int x1)] dX10_joinsAll_31 rfl (by decide) rfl ?_
      refine aw_sub [2, 3, 1, 0] rfl ?_
      exact c_X10_joinsAll_32  _ _ _ _ _ _ _ h
    · replace h := (if_neg z).symm.trans h
      refine aw_iconst (pc := 26) (v := (0 : Int32)) dX10_joinsAll_26 (by decide) ?_
      exact ow_zret (pc := 27) h dX10_joinsAll_27 rfl
theorem c_X10_joinsAll {G : ah_G}   (x0 : Nat) (x1 : Int32) (σ : ah_H) (r : Int32 × ah_H) (h : f_X10_joinsAll  x0 x1 σ = some r) : AM G m_X10_joinsAll 1 0 0 [.ref x0, .int x1] σ (ah_ri r) := aw_enter (by decide) (Nat.le_of_ble_eq_true rfl) (c_X10_joinsAll_0 _ _ _ _ (op_ck_k h))
def f_X10_costOf_82   (x0 : Nat) (x1 : Int32) (σ : ah_H) : Option (Int64 × ah_H) :=
  (op_gR 10 4 σ x0).bind fun v1 => (op_aL σ v1 x1).bind fun v2 => some (v2, σ)
def f_X10_costOf_68   (x0 : Nat) (x1 : Int32) (s0 : Nat) (s1 : Int32) (s2 : Int64) (σ : ah_H) : Option (Int64 × ah_H) :=
  (op_sL σ s0 s1 s2).bind fun σ1 => (op_gR 10 5 σ1 x0).bind fun v2 => (op_gR 10 3 σ1 x0).bind fun v3 => (op_gL 0 0 σ1 v3).bind fun v4 => (op_sL σ1 v2 x1 v4).bind fun σ5 => f_X10_costOf_82 x0 x1 σ5
def f_X10_costOf_0   (x0 : Nat) (x1 : Int32) (σ : ah_H) : Option (Int64 × ah_H) :=
  if x1 < 0 then (some ((-1 : Int64), σ)) else ((op_gR 10 6 σ x0).bind fun v1 => (op_gI 9 4 σ v1).bind fun v2 => if ((1 : Int32) <<< (v2 &&& 31)) ≤ x1 then (some ((-1 : Int64), σ)) else (if x1 < (1024 : Int32) then ((op_gR 10 4 σ x0).bind fun v3 => (op_aL σ v3 x1).bind fun v4 => if (lg_cmp v4 (-9 : Int64)) = 0 then ((op_gR 10 4 σ x0).bind fun v5 => (f_X10_joinsAll x0 x1 σ).bind fun r6 => if r6.1 = 0 then (f_X10_costOf_68 x0 x1 v5 x1 (-1 : Int64) r6.2) else ((op_gR 10 3 r6.2 x0).bind fun v7 => (f_X0_solve v7 x1 r6.2).bind fun r8 => f_X10_costOf_68 x0 x1 v5 x1 r8.1 r8.2)) else (f_X10_costOf_82 x0 x1 σ)) else (some ((-1 : Int64), σ))))
def f_X10_costOf  (x0 : Nat) (x1 : Int32) (σ : ah_H) : Option (Int64 × ah_H) := op_ck 10 σ x0 (f_X10_costOf_0 x0 x1 σ)
set_option maxRecDepth 100000 in
set_option maxHeartbeats 4000000 in
theorem c_X10_costOf_82 {G : ah_G}   : ∀ (x0 : Nat) (x1 : Int32) (σ : ah_H) (r : Int64 × ah_H), f_X10_costOf_82   x0 x1 σ = some r → AW G m_X10_costOf 5 0 0 82 [(0, .ref x0), (1, .int x1)] [] σ (ah_N G (ah_rl r)) := by
  intro x0 x1 σ r h
  unfold f_X10_costOf_82 at h
  refine aw_aload_n (pc := 82) 0 dX10_costOf_82 rfl ?_
  obtain ⟨v1, e, h⟩ := op_bd h
  refine ow_gR (pc := 83) e dX10_costOf_83 fd_X10_11 rfl ?_
  refine aw_iload_n (pc := 86) 1 dX10_costOf_86 rfl ?_
  obtain ⟨v2, e, h⟩ := op_bd h
  refine ow_aL (pc := 87) e dX10_costOf_87 ?_
  exact ow_lret (pc := 88) h dX10_costOf_88 rfl
set_option maxRecDepth 100000 in
set_option maxHeartbeats 4000000 in
theorem c_X10_costOf_68 {G : ah_G}   : ∀ (x0 : Nat) (x1 : Int32) (s0 : Nat) (s1 : Int32) (s2 : Int64) (σ : ah_H) (r : Int64 × ah_H), f_X10_costOf_68   x0 x1 s0 s1 s2 σ = some r → AW G m_X10_costOf 5 0 0 68 [(0, .ref x0), (1, .int x1)] [.long s2, .int s1, .ref s0] σ (ah_N G (ah_rl r)) := by
  intro x0 x1 s0 s1 s2 σ r h
  unfold f_X10_costOf_68 at h
  obtain ⟨σ1, e, h⟩ := op_bd h
  refine ow_sL (pc := 68) e dX10_costOf_68 ?_
  refine aw_aload_n (pc := 69) 0 dX10_costOf_69 rfl ?_
  obtain ⟨v2, e, h⟩ := op_bd h
  refine ow_gR (pc := 70) e dX10_costOf_70 fd_X10_15 rfl ?_
  refine aw_iload_n (pc := 73) 1 dX10_costOf_73 rfl ?_
  refine aw_aload_n (pc := 74) 0 dX10_costOf_74 rfl ?_
  obtain ⟨v3, e, h⟩ := op_bd h
  refine ow_gR (pc := 75) e dX10_costOf_75 fd_X10_23 rfl ?_
  obtain ⟨v4, e, h⟩ := op_bd h
  refine ow_gL (pc := 78) e dX10_costOf_78 fd_X10_63 ?_
  obtain ⟨σ5, e, h⟩ := op_bd h
  refine ow_sL (pc := 81) e dX10_costOf_81 ?_
  exact c_X10_costOf_82  _ _ _ _ h
set_option maxRecDepth 100000 in
set_option maxHeartbeats 4000000 in
theorem c_X10_costOf_0 {G : ah_G}   : ∀ (x0 : Nat) (x1 : Int32) (σ : ah_H) (r : Int64 × ah_H), f_X10_costOf_0   x0 x1 σ = some r → AW G m_X10_costOf 5 0 0 0 [(0, .ref x0), (1, .int x1)] [] σ (ah_N G (ah_rl r)) := by
  intro x0 x1 σ r h
  unfold f_X10_costOf_0 at h
  refine aw_iload_n (pc := 0) 1 dX10_costOf_0 rfl ?_
  refine aw_if_lt (pc := 1) 24 dX10_costOf_1 (by decide) (fun z => ?_) (fun z => ?_)
  · replace h := (if_pos z).symm.trans h
    refine aw_ldc2 (pc := 24) dX10_costOf_24 kl_X10_53 ?_
    exact ow_lret (pc := 27) h dX10_costOf_27 rfl
  · replace h := (if_neg z).symm.trans h
    refine aw_iload_n (pc := 4) 1 dX10_costOf_4 rfl ?_
    refine aw_iconst (pc := 5) (v := (1 : Int32)) dX10_costOf_5 (by decide) ?_
    refine aw_aload_n (pc := 6) 0 dX10_costOf_6 rfl ?_
    obtain ⟨v1, e, h⟩ := op_bd h
    refine ow_gR (pc := 7) e dX10_costOf_7 fd_X10_30 rfl ?_
    obtain ⟨v2, e, h⟩ := op_bd h
    refine ow_gI (pc := 10) e dX10_costOf_10 fd_X10_47 rfl ?_
    refine aw_ishl (pc := 13) dX10_costOf_13 ?_
    refine aw_icmp_ge (pc := 14) 24 dX10_costOf_14 (by decide) (fun z => ?_) (fun z => ?_)
    · replace h := (if_pos z).symm.trans h
      refine aw_ldc2 (pc := 24) dX10_costOf_24 kl_X10_53 ?_
      exact ow_lret (pc := 27) h dX10_costOf_27 rfl
    · replace h := (if_neg z).symm.trans h
      refine aw_iload_n (pc := 17) 1 dX10_costOf_17 rfl ?_
      refine aw_sipush (pc := 18) (v := (1024 : Int32)) dX10_costOf_18 (by decide) ?_
      refine aw_icmp_lt (pc := 21) 28 dX10_costOf_21 (by decide) (fun z => ?_) (fun z => ?_)
      · replace h := (if_pos z).symm.trans h
        refine aw_aload_n (pc := 28) 0 dX10_costOf_28 rfl ?_
        obtain ⟨v3, e, h⟩ := op_bd h
        refine ow_gR (pc := 29) e dX10_costOf_29 fd_X10_11 rfl ?_
        refine aw_iload_n (pc := 32) 1 dX10_costOf_32 rfl ?_
        obtain ⟨v4, e, h⟩ := op_bd h
        refine ow_aL (pc := 33) e dX10_costOf_33 ?_
        refine aw_ldc2 (pc := 34) dX10_costOf_34 kl_X10_38 ?_
        refine aw_lcmp (pc := 37) dX10_costOf_37 ?_
        refine aw_if_ne (pc := 38) 82 dX10_costOf_38 (by decide) (fun z => ?_) (fun z => ?_)
        · replace h := (if_neg z).symm.trans h
          exact c_X10_costOf_82  _ _ _ _ h
        · replace h := (if_pos z).symm.trans h
          refine aw_aload_n (pc := 41) 0 dX10_costOf_41 rfl ?_
          obtain ⟨v5, e, h⟩ := op_bd h
          refine ow_gR (pc := 42) e dX10_costOf_42 fd_X10_11 rfl ?_
          refine aw_iload_n (pc := 45) 1 dX10_costOf_45 rfl ?_
          refine aw_aload_n (pc := 46) 0 dX10_costOf_46 rfl ?_
          refine aw_iload_n (pc := 47) 1 dX10_costOf_47 rfl ?_
          obtain ⟨r6, e, h⟩ := op_bd h
          refine ow_cVi (pc := 48) [.int x1] ((c_X10_joinsAll _ _ _ _ e).mono (by decide)) (op_ck_sh e) rfl dX10_costOf_48 cw_X10_55 rfl (Nat.le_of_ble_eq_true rfl) ?_
          refine aw_if_eq (pc := 51) 65 dX10_costOf_51 (by decide) (fun z => ?_) (fun z => ?_)
          · replace h := (if_pos z).symm.trans h
            refine aw_ldc2 (pc := 65) dX10_costOf_65 kl_X10_53 ?_
            exact c_X10_costOf_68  _ _ _ _ _ _ _ h
          · replace h := (if_neg z).symm.trans h
            refine aw_aload_n (pc := 54) 0 dX10_costOf_54 rfl ?_
            obtain ⟨v7, e, h⟩ := op_bd h
            refine ow_gR (pc := 55) e dX10_costOf_55 fd_X10_23 rfl ?_
            refine aw_iload_n (pc := 58) 1 dX10_costOf_58 rfl ?_
            obtain ⟨r8, e, h⟩ := op_bd h
            refine ow_cVl (pc := 59) [.int x1] ((c_X0_solve _ _ _ _ e).mono (by decide)) (op_ck_sh e) rfl dX10_costOf_59 cw_X10_59 rfl (Nat.le_of_ble_eq_true rfl) ?_
            refine aw_goto (pc := 62) 68 dX10_costOf_62 (by decide) ?_
            exact c_X10_costOf_68  _ _ _ _ _ _ _ h
      · replace h := (if_neg z).symm.trans h
        refine aw_ldc2 (pc := 24) dX10_costOf_24 kl_X10_53 ?_
        exact ow_lret (pc := 27) h dX10_costOf_27 rfl
theorem c_X10_costOf {G : ah_G}   (x0 : Nat) (x1 : Int32) (σ : ah_H) (r : Int64 × ah_H) (h : f_X10_costOf  x0 x1 σ = some r) : AM G m_X10_costOf 5 0 0 [.ref x0, .int x1] σ (ah_rl r) := aw_enter (by decide) (Nat.le_of_ble_eq_true rfl) (c_X10_costOf_0 _ _ _ _ (op_ck_k h))
def f_X10_layInto_0   (x0 : Nat) (x1 : Nat) (x2 : Int32) (σ : ah_H) : Option (ah_H) :=
  if x2 < 0 then (some σ) else (if (1024 : Int32) ≤ x2 then (some σ) else ((op_gR 10 3 σ x0).bind fun v1 => (op_gR 10 5 σ x0).bind fun v2 => (op_aL σ v2 x2).bind fun v3 => (f_X0_layInto v1 x1 x2 v3 σ).bind fun r4 => some r4))
def f_X10_layInto  (x0 : Nat) (x1 : Nat) (x2 : Int32) (σ : ah_H) : Option (ah_H) := op_ck 10 σ x0 (f_X10_layInto_0 x0 x1 x2 σ)
set_option maxRecDepth 100000 in
set_option maxHeartbeats 4000000 in
theorem c_X10_layInto_0 {G : ah_G}   : ∀ (x0 : Nat) (x1 : Nat) (x2 : Int32) (σ : ah_H) (r : ah_H), f_X10_layInto_0   x0 x1 x2 σ = some r → AW G m_X10_layInto 3 0 0 0 [(0, .ref x0), (1, .ref x1), (2, .int x2)] [] σ (ah_N G (ah_rv r)) := by
  intro x0 x1 x2 σ r h
  unfold f_X10_layInto_0 at h
  refine aw_iload_n (pc := 0) 2 dX10_layInto_0 rfl ?_
  refine aw_if_lt (pc := 1) 26 dX10_layInto_1 (by decide) (fun z => ?_) (fun z => ?_)
  · replace h := (if_pos z).symm.trans h
    exact ow_vret (pc := 26) h dX10_layInto_26 rfl
  · replace h := (if_neg z).symm.trans h
    refine aw_iload_n (pc := 4) 2 dX10_layInto_4 rfl ?_
    refine aw_sipush (pc := 5) (v := (1024 : Int32)) dX10_layInto_5 (by decide) ?_
    refine aw_icmp_ge (pc := 8) 26 dX10_layInto_8 (by decide) (fun z => ?_) (fun z => ?_)
    · replace h := (if_pos z).symm.trans h
      exact ow_vret (pc := 26) h dX10_layInto_26 rfl
    · replace h := (if_neg z).symm.trans h
      refine aw_aload_n (pc := 11) 0 dX10_layInto_11 rfl ?_
      obtain ⟨v1, e, h⟩ := op_bd h
      refine ow_gR (pc := 12) e dX10_layInto_12 fd_X10_23 rfl ?_
      refine aw_aload_n (pc := 15) 1 dX10_layInto_15 rfl ?_
      refine aw_iload_n (pc := 16) 2 dX10_layInto_16 rfl ?_
      refine aw_aload_n (pc := 17) 0 dX10_layInto_17 rfl ?_
      obtain ⟨v2, e, h⟩ := op_bd h
      refine ow_gR (pc := 18) e dX10_layInto_18 fd_X10_15 rfl ?_
      refine aw_iload_n (pc := 21) 2 dX10_layInto_21 rfl ?_
      obtain ⟨v3, e, h⟩ := op_bd h
      refine ow_aL (pc := 22) e dX10_layInto_22 ?_
      obtain ⟨r4, e, h⟩ := op_bd h
      refine ow_cVv (pc := 23) [.ref x1, .int x2, .long v3] ((c_X0_layInto _ _ _ _ _ _ e).mono (by decide)) (op_ck_sh e) rfl dX10_layInto_23 cw_X10_78 rfl (Nat.le_of_ble_eq_true rfl) ?_
      exact ow_vret (pc := 26) h dX10_layInto_26 rfl
theorem c_X10_layInto {G : ah_G}   (x0 : Nat) (x1 : Nat) (x2 : Int32) (σ : ah_H) (r : ah_H) (h : f_X10_layInto  x0 x1 x2 σ = some r) : AM G m_X10_layInto 3 0 0 [.ref x0, .ref x1, .int x2] σ (ah_rv r) := aw_enter (by decide) (Nat.le_of_ble_eq_true rfl) (c_X10_layInto_0 _ _ _ _ _ (op_ck_k h))
def f_X10_bestAvoiding_57  (K4 : Nat → Int32 → Int32 → Int32 → ah_H → Option (Int32 × ah_H)) (x0 : Nat) (x1 : Int32) (x2 : Int32) (x3 : Int32) (σ : ah_H) : Option (Int32 × ah_H) :=
  K4 x0 x1 x2 (x3 + (1 : Int32)) σ
def f_X10_bestAvoiding_55  (K4 : Nat → Int32 → Int32 → Int32 → ah_H → Option (Int32 × ah_H)) (x0 : Nat) (x1 : Int32) (x3 : Int32) (σ : ah_H) : Option (Int32 × ah_H) :=
  f_X10_bestAvoiding_57 K4 x0 x1 x3 x3 σ
def f_X10_bestAvoiding_4_b  (K4 : Nat → Int32 → Int32 → Int32 → ah_H → Option (Int32 × ah_H)) (x0 : Nat) (x1 : Int32) (x2 : Int32) (x3 : Int32) (σ : ah_H) : Option (Int32 × ah_H) :=
  (op_gR 10 6 σ x0).bind fun v1 => (op_gI 9 4 σ v1).bind fun v2 => if ((1 : Int32) <<< (v2 &&& 31)) ≤ x3 then (some (x2, σ)) else (if (x3 &&& x1) = 0 then ((op_gR 10 4 σ x0).bind fun v3 => (op_aL σ v3 x3).bind fun v4 => if (lg_cmp v4 (0 : Int64)) < 0 then (f_X10_bestAvoiding_57 K4 x0 x1 x2 x3 σ) else (if x2 = (-1 : Int32) then (f_X10_bestAvoiding_55 K4 x0 x1 x3 σ) else ((op_gR 10 4 σ x0).bind fun v5 => (op_aL σ v5 x3).bind fun v6 => (op_gR 10 4 σ x0).bind fun v7 => (op_aL σ v7 x2).bind fun v8 => if 0 ≤ (lg_cmp v6 v8) then (f_X10_bestAvoiding_57 K4 x0 x1 x2 x3 σ) else (f_X10_bestAvoiding_55 K4 x0 x1 x3 σ)))) else (f_X10_bestAvoiding_57 K4 x0 x1 x2 x3 σ))
def f_X10_bestAvoiding_4   : Nat → Nat → Int32 → Int32 → Int32 → ah_H → Option (Int32 × ah_H)
  | 0, _, _, _, _, _ => none
  | n + 1, x0, x1, x2, x3, σ => f_X10_bestAvoiding_4_b (f_X10_bestAvoiding_4 n) x0 x1 x2 x3 σ
def f_X10_bestAvoiding_0   (x0 : Nat) (x1 : Int32) (σ : ah_H) : Option (Int32 × ah_H) :=
  f_X10_bestAvoiding_4 5000 x0 x1 (-1 : Int32) (0 : Int32) σ
def f_X10_bestAvoiding  (x0 : Nat) (x1 : Int32) (σ : ah_H) : Option (Int32 × ah_H) := op_ck 10 σ x0 (f_X10_bestAvoiding_0 x0 x1 σ)
set_option maxRecDepth 100000 in
set_option maxHeartbeats 4000000 in
theorem c_X10_bestAvoiding_57 {G : ah_G}  (K4 : Nat → Int32 → Int32 → Int32 → ah_H → Option (Int32 × ah_H)) (hK4 : ∀ (x0 : Nat) (x1 : Int32) (x2 : Int32) (x3 : Int32) (σ : ah_H) (r : Int32 × ah_H), K4 x0 x1 x2 x3 σ = some r → AW G m_X10_bestAvoiding 0 0 0 4 [(0, .ref x0), (1, .int x1), (2, .int x2), (3, .int x3)] [] σ (ah_N G (ah_ri r))) : ∀ (x0 : Nat) (x1 : Int32) (x2 : Int32) (x3 : Int32) (σ : ah_H) (r : Int32 × ah_H), f_X10_bestAvoiding_57  K4 x0 x1 x2 x3 σ = some r → AW G m_X10_bestAvoiding 0 0 0 57 [(0, .ref x0), (1, .int x1), (2, .int x2), (3, .int x3)] [] σ (ah_N G (ah_ri r)) := by
  intro x0 x1 x2 x3 σ r h
  unfold f_X10_bestAvoiding_57 at h
  refine aw_iinc (pc := 57) 3 [(3, .int (x3 + (1 : Int32))), (0, .ref x0), (1, .int x1), (2, .int x2)] (x3 + (1 : Int32)) dX10_bestAvoiding_57 rfl rfl (by decide) rfl ?_
  refine aw_goto (pc := 60) 4 dX10_bestAvoiding_60 (by decide) ?_
  refine aw_sub [1, 2, 3, 0] rfl ?_
  exact hK4 _ _ _ _ _ _ h
set_option maxRecDepth 100000 in
set_option maxHeartbeats 4000000 in
theorem c_X10_bestAvoiding_55 {G : ah_G}  (K4 : Nat → Int32 → Int32 → Int32 → ah_H → Option (Int32 × ah_H)) (hK4 : ∀ (x0 : Nat) (x1 : Int32) (x2 : Int32) (x3 : Int32) (σ : ah_H) (r : Int32 × ah_H), K4 x0 x1 x2 x3 σ = some r → AW G m_X10_bestAvoiding 0 0 0 4 [(0, .ref x0), (1, .int x1), (2, .int x2), (3, .int x3)] [] σ (ah_N G (ah_ri r))) : ∀ (x0 : Nat) (x1 : Int32) (x3 : Int32) (σ : ah_H) (r : Int32 × ah_H), f_X10_bestAvoiding_55  K4 x0 x1 x3 σ = some r → AW G m_X10_bestAvoiding 0 0 0 55 [(0, .ref x0), (1, .int x1), (3, .int x3)] [] σ (ah_N G (ah_ri r)) := by
  intro x0 x1 x3 σ r h
  unfold f_X10_bestAvoiding_55 at h
  refine aw_iload_n (pc := 55) 2 dX10_bestAvoiding_55 rfl ?_
  refine aw_istore_n (pc := 56) [(2, .int x3), (0, .ref x0), (1, .int x1), (3, .int x3)] dX10_bestAvoiding_56 rfl (by decide) rfl ?_
  refine aw_sub [1, 2, 0, 3] rfl ?_
  exact c_X10_bestAvoiding_57 K4 hK4 _ _ _ _ _ _ h
set_option maxRecDepth 100000 in
set_option maxHeartbeats 4000000 in
theorem c_X10_bestAvoiding_4_b {G : ah_G}  (K4 : Nat → Int32 → Int32 → Int32 → ah_H → Option (Int32 × ah_H)) (hK4 : ∀ (x0 : Nat) (x1 : Int32) (x2 : Int32) (x3 : Int32) (σ : ah_H) (r : Int32 × ah_H), K4 x0 x1 x2 x3 σ = some r → AW G m_X10_bestAvoiding 0 0 0 4 [(0, .ref x0), (1, .int x1), (2, .int x2), (3, .int x3)] [] σ (ah_N G (ah_ri r))) : ∀ (x0 : Nat) (x1 : Int32) (x2 : Int32) (x3 : Int32) (σ : ah_H) (r : Int32 × ah_H), f_X10_bestAvoiding_4_b  K4 x0 x1 x2 x3 σ = some r → AW G m_X10_bestAvoiding 0 0 0 4 [(0, .ref x0), (1, .int x1), (2, .int x2), (3, .int x3)] [] σ (ah_N G (ah_ri r)) := by
  intro x0 x1 x2 x3 σ r h
  unfold f_X10_bestAvoiding_4_b at h
  refine aw_iload_n (pc := 4) 3 dX10_bestAvoiding_4 rfl ?_
  refine aw_iconst (pc := 5) (v := (1 : Int32)) dX10_bestAvoiding_5 (by decide) ?_
  refine aw_aload_n (pc := 6) 0 dX10_bestAvoiding_6 rfl ?_
  obtain ⟨v1, e, h⟩ := op_bd h
  refine ow_gR (pc := 7) e dX10_bestAvoiding_7 fd_X10_30 rfl ?_
  obtain ⟨v2, e, h⟩ := op_bd h
  refine ow_gI (pc := 10) e dX10_bestAvoiding_10 fd_X10_47 rfl ?_
  refine aw_ishl (pc := 13) dX10_bestAvoiding_13 ?_
  refine aw_icmp_ge (pc := 14) 63 dX10_bestAvoiding_14 (by decide) (fun z => ?_) (fun z => ?_)
  · replace h := (if_pos z).symm.trans h
    refine aw_iload_n (pc := 63) 2 dX10_bestAvoiding_63 rfl ?_
    exact ow_iret (pc := 64) h dX10_bestAvoiding_64 rfl
  · replace h := (if_neg z).symm.trans h
    refine aw_iload_n (pc := 17) 3 dX10_bestAvoiding_17 rfl ?_
    refine aw_iload_n (pc := 18) 1 dX10_bestAvoiding_18 rfl ?_
    refine aw_iand (pc := 19) dX10_bestAvoiding_19 ?_
    refine aw_if_ne (pc := 20) 57 dX10_bestAvoiding_20 (by decide) (fun z => ?_) (fun z => ?_)
    · replace h := (if_neg z).symm.trans h
      exact c_X10_bestAvoiding_57 K4 hK4 _ _ _ _ _ _ h
    · replace h := (if_pos z).symm.trans h
      refine aw_aload_n (pc := 23) 0 dX10_bestAvoiding_23 rfl ?_
      obtain ⟨v3, e, h⟩ := op_bd h
      refine ow_gR (pc := 24) e dX10_bestAvoiding_24 fd_X10_11 rfl ?_
      refine aw_iload_n (pc := 27) 3 dX10_bestAvoiding_27 rfl ?_
      obtain ⟨v4, e, h⟩ := op_bd h
      refine ow_aL (pc := 28) e dX10_bestAvoiding_28 ?_
      refine aw_lconst (pc := 29) (v := (0 : Int64)) dX10_bestAvoiding_29 (by decide) ?_
      refine aw_lcmp (pc := 30) dX10_bestAvoiding_30 ?_
      refine aw_if_lt (pc := 31) 57 dX10_bestAvoiding_31 (by decide) (fun z => ?_) (fun z => ?_)
      · replace h := (if_pos z).symm.trans h
        exact c_X10_bestAvoiding_57 K4 hK4 _ _ _ _ _ _ h
      · replace h := (if_neg z).symm.trans h
        refine aw_iload_n (pc := 34) 2 dX10_bestAvoiding_34 rfl ?_
        refine aw_iconst (pc := 35) (v := (-1 : Int32)) dX10_bestAvoiding_35 (by decide) ?_
        refine aw_icmp_eq (pc := 36) 55 dX10_bestAvoiding_36 (by decide) (fun z => ?_) (fun z => ?_)
        · replace h := (if_pos z).symm.trans h
          refine aw_sub [0, 1, 3] rfl ?_
          exact c_X10_bestAvoiding_55 K4 hK4 _ _ _ _ _ h
        · replace h := (if_neg z).symm.trans h
          refine aw_aload_n (pc := 39) 0 dX10_bestAvoiding_39 rfl ?_
          obtain ⟨v5, e, h⟩ := op_bd h
          refine ow_gR (pc := 40) e dX10_bestAvoiding_40 fd_X10_11 rfl ?_
          refine aw_iload_n (pc := 43) 3 dX10_bestAvoiding_43 rfl ?_
          obtain ⟨v6, e, h⟩ := op_bd h
          refine ow_aL (pc := 44) e dX10_bestAvoiding_44 ?_
          refine aw_aload_n (pc := 45) 0 dX10_bestAvoiding_45 rfl ?_
          obtain ⟨v7, e, h⟩ := op_bd h
          refine ow_gR (pc := 46) e dX10_bestAvoiding_46 fd_X10_11 rfl ?_
          refine aw_iload_n (pc := 49) 2 dX10_bestAvoiding_49 rfl ?_
          obtain ⟨v8, e, h⟩ := op_bd h
          refine ow_aL (pc := 50) e dX10_bestAvoiding_50 ?_
          refine aw_lcmp (pc := 51) dX10_bestAvoiding_51 ?_
          refine aw_if_ge (pc := 52) 57 dX10_bestAvoiding_52 (by decide) (fun z => ?_) (fun z => ?_)
          · replace h := (if_pos z).symm.trans h
            exact c_X10_bestAvoiding_57 K4 hK4 _ _ _ _ _ _ h
          · replace h := (if_neg z).symm.trans h
            refine aw_sub [0, 1, 3] rfl ?_
            exact c_X10_bestAvoiding_55 K4 hK4 _ _ _ _ _ h
theorem c_X10_bestAvoiding_4 {G : ah_G}   : ∀ (n : Nat) (x0 : Nat) (x1 : Int32) (x2 : Int32) (x3 : Int32) (σ : ah_H) (r : Int32 × ah_H), f_X10_bestAvoiding_4   n x0 x1 x2 x3 σ = some r → AW G m_X10_bestAvoiding 0 0 0 4 [(0, .ref x0), (1, .int x1), (2, .int x2), (3, .int x3)] [] σ (ah_N G (ah_ri r)) := by
  intro n
  induction n with
  | zero => intro x0 x1 x2 x3 σ r h; cases h
  | succ n ih => intro x0 x1 x2 x3 σ r h; exact c_X10_bestAvoiding_4_b   _ ih x0 x1 x2 x3 σ r h
set_option maxRecDepth 100000 in
set_option maxHeartbeats 4000000 in
theorem c_X10_bestAvoiding_0 {G : ah_G}   : ∀ (x0 : Nat) (x1 : Int32) (σ : ah_H) (r : Int32 × ah_H), f_X10_bestAvoiding_0   x0 x1 σ = some r → AW G m_X10_bestAvoiding 0 0 0 0 [(0, .ref x0), (1, .int x1)] [] σ (ah_N G (ah_ri r)) := by
  intro x0 x1 σ r h
  unfold f_X10_bestAvoiding_0 at h
  refine aw_iconst (pc := 0) (v := (-1 : Int32)) dX10_bestAvoiding_0 (by decide) ?_
  refine aw_istore_n (pc := 1) [(2, .int (-1 : Int32)), (0, .ref x0), (1, .int x1)] dX10_bestAvoiding_1 rfl (by decide) rfl ?_
  refine aw_iconst (pc := 2) (v := (0 : Int32)) dX10_bestAvoiding_2 (by decide) ?_
  refine aw_istore_n (pc := 3) [(3, .int (0 : Int32)), (2, .int (-1 : Int32)), (0, .ref x0), (1, .int x1)] dX10_bestAvoiding_3 rfl (by decide) rfl ?_
  refine aw_sub [2, 3, 1, 0] rfl ?_
  exact c_X10_bestAvoiding_4  _ _ _ _ _ _ _ h
theorem c_X10_bestAvoiding {G : ah_G}   (x0 : Nat) (x1 : Int32) (σ : ah_H) (r : Int32 × ah_H) (h : f_X10_bestAvoiding  x0 x1 σ = some r) : AM G m_X10_bestAvoiding 0 0 0 [.ref x0, .int x1] σ (ah_ri r) := aw_enter (by decide) (Nat.le_of_ble_eq_true rfl) (c_X10_bestAvoiding_0 _ _ _ _ (op_ck_k h))
