def f_X12_noNames_2_b  (K2 : Nat → Int32 → ah_H → Option (ah_H)) (x0 : Nat) (x1 : Int32) (σ : ah_H) : Option (ah_H) :=
  if (6 : Int32) ≤ x1 then (some σ) else ((op_gR 12 35 σ x0).bind fun v1 => (op_sL σ v1 x1 (0 : Int64)).bind fun σ2 => K2 x0 (x1 + (1 : Int32)) σ2)
def f_X12_noNames_2   : Nat → Nat → Int32 → ah_H → Option (ah_H)
  | 0, _, _, _ => none
  | n + 1, x0, x1, σ => f_X12_noNames_2_b (f_X12_noNames_2 n) x0 x1 σ
def f_X12_noNames_0   (x0 : Nat) (σ : ah_H) : Option (ah_H) :=
  f_X12_noNames_2 5000 x0 (0 : Int32) σ
def f_X12_noNames  (x0 : Nat) (σ : ah_H) : Option (ah_H) := op_ck 12 σ x0 (f_X12_noNames_0 x0 σ)
set_option maxRecDepth 100000 in
set_option maxHeartbeats 4000000 in
theorem c_X12_noNames_2_b {G : ah_G}  (K2 : Nat → Int32 → ah_H → Option (ah_H)) (hK2 : ∀ (x0 : Nat) (x1 : Int32) (σ : ah_H) (r : ah_H), K2 x0 x1 σ = some r → AW G m_X12_noNames 0 0 0 2 [(0, .ref x0), (1, .int x1)] [] σ (ah_N G (ah_rv r))) : ∀ (x0 : Nat) (x1 : Int32) (σ : ah_H) (r : ah_H), f_X12_noNames_2_b  K2 x0 x1 σ = some r → AW G m_X12_noNames 0 0 0 2 [(0, .ref x0), (1, .int x1)] [] σ (ah_N G (ah_rv r)) := by
  intro x0 x1 σ r h
  unfold f_X12_noNames_2_b at h
  refine aw_iload_n (pc := 2) 1 dX12_noNames_2 rfl ?_
  refine aw_bipush (pc := 3) (v := (6 : Int32)) dX12_noNames_3 (by decide) ?_
  refine aw_icmp_ge (pc := 5) 21 dX12_noNames_5 (by decide) (fun z => ?_) (fun z => ?_)
  · replace h := (if_pos z).symm.trans h
    exact ow_vret (pc := 21) h dX12_noNames_21 rfl
  · replace h := (if_neg z).symm.trans h
    refine aw_aload_n (pc := 8) 0 dX12_noNames_8 rfl ?_
    obtain ⟨v1, e, h⟩ := op_bd h
    refine ow_gR (pc := 9) e dX12_noNames_9 fd_X12_76 rfl ?_
    refine aw_iload_n (pc := 12) 1 dX12_noNames_12 rfl ?_
    refine aw_lconst (pc := 13) (v := (0 : Int64)) dX12_noNames_13 (by decide) ?_
    obtain ⟨σ2, e, h⟩ := op_bd h
    refine ow_sL (pc := 14) e dX12_noNames_14 ?_
    refine aw_iinc (pc := 15) 1 [(1, .int (x1 + (1 : Int32))), (0, .ref x0)] (x1 + (1 : Int32)) dX12_noNames_15 rfl rfl (by decide) rfl ?_
    refine aw_goto (pc := 18) 2 dX12_noNames_18 (by decide) ?_
    refine aw_sub [1, 0] rfl ?_
    exact hK2 _ _ _ _ h
theorem c_X12_noNames_2 {G : ah_G}   : ∀ (n : Nat) (x0 : Nat) (x1 : Int32) (σ : ah_H) (r : ah_H), f_X12_noNames_2   n x0 x1 σ = some r → AW G m_X12_noNames 0 0 0 2 [(0, .ref x0), (1, .int x1)] [] σ (ah_N G (ah_rv r)) := by
  intro n
  induction n with
  | zero => intro x0 x1 σ r h; cases h
  | succ n ih => intro x0 x1 σ r h; exact c_X12_noNames_2_b   _ ih x0 x1 σ r h
set_option maxRecDepth 100000 in
set_option maxHeartbeats 4000000 in
theorem c_X12_noNames_0 {G : ah_G}   : ∀ (x0 : Nat) (σ : ah_H) (r : ah_H), f_X12_noNames_0   x0 σ = some r → AW G m_X12_noNames 0 0 0 0 [(0, .ref x0)] [] σ (ah_N G (ah_rv r)) := by
  intro x0 σ r h
  unfold f_X12_noNames_0 at h
  refine aw_iconst (pc := 0) (v := (0 : Int32)) dX12_noNames_0 (by decide) ?_
  refine aw_istore_n (pc := 1) [(1, .int (0 : Int32)), (0, .ref x0)] dX12_noNames_1 rfl (by decide) rfl ?_
  refine aw_sub [1, 0] rfl ?_
  exact c_X12_noNames_2  _ _ _ _ _ h
theorem c_X12_noNames {G : ah_G}   (x0 : Nat) (σ : ah_H) (r : ah_H) (h : f_X12_noNames  x0 σ = some r) : AM G m_X12_noNames 0 0 0 [.ref x0] σ (ah_rv r) := aw_enter (by decide) (Nat.le_of_ble_eq_true rfl) (c_X12_noNames_0 _ _ _ (op_ck_k h))
def f_X12_hasLaw_0   (x0 : Nat) (x1 : Int32) (σ : ah_H) : Option (Int32 × ah_H) :=
  (op_gR 12 19 σ x0).bind fun v1 => (op_aI σ v1 x1).bind fun v2 => (op_gR 12 18 σ x0).bind fun v3 => (op_aI σ v3 x1).bind fun v4 => if v2 ≤ v4 then ((op_rz (0 : Int32)).map fun q => (q, σ)) else ((op_rz (1 : Int32)).map fun q => (q, σ))
def f_X12_hasLaw  (x0 : Nat) (x1 : Int32) (σ : ah_H) : Option (Int32 × ah_H) := op_ck 12 σ x0 (f_X12_hasLaw_0 x0 x1 σ)
set_option maxRecDepth 100000 in
set_option maxHeartbeats 4000000 in
theorem c_X12_hasLaw_0 {G : ah_G}   : ∀ (x0 : Nat) (x1 : Int32) (σ : ah_H) (r : Int32 × ah_H), f_X12_hasLaw_0   x0 x1 σ = some r → AW G m_X12_hasLaw 0 0 0 0 [(0, .ref x0), (1, .int x1)] [] σ (ah_N G (ah_ri r)) := by
  intro x0 x1 σ r h
  unfold f_X12_hasLaw_0 at h
  refine aw_aload_n (pc := 0) 0 dX12_hasLaw_0 rfl ?_
  obtain ⟨v1, e, h⟩ := op_bd h
  refine ow_gR (pc := 1) e dX12_hasLaw_1 fd_X12_63 rfl ?_
  refine aw_iload_n (pc := 4) 1 dX12_hasLaw_4 rfl ?_
  obtain ⟨v2, e, h⟩ := op_bd h
  refine ow_aI (pc := 5) e dX12_hasLaw_5 ?_
  refine aw_aload_n (pc := 6) 0 dX12_hasLaw_6 rfl ?_
  obtain ⟨v3, e, h⟩ := op_bd h
  refine ow_gR (pc := 7) e dX12_hasLaw_7 fd_X12_60 rfl ?_
  refine aw_iload_n (pc := 10) 1 dX12_hasLaw_10 rfl ?_
  obtain ⟨v4, e, h⟩ := op_bd h
  refine ow_aI (pc := 11) e dX12_hasLaw_11 ?_
  refine aw_icmp_le (pc := 12) 19 dX12_hasLaw_12 (by decide) (fun z => ?_) (fun z => ?_)
  · replace h := (if_pos z).symm.trans h
    refine aw_iconst (pc := 19) (v := (0 : Int32)) dX12_hasLaw_19 (by decide) ?_
    exact ow_zret (pc := 20) h dX12_hasLaw_20 rfl
  · replace h := (if_neg z).symm.trans h
    refine aw_iconst (pc := 15) (v := (1 : Int32)) dX12_hasLaw_15 (by decide) ?_
    refine aw_goto (pc := 16) 20 dX12_hasLaw_16 (by decide) ?_
    exact ow_zret (pc := 20) h dX12_hasLaw_20 rfl
theorem c_X12_hasLaw {G : ah_G}   (x0 : Nat) (x1 : Int32) (σ : ah_H) (r : Int32 × ah_H) (h : f_X12_hasLaw  x0 x1 σ = some r) : AM G m_X12_hasLaw 0 0 0 [.ref x0, .int x1] σ (ah_ri r) := aw_enter (by decide) (Nat.le_of_ble_eq_true rfl) (c_X12_hasLaw_0 _ _ _ _ (op_ck_k h))
def f_X12_law_103  (K13 : Nat → Int32 → Int64 → Int32 → ah_H → Option (Int64 × ah_H)) (x0 : Nat) (x1 : Int32) (x2 : Int64) (x4 : Int32) (σ : ah_H) : Option (Int64 × ah_H) :=
  K13 x0 x1 x2 (x4 + (1 : Int32)) σ
def f_X12_law_92  (K13 : Nat → Int32 → Int64 → Int32 → ah_H → Option (Int64 × ah_H)) (x0 : Nat) (x1 : Int32) (x2 : Int64) (x4 : Int32) (s0 : Nat) (s1 : Int32) (s2 : Int64) (σ : ah_H) : Option (Int64 × ah_H) :=
  (op_sL σ s0 s1 s2).bind fun σ1 => (op_gI 12 37 σ1 x0).bind fun v2 => (op_pI 12 37 σ1 x0 (v2 + (1 : Int32))).bind fun σ3 => f_X12_law_103 K13 x0 x1 x2 x4 σ3
def f_X12_law_109   (x0 : Nat) (σ : ah_H) : Option (Int64 × ah_H) :=
  (op_gR 12 36 σ x0).bind fun v1 => (op_aL σ v1 (0 : Int32)).bind fun v2 => some ((op_maxl (0 : Int64) v2), σ)
def f_X12_law_13_b  (K13 : Nat → Int32 → Int64 → Int32 → ah_H → Option (Int64 × ah_H)) (x0 : Nat) (x1 : Int32) (x2 : Int64) (x4 : Int32) (σ : ah_H) : Option (Int64 × ah_H) :=
  (op_gR 12 19 σ x0).bind fun v1 => (op_aI σ v1 x1).bind fun v2 => if v2 ≤ x4 then (f_X12_law_109 x0 σ) else ((op_gR 12 20 σ x0).bind fun v3 => (op_aI σ v3 x4).bind fun v4 => if v4 = (2 : Int32) then ((op_gR 12 21 σ x0).bind fun v15 => (op_aI σ v15 x4).bind fun v16 => (f_X12_works x0 v16 σ).bind fun r17 => if r17.1 = 0 then (some (x2, r17.2)) else (f_X12_law_103 K13 x0 x1 x2 x4 r17.2)) else ((op_gR 12 36 σ x0).bind fun v5 => (op_gI 12 37 σ x0).bind fun v6 => (op_gR 12 20 σ x0).bind fun v7 => (op_aI σ v7 x4).bind fun v8 => if v8 = 0 then ((op_gR 12 21 σ x0).bind fun v13 => (op_aI σ v13 x4).bind fun v14 => f_X12_law_92 K13 x0 x1 x2 x4 v5 v6 (Int32.toInt64 v14) σ) else ((op_gR 12 35 σ x0).bind fun v9 => (op_gR 12 21 σ x0).bind fun v10 => (op_aI σ v10 x4).bind fun v11 => (op_aL σ v9 v11).bind fun v12 => f_X12_law_92 K13 x0 x1 x2 x4 v5 v6 v12 σ)))
def f_X12_law_13   : Nat → Nat → Int32 → Int64 → Int32 → ah_H → Option (Int64 × ah_H)
  | 0, _, _, _, _, _ => none
  | n + 1, x0, x1, x2, x4, σ => f_X12_law_13_b (f_X12_law_13 n) x0 x1 x2 x4 σ
def f_X12_law_0   (x0 : Nat) (x1 : Int32) (x2 : Int64) (σ : ah_H) : Option (Int64 × ah_H) :=
  (op_pI 12 37 σ x0 (0 : Int32)).bind fun σ1 => (op_gR 12 18 σ1 x0).bind fun v2 => (op_aI σ1 v2 x1).bind fun v3 => f_X12_law_13 5000 x0 x1 x2 v3 σ1
def f_X12_law  (x0 : Nat) (x1 : Int32) (x2 : Int64) (σ : ah_H) : Option (Int64 × ah_H) := op_ck 12 σ x0 (f_X12_law_0 x0 x1 x2 σ)
set_option maxRecDepth 100000 in
set_option maxHeartbeats 4000000 in
theorem c_X12_law_103 {G : ah_G}  (K13 : Nat → Int32 → Int64 → Int32 → ah_H → Option (Int64 × ah_H)) (hK13 : ∀ (x0 : Nat) (x1 : Int32) (x2 : Int64) (x4 : Int32) (σ : ah_H) (r : Int64 × ah_H), K13 x0 x1 x2 x4 σ = some r → AW G m_X12_law 2 0 0 13 [(0, .ref x0), (1, .int x1), (2, .long x2), (4, .int x4)] [] σ (ah_N G (ah_rl r))) : ∀ (x0 : Nat) (x1 : Int32) (x2 : Int64) (x4 : Int32) (σ : ah_H) (r : Int64 × ah_H), f_X12_law_103  K13 x0 x1 x2 x4 σ = some r → AW G m_X12_law 2 0 0 103 [(0, .ref x0), (1, .int x1), (2, .long x2), (4, .int x4)] [] σ (ah_N G (ah_rl r)) := by
  intro x0 x1 x2 x4 σ r h
  unfold f_X12_law_103 at h
  refine aw_iinc (pc := 103) 3 [(4, .int (x4 + (1 : Int32))), (0, .ref x0), (1, .int x1), (2, .long x2)] (x4 + (1 : Int32)) dX12_law_103 rfl rfl (by decide) rfl ?_
  refine aw_goto (pc := 106) 13 dX12_law_106 (by decide) ?_
  refine aw_sub [1, 2, 3, 0] rfl ?_
  exact hK13 _ _ _ _ _ _ h
set_option maxRecDepth 100000 in
set_option maxHeartbeats 4000000 in
theorem c_X12_law_92 {G : ah_G}  (K13 : Nat → Int32 → Int64 → Int32 → ah_H → Option (Int64 × ah_H)) (hK13 : ∀ (x0 : Nat) (x1 : Int32) (x2 : Int64) (x4 : Int32) (σ : ah_H) (r : Int64 × ah_H), K13 x0 x1 x2 x4 σ = some r → AW G m_X12_law 2 0 0 13 [(0, .ref x0), (1, .int x1), (2, .long x2), (4, .int x4)] [] σ (ah_N G (ah_rl r))) : ∀ (x0 : Nat) (x1 : Int32) (x2 : Int64) (x4 : Int32) (s0 : Nat) (s1 : Int32) (s2 : Int64) (σ : ah_H) (r : Int64 × ah_H), f_X12_law_92  K13 x0 x1 x2 x4 s0 s1 s2 σ = some r → AW G m_X12_law 2 0 0 92 [(0, .ref x0), (1, .int x1), (2, .long x2), (4, .int x4)] [.long s2, .int s1, .ref s0] σ (ah_N G (ah_rl r)) := by
  intro x0 x1 x2 x4 s0 s1 s2 σ r h
  unfold f_X12_law_92 at h
  obtain ⟨σ1, e, h⟩ := op_bd h
  refine ow_sL (pc := 92) e dX12_law_92 ?_
  refine aw_aload_n (pc := 93) 0 dX12_law_93 rfl ?_
  refine aw_dup (pc := 94) dX12_law_94 rfl ?_
  obtain ⟨v2, e, h⟩ := op_bd h
  refine ow_gI (pc := 95) e dX12_law_95 fd_X12_333 rfl ?_
  refine aw_iconst (pc := 98) (v := (1 : Int32)) dX12_law_98 (by decide) ?_
  refine aw_iadd (pc := 99) dX12_law_99 ?_
  obtain ⟨σ3, e, h⟩ := op_bd h
  refine ow_pI (pc := 100) e dX12_law_100 fd_X12_333 ?_
  exact c_X12_law_103 K13 hK13 _ _ _ _ _ _ h
set_option maxRecDepth 100000 in
set_option maxHeartbeats 4000000 in
theorem c_X12_law_109 {G : ah_G}   : ∀ (x0 : Nat) (σ : ah_H) (r : Int64 × ah_H), f_X12_law_109   x0 σ = some r → AW G m_X12_law 2 0 0 109 [(0, .ref x0)] [] σ (ah_N G (ah_rl r)) := by
  intro x0 σ r h
  unfold f_X12_law_109 at h
  refine aw_lconst (pc := 109) (v := (0 : Int64)) dX12_law_109 (by decide) ?_
  refine aw_aload_n (pc := 110) 0 dX12_law_110 rfl ?_
  obtain ⟨v1, e, h⟩ := op_bd h
  refine ow_gR (pc := 111) e dX12_law_111 fd_X12_80 rfl ?_
  refine aw_iconst (pc := 114) (v := (0 : Int32)) dX12_law_114 (by decide) ?_
  obtain ⟨v2, e, h⟩ := op_bd h
  refine ow_aL (pc := 115) e dX12_law_115 ?_
  refine ow_maxl (pc := 116) dX12_law_116 mt_X12_353 (Nat.le_of_ble_eq_true rfl) ?_
  exact ow_lret (pc := 119) h dX12_law_119 rfl
set_option maxRecDepth 100000 in
set_option maxHeartbeats 4000000 in
theorem c_X12_law_13_b {G : ah_G}  (K13 : Nat → Int32 → Int64 → Int32 → ah_H → Option (Int64 × ah_H)) (hK13 : ∀ (x0 : Nat) (x1 : Int32) (x2 : Int64) (x4 : Int32) (σ : ah_H) (r : Int64 × ah_H), K13 x0 x1 x2 x4 σ = some r → AW G m_X12_law 2 0 0 13 [(0, .ref x0), (1, .int x1), (2, .long x2), (4, .int x4)] [] σ (ah_N G (ah_rl r))) : ∀ (x0 : Nat) (x1 : Int32) (x2 : Int64) (x4 : Int32) (σ : ah_H) (r : Int64 × ah_H), f_X12_law_13_b  K13 x0 x1 x2 x4 σ = some r → AW G m_X12_law 2 0 0 13 [(0, .ref x0), (1, .int x1), (2, .long x2), (4, .int x4)] [] σ (ah_N G (ah_rl r)) := by
  intro x0 x1 x2 x4 σ r h
  unfold f_X12_law_13_b at h
  refine aw_iload (pc := 13) 3 dX12_law_13 rfl ?_
  refine aw_aload_n (pc := 15) 0 dX12_law_15 rfl ?_
  obtain ⟨v1, e, h⟩ := op_bd h
  refine ow_gR (pc := 16) e dX12_law_16 fd_X12_63 rfl ?_
  refine aw_iload_n (pc := 19) 1 dX12_law_19 rfl ?_
  obtain ⟨v2, e, h⟩ := op_bd h
  refine ow_aI (pc := 20) e dX12_law_20 ?_
  refine aw_icmp_ge (pc := 21) 109 dX12_law_21 (by decide) (fun z => ?_) (fun z => ?_)
  · replace h := (if_pos z).symm.trans h
    refine aw_sub [0] rfl ?_
    exact c_X12_law_109  _ _ _ h
  · replace h := (if_neg z).symm.trans h
    refine aw_aload_n (pc := 24) 0 dX12_law_24 rfl ?_
    obtain ⟨v3, e, h⟩ := op_bd h
    refine ow_gR (pc := 25) e dX12_law_25 fd_X12_66 rfl ?_
    refine aw_iload (pc := 28) 3 dX12_law_28 rfl ?_
    obtain ⟨v4, e, h⟩ := op_bd h
    refine ow_aI (pc := 30) e dX12_law_30 ?_
    refine aw_iconst (pc := 31) (v := (2 : Int32)) dX12_law_31 (by decide) ?_
    refine aw_icmp_ne (pc := 32) 51 dX12_law_32 (by decide) (fun z => ?_) (fun z => ?_)
    · replace h := (if_neg z).symm.trans h
      refine aw_aload_n (pc := 51) 0 dX12_law_51 rfl ?_
      obtain ⟨v5, e, h⟩ := op_bd h
      refine ow_gR (pc := 52) e dX12_law_52 fd_X12_80 rfl ?_
      refine aw_aload_n (pc := 55) 0 dX12_law_55 rfl ?_
      obtain ⟨v6, e, h⟩ := op_bd h
      refine ow_gI (pc := 56) e dX12_law_56 fd_X12_333 rfl ?_
      refine aw_aload_n (pc := 59) 0 dX12_law_59 rfl ?_
      obtain ⟨v7, e, h⟩ := op_bd h
      refine ow_gR (pc := 60) e dX12_law_60 fd_X12_66 rfl ?_
      refine aw_iload (pc := 63) 3 dX12_law_63 rfl ?_
      obtain ⟨v8, e, h⟩ := op_bd h
      refine ow_aI (pc := 65) e dX12_law_65 ?_
      refine aw_if_ne (pc := 66) 80 dX12_law_66 (by decide) (fun z => ?_) (fun z => ?_)
      · replace h := (if_neg z).symm.trans h
        refine aw_aload_n (pc := 80) 0 dX12_law_80 rfl ?_
        obtain ⟨v9, e, h⟩ := op_bd h
        refine ow_gR (pc := 81) e dX12_law_81 fd_X12_76 rfl ?_
        refine aw_aload_n (pc := 84) 0 dX12_law_84 rfl ?_
        obtain ⟨v10, e, h⟩ := op_bd h
        refine ow_gR (pc := 85) e dX12_law_85 fd_X12_69 rfl ?_
        refine aw_iload (pc := 88) 3 dX12_law_88 rfl ?_
        obtain ⟨v11, e, h⟩ := op_bd h
        refine ow_aI (pc := 90) e dX12_law_90 ?_
        obtain ⟨v12, e, h⟩ := op_bd h
        refine ow_aL (pc := 91) e dX12_law_91 ?_
        exact c_X12_law_92 K13 hK13 _ _ _ _ _ _ _ _ _ h
      · replace h := (if_pos z).symm.trans h
        refine aw_aload_n (pc := 69) 0 dX12_law_69 rfl ?_
        obtain ⟨v13, e, h⟩ := op_bd h
        refine ow_gR (pc := 70) e dX12_law_70 fd_X12_69 rfl ?_
        refine aw_iload (pc := 73) 3 dX12_law_73 rfl ?_
        obtain ⟨v14, e, h⟩ := op_bd h
        refine ow_aI (pc := 75) e dX12_law_75 ?_
        refine aw_i2l (pc := 76) dX12_law_76 ?_
        refine aw_goto (pc := 77) 92 dX12_law_77 (by decide) ?_
        exact c_X12_law_92 K13 hK13 _ _ _ _ _ _ _ _ _ h
    · replace h := (if_pos z).symm.trans h
      refine aw_aload_n (pc := 35) 0 dX12_law_35 rfl ?_
      refine aw_aload_n (pc := 36) 0 dX12_law_36 rfl ?_
      obtain ⟨v15, e, h⟩ := op_bd h
      refine ow_gR (pc := 37) e dX12_law_37 fd_X12_69 rfl ?_
      refine aw_iload (pc := 40) 3 dX12_law_40 rfl ?_
      obtain ⟨v16, e, h⟩ := op_bd h
      refine ow_aI (pc := 42) e dX12_law_42 ?_
      obtain ⟨r17, e, h⟩ := op_bd h
      refine ow_cVi (pc := 43) [.int v16] ((c_X12_works _ _ _ _ e).mono (by decide)) (op_ck_sh e) rfl dX12_law_43 cw_X12_350 rfl (Nat.le_of_ble_eq_true rfl) ?_
      refine aw_if_ne (pc := 46) 103 dX12_law_46 (by decide) (fun z => ?_) (fun z => ?_)
      · replace h := (if_neg z).symm.trans h
        exact c_X12_law_103 K13 hK13 _ _ _ _ _ _ h
      · replace h := (if_pos z).symm.trans h
        refine aw_lload_n (pc := 49) 2 dX12_law_49 rfl ?_
        exact ow_lret (pc := 50) h dX12_law_50 rfl
theorem c_X12_law_13 {G : ah_G}   : ∀ (n : Nat) (x0 : Nat) (x1 : Int32) (x2 : Int64) (x4 : Int32) (σ : ah_H) (r : Int64 × ah_H), f_X12_law_13   n x0 x1 x2 x4 σ = some r → AW G m_X12_law 2 0 0 13 [(0, .ref x0), (1, .int x1), (2, .long x2), (4, .int x4)] [] σ (ah_N G (ah_rl r)) := by
  intro n
  induction n with
  | zero => intro x0 x1 x2 x4 σ r h; cases h
  | succ n ih => intro x0 x1 x2 x4 σ r h; exact c_X12_law_13_b   _ ih x0 x1 x2 x4 σ r h
set_option maxRecDepth 100000 in
set_option maxHeartbeats 4000000 in
theorem c_X12_law_0 {G : ah_G}   : ∀ (x0 : Nat) (x1 : Int32) (x2 : Int64) (σ : ah_H) (r : Int64 × ah_H), f_X12_law_0   x0 x1 x2 σ = some r → AW G m_X12_law 2 0 0 0 [(0, .ref x0), (1, .int x1), (2, .long x2)] [] σ (ah_N G (ah_rl r)) := by
  intro x0 x1 x2 σ r h
  unfold f_X12_law_0 at h
  refine aw_aload_n (pc := 0) 0 dX12_law_0 rfl ?_
  refine aw_iconst (pc := 1) (v := (0 : Int32)) dX12_law_1 (by decide) ?_
  obtain ⟨σ1, e, h⟩ := op_bd h
  refine ow_pI (pc := 2) e dX12_law_2 fd_X12_333 ?_
  refine aw_aload_n (pc := 5) 0 dX12_law_5 rfl ?_
  obtain ⟨v2, e, h⟩ := op_bd h
  refine ow_gR (pc := 6) e dX12_law_6 fd_X12_60 rfl ?_
  refine aw_iload_n (pc := 9) 1 dX12_law_9 rfl ?_
  obtain ⟨v3, e, h⟩ := op_bd h
  refine ow_aI (pc := 10) e dX12_law_10 ?_
  refine aw_istore (pc := 11) [(4, .int v3), (0, .ref x0), (1, .int x1), (2, .long x2)] dX12_law_11 (by decide) rfl ?_
  refine aw_sub [1, 2, 3, 0] rfl ?_
  exact c_X12_law_13  _ _ _ _ _ _ _ h
theorem c_X12_law {G : ah_G}   (x0 : Nat) (x1 : Int32) (x2 : Int64) (σ : ah_H) (r : Int64 × ah_H) (h : f_X12_law  x0 x1 x2 σ = some r) : AM G m_X12_law 2 0 0 [.ref x0, .int x1, .long x2] σ (ah_rl r) := aw_enter (by decide) (Nat.le_of_ble_eq_true rfl) (c_X12_law_0 _ _ _ _ _ (op_ck_k h))
def f_X12_carriesBy_0   (x0 : Nat) (x1 : Int32) (x2 : Int32) (x3 : Int32) (σ : ah_H) : Option (Int64 × ah_H) :=
  (f_X12_noNames x0 σ).bind fun r1 => (op_gR 12 35 r1 x0).bind fun v2 => (op_gR 12 13 r1 x0).bind fun v3 => (op_aI r1 v3 x1).bind fun v4 => (op_sL r1 v2 (0 : Int32) (Int32.toInt64 v4)).bind fun σ5 => (op_gR 12 35 σ5 x0).bind fun v6 => (op_gR 12 10 σ5 x0).bind fun v7 => (op_aI σ5 v7 x2).bind fun v8 => (op_div x3 v8).bind fun v9 => (op_sL σ5 v6 (1 : Int32) (Int32.toInt64 v9)).bind fun σ10 => (f_X12_hasLaw x0 (0 : Int32) σ10).bind fun r11 => if r11.1 = 0 then ((op_gR 12 35 r11.2 x0).bind fun v12 => (op_aL r11.2 v12 (0 : Int32)).bind fun v13 => (op_gR 12 35 r11.2 x0).bind fun v14 => (op_aL r11.2 v14 (1 : Int32)).bind fun v15 => some ((op_maxl (0 : Int64) (v13 * v15)), r11.2)) else ((f_X12_law x0 (0 : Int32) (0 : Int64) r11.2).bind fun r16 => some (r16.1, r16.2))
def f_X12_carriesBy  (x0 : Nat) (x1 : Int32) (x2 : Int32) (x3 : Int32) (σ : ah_H) : Option (Int64 × ah_H) := op_ck 12 σ x0 (f_X12_carriesBy_0 x0 x1 x2 x3 σ)
set_option maxRecDepth 100000 in
set_option maxHeartbeats 4000000 in
theorem c_X12_carriesBy_0 {G : ah_G}   : ∀ (x0 : Nat) (x1 : Int32) (x2 : Int32) (x3 : Int32) (σ : ah_H) (r : Int64 × ah_H), f_X12_carriesBy_0   x0 x1 x2 x3 σ = some r → AW G m_X12_carriesBy 3 0 0 0 [(0, .ref x0), (1, .int x1), (2, .int x2), (3, .int x3)] [] σ (ah_N G (ah_rl r)) := by
  intro x0 x1 x2 x3 σ r h
  unfold f_X12_carriesBy_0 at h
  refine aw_aload_n (pc := 0) 0 dX12_carriesBy_0 rfl ?_
  obtain ⟨r1, e, h⟩ := op_bd h
  refine ow_cVv (pc := 1) [] ((c_X12_noNames _ _ _ e).mono (by decide)) (op_ck_sh e) rfl dX12_carriesBy_1 cw_X12_357 rfl (Nat.le_of_ble_eq_true rfl) ?_
  refine aw_aload_n (pc := 4) 0 dX12_carriesBy_4 rfl ?_
  obtain ⟨v2, e, h⟩ := op_bd h
  refine ow_gR (pc := 5) e dX12_carriesBy_5 fd_X12_76 rfl ?_
  refine aw_iconst (pc := 8) (v := (0 : Int32)) dX12_carriesBy_8 (by decide) ?_
  refine aw_aload_n (pc := 9) 0 dX12_carriesBy_9 rfl ?_
  obtain ⟨v3, e, h⟩ := op_bd h
  refine ow_gR (pc := 10) e dX12_carriesBy_10 fd_X12_45 rfl ?_
  refine aw_iload_n (pc := 13) 1 dX12_carriesBy_13 rfl ?_
  obtain ⟨v4, e, h⟩ := op_bd h
  refine ow_aI (pc := 14) e dX12_carriesBy_14 ?_
  refine aw_i2l (pc := 15) dX12_carriesBy_15 ?_
  obtain ⟨σ5, e, h⟩ := op_bd h
  refine ow_sL (pc := 16) e dX12_carriesBy_16 ?_
  refine aw_aload_n (pc := 17) 0 dX12_carriesBy_17 rfl ?_
  obtain ⟨v6, e, h⟩ := op_bd h
  refine ow_gR (pc := 18) e dX12_carriesBy_18 fd_X12_76 rfl ?_
  refine aw_iconst (pc := 21) (v := (1 : Int32)) dX12_carriesBy_21 (by decide) ?_
  refine aw_iload_n (pc := 22) 3 dX12_carriesBy_22 rfl ?_
  refine aw_aload_n (pc := 23) 0 dX12_carriesBy_23 rfl ?_
  obtain ⟨v7, e, h⟩ := op_bd h
  refine ow_gR (pc := 24) e dX12_carriesBy_24 fd_X12_36 rfl ?_
  refine aw_iload_n (pc := 27) 2 dX12_carriesBy_27 rfl ?_
  obtain ⟨v8, e, h⟩ := op_bd h
  refine ow_aI (pc := 28) e dX12_carriesBy_28 ?_
  obtain ⟨v9, e, h⟩ := op_bd h
  refine ow_div (pc := 29) e dX12_carriesBy_29 ?_
  refine aw_i2l (pc := 30) dX12_carriesBy_30 ?_
  obtain ⟨σ10, e, h⟩ := op_bd h
  refine ow_sL (pc := 31) e dX12_carriesBy_31 ?_
  refine aw_aload_n (pc := 32) 0 dX12_carriesBy_32 rfl ?_
  refine aw_iconst (pc := 33) (v := (0 : Int32)) dX12_carriesBy_33 (by decide) ?_
  obtain ⟨r11, e, h⟩ := op_bd h
  refine ow_cVi (pc := 34) [.int (0 : Int32)] ((c_X12_hasLaw _ _ _ _ e).mono (by decide)) (op_ck_sh e) rfl dX12_carriesBy_34 cw_X12_360 rfl (Nat.le_of_ble_eq_true rfl) ?_
  refine aw_if_eq (pc := 37) 49 dX12_carriesBy_37 (by decide) (fun z => ?_) (fun z => ?_)
  · replace h := (if_pos z).symm.trans h
    refine aw_lconst (pc := 49) (v := (0 : Int64)) dX12_carriesBy_49 (by decide) ?_
    refine aw_aload_n (pc := 50) 0 dX12_carriesBy_50 rfl ?_
    obtain ⟨v12, e, h⟩ := op_bd h
    refine ow_gR (pc := 51) e dX12_carriesBy_51 fd_X12_76 rfl ?_
    refine aw_iconst (pc := 54) (v := (0 : Int32)) dX12_carriesBy_54 (by decide) ?_
    obtain ⟨v13, e, h⟩ := op_bd h
    refine ow_aL (pc := 55) e dX12_carriesBy_55 ?_
    refine aw_aload_n (pc := 56) 0 dX12_carriesBy_56 rfl ?_
    obtain ⟨v14, e, h⟩ := op_bd h
    refine ow_gR (pc := 57) e dX12_carriesBy_57 fd_X12_76 rfl ?_
    refine aw_iconst (pc := 60) (v := (1 : Int32)) dX12_carriesBy_60 (by decide) ?_
    obtain ⟨v15, e, h⟩ := op_bd h
    refine ow_aL (pc := 61) e dX12_carriesBy_61 ?_
    refine aw_lmul (pc := 62) dX12_carriesBy_62 ?_
    refine ow_maxl (pc := 63) dX12_carriesBy_63 mt_X12_353 (Nat.le_of_ble_eq_true rfl) ?_
    exact ow_lret (pc := 66) h dX12_carriesBy_66 rfl
  · replace h := (if_neg z).symm.trans h
    refine aw_aload_n (pc := 40) 0 dX12_carriesBy_40 rfl ?_
    refine aw_iconst (pc := 41) (v := (0 : Int32)) dX12_carriesBy_41 (by decide) ?_
    refine aw_lconst (pc := 42) (v := (0 : Int64)) dX12_carriesBy_42 (by decide) ?_
    obtain ⟨r16, e, h⟩ := op_bd h
    refine ow_cVl (pc := 43) [.int (0 : Int32), .long (0 : Int64)] ((c_X12_law _ _ _ _ _ e).mono (by decide)) (op_ck_sh e) rfl dX12_carriesBy_43 cw_X12_363 rfl (Nat.le_of_ble_eq_true rfl) ?_
    refine aw_goto (pc := 46) 66 dX12_carriesBy_46 (by decide) ?_
    exact ow_lret (pc := 66) h dX12_carriesBy_66 rfl
theorem c_X12_carriesBy {G : ah_G}   (x0 : Nat) (x1 : Int32) (x2 : Int32) (x3 : Int32) (σ : ah_H) (r : Int64 × ah_H) (h : f_X12_carriesBy  x0 x1 x2 x3 σ = some r) : AM G m_X12_carriesBy 3 0 0 [.ref x0, .int x1, .int x2, .int x3] σ (ah_rl r) := aw_enter (by decide) (Nat.le_of_ble_eq_true rfl) (c_X12_carriesBy_0 _ _ _ _ _ _ (op_ck_k h))
def f_X12_costBy_0   (x0 : Nat) (x1 : Int32) (x2 : Int32) (x3 : Int32) (x4 : Int32) (x5 : Int32) (σ : ah_H) : Option (Int64 × ah_H) :=
  (f_X12_noNames x0 σ).bind fun r1 => (op_div (x4 + x5) (2 : Int32)).bind fun v2 => (op_gR 12 35 r1 x0).bind fun v3 => (op_gR 12 13 r1 x0).bind fun v4 => (op_aI r1 v4 x2).bind fun v5 => (op_sL r1 v3 (0 : Int32) (Int32.toInt64 v5)).bind fun σ6 => (op_gR 12 35 σ6 x0).bind fun v7 => (op_sL σ6 v7 (2 : Int32) (Int32.toInt64 v2)).bind fun σ8 => (op_gR 12 35 σ8 x0).bind fun v9 => (op_gR 12 7 σ8 x0).bind fun v10 => (op_aI σ8 v10 x1).bind fun v11 => (op_sL σ8 v9 (3 : Int32) (Int32.toInt64 (op_maxi (0 : Int32) (v2 - v11)))).bind fun σ12 => (op_gR 12 10 σ12 x0).bind fun v13 => (op_aI σ12 v13 x3).bind fun v14 => (op_gR 12 14 σ12 x0).bind fun v15 => (op_aI σ12 v15 x2).bind fun v16 => (f_X12_hasLaw x0 (1 : Int32) σ12).bind fun r17 => if r17.1 = 0 then (some (((Int32.toInt64 v14) * ((Int32.toInt64 v16) + (Int32.toInt64 v2))), r17.2)) else ((f_X12_law x0 (1 : Int32) (9999 : Int64) r17.2).bind fun r18 => some (((Int32.toInt64 v14) * ((Int32.toInt64 v16) + r18.1)), r18.2))
def f_X12_costBy  (x0 : Nat) (x1 : Int32) (x2 : Int32) (x3 : Int32) (x4 : Int32) (x5 : Int32) (σ : ah_H) : Option (Int64 × ah_H) := op_ck 12 σ x0 (f_X12_costBy_0 x0 x1 x2 x3 x4 x5 σ)
set_option maxRecDepth 100000 in
set_option maxHeartbeats 4000000 in
theorem c_X12_costBy_0 {G : ah_G}   : ∀ (x0 : Nat) (x1 : Int32) (x2 : Int32) (x3 : Int32) (x4 : Int32) (x5 : Int32) (σ : ah_H) (r : Int64 × ah_H), f_X12_costBy_0   x0 x1 x2 x3 x4 x5 σ = some r → AW G m_X12_costBy 3 0 0 0 [(0, .ref x0), (1, .int x1), (2, .int x2), (3, .int x3), (4, .int x4), (5, .int x5)] [] σ (ah_N G (ah_rl r)) := by
  intro x0 x1 x2 x3 x4 x5 σ r h
  unfold f_X12_costBy_0 at h
  refine aw_aload_n (pc := 0) 0 dX12_costBy_0 rfl ?_
  obtain ⟨r1, e, h⟩ := op_bd h
  refine ow_cVv (pc := 1) [] ((c_X12_noNames _ _ _ e).mono (by decide)) (op_ck_sh e) rfl dX12_costBy_1 cw_X12_357 rfl (Nat.le_of_ble_eq_true rfl) ?_
  refine aw_iload (pc := 4) 4 dX12_costBy_4 rfl ?_
  refine aw_iload (pc := 6) 5 dX12_costBy_6 rfl ?_
  refine aw_iadd (pc := 8) dX12_costBy_8 ?_
  refine aw_iconst (pc := 9) (v := (2 : Int32)) dX12_costBy_9 (by decide) ?_
  obtain ⟨v2, e, h⟩ := op_bd h
  refine ow_div (pc := 10) e dX12_costBy_10 ?_
  refine aw_istore (pc := 11) [(6, .int v2), (0, .ref x0), (1, .int x1), (2, .int x2), (3, .int x3), (4, .int x4), (5, .int x5)] dX12_costBy_11 (by decide) rfl ?_
  refine aw_aload_n (pc := 13) 1 dX12_costBy_13 rfl ?_
  obtain ⟨v3, e, h⟩ := op_bd h
  refine ow_gR (pc := 14) e dX12_costBy_14 fd_X12_76 rfl ?_
  refine aw_iconst (pc := 17) (v := (0 : Int32)) dX12_costBy_17 (by decide) ?_
  refine aw_aload_n (pc := 18) 1 dX12_costBy_18 rfl ?_
  obtain ⟨v4, e, h⟩ := op_bd h
  refine ow_gR (pc := 19) e dX12_costBy_19 fd_X12_45 rfl ?_
  refine aw_iload_n (pc := 22) 3 dX12_costBy_22 rfl ?_
  obtain ⟨v5, e, h⟩ := op_bd h
  refine ow_aI (pc := 23) e dX12_costBy_23 ?_
  refine aw_i2l (pc := 24) dX12_costBy_24 ?_
  obtain ⟨σ6, e, h⟩ := op_bd h
  refine ow_sL (pc := 25) e dX12_costBy_25 ?_
  refine aw_aload_n (pc := 26) 1 dX12_costBy_26 rfl ?_
  obtain ⟨v7, e, h⟩ := op_bd h
  refine ow_gR (pc := 27) e dX12_costBy_27 fd_X12_76 rfl ?_
  refine aw_iconst (pc := 30) (v := (2 : Int32)) dX12_costBy_30 (by decide) ?_
  refine aw_iload (pc := 31) 0 dX12_costBy_31 rfl ?_
  refine aw_i2l (pc := 33) dX12_costBy_33 ?_
  obtain ⟨σ8, e, h⟩ := op_bd h
  refine ow_sL (pc := 34) e dX12_costBy_34 ?_
  refine aw_aload_n (pc := 35) 1 dX12_costBy_35 rfl ?_
  obtain ⟨v9, e, h⟩ := op_bd h
  refine ow_gR (pc := 36) e dX12_costBy_36 fd_X12_76 rfl ?_
  refine aw_iconst (pc := 39) (v := (3 : Int32)) dX12_costBy_39 (by decide) ?_
  refine aw_iconst (pc := 40) (v := (0 : Int32)) dX12_costBy_40 (by decide) ?_
  refine aw_iload (pc := 41) 0 dX12_costBy_41 rfl ?_
  refine aw_aload_n (pc := 43) 1 dX12_costBy_43 rfl ?_
  obtain ⟨v10, e, h⟩ := op_bd h
  refine ow_gR (pc := 44) e dX12_costBy_44 fd_X12_27 rfl ?_
  refine aw_iload_n (pc := 47) 2 dX12_costBy_47 rfl ?_
  obtain ⟨v11, e, h⟩ := op_bd h
  refine ow_aI (pc := 48) e dX12_costBy_48 ?_
  refine aw_isub (pc := 49) dX12_costBy_49 ?_
  refine ow_maxi (pc := 50) dX12_costBy_50 mt_X12_367 (Nat.le_of_ble_eq_true rfl) ?_
  refine aw_i2l (pc := 53) dX12_costBy_53 ?_
  obtain ⟨σ12, e, h⟩ := op_bd h
  refine ow_sL (pc := 54) e dX12_costBy_54 ?_
  refine aw_aload_n (pc := 55) 1 dX12_costBy_55 rfl ?_
  obtain ⟨v13, e, h⟩ := op_bd h
  refine ow_gR (pc := 56) e dX12_costBy_56 fd_X12_36 rfl ?_
  refine aw_iload_n (pc := 59) 4 dX12_costBy_59 rfl ?_
  obtain ⟨v14, e, h⟩ := op_bd h
  refine ow_aI (pc := 60) e dX12_costBy_60 ?_
  refine aw_i2l (pc := 61) dX12_costBy_61 ?_
  refine aw_aload_n (pc := 62) 1 dX12_costBy_62 rfl ?_
  obtain ⟨v15, e, h⟩ := op_bd h
  refine ow_gR (pc := 63) e dX12_costBy_63 fd_X12_48 rfl ?_
  refine aw_iload_n (pc := 66) 3 dX12_costBy_66 rfl ?_
  obtain ⟨v16, e, h⟩ := op_bd h
  refine ow_aI (pc := 67) e dX12_costBy_67 ?_
  refine aw_i2l (pc := 68) dX12_costBy_68 ?_
  refine aw_aload_n (pc := 69) 1 dX12_costBy_69 rfl ?_
  refine aw_iconst (pc := 70) (v := (1 : Int32)) dX12_costBy_70 (by decide) ?_
  obtain ⟨r17, e, h⟩ := op_bd h
  refine ow_cVi (pc := 71) [.int (1 : Int32)] ((c_X12_hasLaw _ _ _ _ e).mono (by decide)) (op_ck_sh e) rfl dX12_costBy_71 cw_X12_360 rfl (Nat.le_of_ble_eq_true rfl) ?_
  refine aw_if_eq (pc := 74) 88 dX12_costBy_74 (by decide) (fun z => ?_) (fun z => ?_)
  · replace h := (if_pos z).symm.trans h
    refine aw_iload (pc := 88) 0 dX12_costBy_88 rfl ?_
    refine aw_i2l (pc := 90) dX12_costBy_90 ?_
    refine aw_ladd (pc := 91) dX12_costBy_91 ?_
    refine aw_lmul (pc := 92) dX12_costBy_92 ?_
    exact ow_lret (pc := 93) h dX12_costBy_93 rfl
  · replace h := (if_neg z).symm.trans h
    refine aw_aload_n (pc := 77) 1 dX12_costBy_77 rfl ?_
    refine aw_iconst (pc := 78) (v := (1 : Int32)) dX12_costBy_78 (by decide) ?_
    refine aw_ldc2 (pc := 79) dX12_costBy_79 kl_X12_369 ?_
    obtain ⟨r18, e, h⟩ := op_bd h
    refine ow_cVl (pc := 82) [.int (1 : Int32), .long (9999 : Int64)] ((c_X12_law _ _ _ _ _ e).mono (by decide)) (op_ck_sh e) rfl dX12_costBy_82 cw_X12_363 rfl (Nat.le_of_ble_eq_true rfl) ?_
    refine aw_goto (pc := 85) 91 dX12_costBy_85 (by decide) ?_
    refine aw_ladd (pc := 91) dX12_costBy_91 ?_
    refine aw_lmul (pc := 92) dX12_costBy_92 ?_
    exact ow_lret (pc := 93) h dX12_costBy_93 rfl
theorem c_X12_costBy {G : ah_G}   (x0 : Nat) (x1 : Int32) (x2 : Int32) (x3 : Int32) (x4 : Int32) (x5 : Int32) (σ : ah_H) (r : Int64 × ah_H) (h : f_X12_costBy  x0 x1 x2 x3 x4 x5 σ = some r) : AM G m_X12_costBy 3 0 0 [.ref x0, .int x1, .int x2, .int x3, .int x4, .int x5] σ (ah_rl r) := aw_enter (by decide) (Nat.le_of_ble_eq_true rfl) (c_X12_costBy_0 _ _ _ _ _ _ _ _ (op_ck_k h))
def f_X12_pumpBy_0   (x0 : Nat) (x1 : Int32) (x2 : Int64) (σ : ah_H) : Option (Int64 × ah_H) :=
  if x1 = 0 then (some ((0 : Int64), σ)) else ((f_X12_hasLaw x0 (2 : Int32) σ).bind fun r1 => if r1.1 = 0 then (some ((0 : Int64), r1.2)) else ((f_X12_noNames x0 r1.2).bind fun r2 => (op_gR 12 35 r2 x0).bind fun v3 => (op_sL r2 v3 (4 : Int32) (Int32.toInt64 x1)).bind fun σ4 => (op_gR 12 35 σ4 x0).bind fun v5 => (op_sL σ4 v5 (5 : Int32) x2).bind fun σ6 => (f_X12_law x0 (2 : Int32) (9999 : Int64) σ6).bind fun r7 => some (r7.1, r7.2)))
def f_X12_pumpBy  (x0 : Nat) (x1 : Int32) (x2 : Int64) (σ : ah_H) : Option (Int64 × ah_H) := op_ck 12 σ x0 (f_X12_pumpBy_0 x0 x1 x2 σ)
set_option maxRecDepth 100000 in
set_option maxHeartbeats 4000000 in
theorem c_X12_pumpBy_0 {G : ah_G}   : ∀ (x0 : Nat) (x1 : Int32) (x2 : Int64) (σ : ah_H) (r : Int64 × ah_H), f_X12_pumpBy_0   x0 x1 x2 σ = some r → AW G m_X12_pumpBy 3 0 0 0 [(0, .ref x0), (1, .int x1), (2, .long x2)] [] σ (ah_N G (ah_rl r)) := by
  intro x0 x1 x2 σ r h
  unfold f_X12_pumpBy_0 at h
  refine aw_iload_n (pc := 0) 1 dX12_pumpBy_0 rfl ?_
  refine aw_if_eq (pc := 1) 12 dX12_pumpBy_1 (by decide) (fun z => ?_) (fun z => ?_)
  · replace h := (if_pos z).symm.trans h
    refine aw_lconst (pc := 12) (v := (0 : Int64)) dX12_pumpBy_12 (by decide) ?_
    exact ow_lret (pc := 13) h dX12_pumpBy_13 rfl
  · replace h := (if_neg z).symm.trans h
    refine aw_aload_n (pc := 4) 0 dX12_pumpBy_4 rfl ?_
    refine aw_iconst (pc := 5) (v := (2 : Int32)) dX12_pumpBy_5 (by decide) ?_
    obtain ⟨r1, e, h⟩ := op_bd h
    refine ow_cVi (pc := 6) [.int (2 : Int32)] ((c_X12_hasLaw _ _ _ _ e).mono (by decide)) (op_ck_sh e) rfl dX12_pumpBy_6 cw_X12_360 rfl (Nat.le_of_ble_eq_true rfl) ?_
    refine aw_if_ne (pc := 9) 14 dX12_pumpBy_9 (by decide) (fun z => ?_) (fun z => ?_)
    · replace h := (if_neg z).symm.trans h
      refine aw_aload_n (pc := 14) 0 dX12_pumpBy_14 rfl ?_
      obtain ⟨r2, e, h⟩ := op_bd h
      refine ow_cVv (pc := 15) [] ((c_X12_noNames _ _ _ e).mono (by decide)) (op_ck_sh e) rfl dX12_pumpBy_15 cw_X12_357 rfl (Nat.le_of_ble_eq_true rfl) ?_
      refine aw_aload_n (pc := 18) 0 dX12_pumpBy_18 rfl ?_
      obtain ⟨v3, e, h⟩ := op_bd h
      refine ow_gR (pc := 19) e dX12_pumpBy_19 fd_X12_76 rfl ?_
      refine aw_iconst (pc := 22) (v := (4 : Int32)) dX12_pumpBy_22 (by decide) ?_
      refine aw_iload_n (pc := 23) 1 dX12_pumpBy_23 rfl ?_
      refine aw_i2l (pc := 24) dX12_pumpBy_24 ?_
      obtain ⟨σ4, e, h⟩ := op_bd h
      refine ow_sL (pc := 25) e dX12_pumpBy_25 ?_
      refine aw_aload_n (pc := 26) 0 dX12_pumpBy_26 rfl ?_
      obtain ⟨v5, e, h⟩ := op_bd h
      refine ow_gR (pc := 27) e dX12_pumpBy_27 fd_X12_76 rfl ?_
      refine aw_iconst (pc := 30) (v := (5 : Int32)) dX12_pumpBy_30 (by decide) ?_
      refine aw_lload_n (pc := 31) 2 dX12_pumpBy_31 rfl ?_
      obtain ⟨σ6, e, h⟩ := op_bd h
      refine ow_sL (pc := 32) e dX12_pumpBy_32 ?_
      refine aw_aload_n (pc := 33) 0 dX12_pumpBy_33 rfl ?_
      refine aw_iconst (pc := 34) (v := (2 : Int32)) dX12_pumpBy_34 (by decide) ?_
      refine aw_ldc2 (pc := 35) dX12_pumpBy_35 kl_X12_369 ?_
      obtain ⟨r7, e, h⟩ := op_bd h
      refine ow_cVl (pc := 38) [.int (2 : Int32), .long (9999 : Int64)] ((c_X12_law _ _ _ _ _ e).mono (by decide)) (op_ck_sh e) rfl dX12_pumpBy_38 cw_X12_363 rfl (Nat.le_of_ble_eq_true rfl) ?_
      exact ow_lret (pc := 41) h dX12_pumpBy_41 rfl
    · replace h := (if_pos z).symm.trans h
      refine aw_lconst (pc := 12) (v := (0 : Int64)) dX12_pumpBy_12 (by decide) ?_
      exact ow_lret (pc := 13) h dX12_pumpBy_13 rfl
theorem c_X12_pumpBy {G : ah_G}   (x0 : Nat) (x1 : Int32) (x2 : Int64) (σ : ah_H) (r : Int64 × ah_H) (h : f_X12_pumpBy  x0 x1 x2 σ = some r) : AM G m_X12_pumpBy 3 0 0 [.ref x0, .int x1, .long x2] σ (ah_rl r) := aw_enter (by decide) (Nat.le_of_ble_eq_true rfl) (c_X12_pumpBy_0 _ _ _ _ _ (op_ck_k h))
def f_X12_isLaid_0   (x0 : Nat) (x1 : Int32) (σ : ah_H) : Option (Int32 × ah_H) :=
  (op_gR 12 38 σ x0).bind fun v1 => (op_gI 12 42 σ x0).bind fun v2 => (op_aI σ v1 (((7 : Int32) * v2) + x1)).bind fun v3 => if v3 = (-1 : Int32) then ((op_rz (0 : Int32)).map fun q => (q, σ)) else ((op_rz (1 : Int32)).map fun q => (q, σ))
def f_X12_isLaid  (x0 : Nat) (x1 : Int32) (σ : ah_H) : Option (Int32 × ah_H) := op_ck 12 σ x0 (f_X12_isLaid_0 x0 x1 σ)
set_option maxRecDepth 100000 in
set_option maxHeartbeats 4000000 in
theorem c_X12_isLaid_0 {G : ah_G}   : ∀ (x0 : Nat) (x1 : Int32) (σ : ah_H) (r : Int32 × ah_H), f_X12_isLaid_0   x0 x1 σ = some r → AW G m_X12_isLaid 0 0 0 0 [(0, .ref x0), (1, .int x1)] [] σ (ah_N G (ah_ri r)) := by
  intro x0 x1 σ r h
  unfold f_X12_isLaid_0 at h
  refine aw_aload_n (pc := 0) 0 dX12_isLaid_0 rfl ?_
  obtain ⟨v1, e, h⟩ := op_bd h
  refine ow_gR (pc := 1) e dX12_isLaid_1 fd_X12_83 rfl ?_
  refine aw_bipush (pc := 4) (v := (7 : Int32)) dX12_isLaid_4 (by decide) ?_
  refine aw_aload_n (pc := 6) 0 dX12_isLaid_6 rfl ?_
  obtain ⟨v2, e, h⟩ := op_bd h
  refine ow_gI (pc := 7) e dX12_isLaid_7 fd_X12_371 rfl ?_
  refine aw_imul (pc := 10) dX12_isLaid_10 ?_
  refine aw_iload_n (pc := 11) 1 dX12_isLaid_11 rfl ?_
  refine aw_iadd (pc := 12) dX12_isLaid_12 ?_
  obtain ⟨v3, e, h⟩ := op_bd h
  refine ow_aI (pc := 13) e dX12_isLaid_13 ?_
  refine aw_iconst (pc := 14) (v := (-1 : Int32)) dX12_isLaid_14 (by decide) ?_
  refine aw_icmp_eq (pc := 15) 22 dX12_isLaid_15 (by decide) (fun z => ?_) (fun z => ?_)
  · replace h := (if_pos z).symm.trans h
    refine aw_iconst (pc := 22) (v := (0 : Int32)) dX12_isLaid_22 (by decide) ?_
    exact ow_zret (pc := 23) h dX12_isLaid_23 rfl
  · replace h := (if_neg z).symm.trans h
    refine aw_iconst (pc := 18) (v := (1 : Int32)) dX12_isLaid_18 (by decide) ?_
    refine aw_goto (pc := 19) 23 dX12_isLaid_19 (by decide) ?_
    exact ow_zret (pc := 23) h dX12_isLaid_23 rfl
theorem c_X12_isLaid {G : ah_G}   (x0 : Nat) (x1 : Int32) (σ : ah_H) (r : Int32 × ah_H) (h : f_X12_isLaid  x0 x1 σ = some r) : AM G m_X12_isLaid 0 0 0 [.ref x0, .int x1] σ (ah_ri r) := aw_enter (by decide) (Nat.le_of_ble_eq_true rfl) (c_X12_isLaid_0 _ _ _ _ (op_ck_k h))
def f_X12_streetOf_0   (x0 : Nat) (x1 : Int32) (σ : ah_H) : Option (Int32 × ah_H) :=
  (op_gR 12 38 σ x0).bind fun v1 => (op_gI 12 42 σ x0).bind fun v2 => (op_aI σ v1 (((7 : Int32) * v2) + x1)).bind fun v3 => some (v3, σ)
def f_X12_streetOf  (x0 : Nat) (x1 : Int32) (σ : ah_H) : Option (Int32 × ah_H) := op_ck 12 σ x0 (f_X12_streetOf_0 x0 x1 σ)
set_option maxRecDepth 100000 in
set_option maxHeartbeats 4000000 in
theorem c_X12_streetOf_0 {G : ah_G}   : ∀ (x0 : Nat) (x1 : Int32) (σ : ah_H) (r : Int32 × ah_H), f_X12_streetOf_0   x0 x1 σ = some r → AW G m_X12_streetOf 0 0 0 0 [(0, .ref x0), (1, .int x1)] [] σ (ah_N G (ah_ri r)) := by
  intro x0 x1 σ r h
  unfold f_X12_streetOf_0 at h
  refine aw_aload_n (pc := 0) 0 dX12_streetOf_0 rfl ?_
  obtain ⟨v1, e, h⟩ := op_bd h
  refine ow_gR (pc := 1) e dX12_streetOf_1 fd_X12_83 rfl ?_
  refine aw_bipush (pc := 4) (v := (7 : Int32)) dX12_streetOf_4 (by decide) ?_
  refine aw_aload_n (pc := 6) 0 dX12_streetOf_6 rfl ?_
  obtain ⟨v2, e, h⟩ := op_bd h
  refine ow_gI (pc := 7) e dX12_streetOf_7 fd_X12_371 rfl ?_
  refine aw_imul (pc := 10) dX12_streetOf_10 ?_
  refine aw_iload_n (pc := 11) 1 dX12_streetOf_11 rfl ?_
  refine aw_iadd (pc := 12) dX12_streetOf_12 ?_
  obtain ⟨v3, e, h⟩ := op_bd h
  refine ow_aI (pc := 13) e dX12_streetOf_13 ?_
  exact ow_iret (pc := 14) h dX12_streetOf_14 rfl
theorem c_X12_streetOf {G : ah_G}   (x0 : Nat) (x1 : Int32) (σ : ah_H) (r : Int32 × ah_H) (h : f_X12_streetOf  x0 x1 σ = some r) : AM G m_X12_streetOf 0 0 0 [.ref x0, .int x1] σ (ah_ri r) := aw_enter (by decide) (Nat.le_of_ble_eq_true rfl) (c_X12_streetOf_0 _ _ _ _ (op_ck_k h))
def f_X12_pipeOf_0   (x0 : Nat) (x1 : Int32) (σ : ah_H) : Option (Int32 × ah_H) :=
  (op_gR 12 39 σ x0).bind fun v1 => (op_gI 12 42 σ x0).bind fun v2 => (op_aI σ v1 (((7 : Int32) * v2) + x1)).bind fun v3 => some (v3, σ)
def f_X12_pipeOf  (x0 : Nat) (x1 : Int32) (σ : ah_H) : Option (Int32 × ah_H) := op_ck 12 σ x0 (f_X12_pipeOf_0 x0 x1 σ)
set_option maxRecDepth 100000 in
set_option maxHeartbeats 4000000 in
theorem c_X12_pipeOf_0 {G : ah_G}   : ∀ (x0 : Nat) (x1 : Int32) (σ : ah_H) (r : Int32 × ah_H), f_X12_pipeOf_0   x0 x1 σ = some r → AW G m_X12_pipeOf 0 0 0 0 [(0, .ref x0), (1, .int x1)] [] σ (ah_N G (ah_ri r)) := by
  intro x0 x1 σ r h
  unfold f_X12_pipeOf_0 at h
  refine aw_aload_n (pc := 0) 0 dX12_pipeOf_0 rfl ?_
  obtain ⟨v1, e, h⟩ := op_bd h
  refine ow_gR (pc := 1) e dX12_pipeOf_1 fd_X12_86 rfl ?_
  refine aw_bipush (pc := 4) (v := (7 : Int32)) dX12_pipeOf_4 (by decide) ?_
  refine aw_aload_n (pc := 6) 0 dX12_pipeOf_6 rfl ?_
  obtain ⟨v2, e, h⟩ := op_bd h
  refine ow_gI (pc := 7) e dX12_pipeOf_7 fd_X12_371 rfl ?_
  refine aw_imul (pc := 10) dX12_pipeOf_10 ?_
  refine aw_iload_n (pc := 11) 1 dX12_pipeOf_11 rfl ?_
  refine aw_iadd (pc := 12) dX12_pipeOf_12 ?_
  obtain ⟨v3, e, h⟩ := op_bd h
  refine ow_aI (pc := 13) e dX12_pipeOf_13 ?_
  exact ow_iret (pc := 14) h dX12_pipeOf_14 rfl
theorem c_X12_pipeOf {G : ah_G}   (x0 : Nat) (x1 : Int32) (σ : ah_H) (r : Int32 × ah_H) (h : f_X12_pipeOf  x0 x1 σ = some r) : AM G m_X12_pipeOf 0 0 0 [.ref x0, .int x1] σ (ah_ri r) := aw_enter (by decide) (Nat.le_of_ble_eq_true rfl) (c_X12_pipeOf_0 _ _ _ _ (op_ck_k h))
def f_X12_aOf_0   (x0 : Nat) (x1 : Int32) (σ : ah_H) : Option (Int32 × ah_H) :=
  (op_gR 12 40 σ x0).bind fun v1 => (op_gI 12 42 σ x0).bind fun v2 => (op_aI σ v1 (((7 : Int32) * v2) + x1)).bind fun v3 => some (v3, σ)
def f_X12_aOf  (x0 : Nat) (x1 : Int32) (σ : ah_H) : Option (Int32 × ah_H) := op_ck 12 σ x0 (f_X12_aOf_0 x0 x1 σ)
set_option maxRecDepth 100000 in
set_option maxHeartbeats 4000000 in
theorem c_X12_aOf_0 {G : ah_G}   : ∀ (x0 : Nat) (x1 : Int32) (σ : ah_H) (r : Int32 × ah_H), f_X12_aOf_0   x0 x1 σ = some r → AW G m_X12_aOf 0 0 0 0 [(0, .ref x0), (1, .int x1)] [] σ (ah_N G (ah_ri r)) := by
  intro x0 x1 σ r h
  unfold f_X12_aOf_0 at h
  refine aw_aload_n (pc := 0) 0 dX12_aOf_0 rfl ?_
  obtain ⟨v1, e, h⟩ := op_bd h
  refine ow_gR (pc := 1) e dX12_aOf_1 fd_X12_89 rfl ?_
  refine aw_bipush (pc := 4) (v := (7 : Int32)) dX12_aOf_4 (by decide) ?_
  refine aw_aload_n (pc := 6) 0 dX12_aOf_6 rfl ?_
  obtain ⟨v2, e, h⟩ := op_bd h
  refine ow_gI (pc := 7) e dX12_aOf_7 fd_X12_371 rfl ?_
  refine aw_imul (pc := 10) dX12_aOf_10 ?_
  refine aw_iload_n (pc := 11) 1 dX12_aOf_11 rfl ?_
  refine aw_iadd (pc := 12) dX12_aOf_12 ?_
  obtain ⟨v3, e, h⟩ := op_bd h
  refine ow_aI (pc := 13) e dX12_aOf_13 ?_
  exact ow_iret (pc := 14) h dX12_aOf_14 rfl
theorem c_X12_aOf {G : ah_G}   (x0 : Nat) (x1 : Int32) (σ : ah_H) (r : Int32 × ah_H) (h : f_X12_aOf  x0 x1 σ = some r) : AM G m_X12_aOf 0 0 0 [.ref x0, .int x1] σ (ah_ri r) := aw_enter (by decide) (Nat.le_of_ble_eq_true rfl) (c_X12_aOf_0 _ _ _ _ (op_ck_k h))
def f_X12_bOf_0   (x0 : Nat) (x1 : Int32) (σ : ah_H) : Option (Int32 × ah_H) :=
  (op_gR 12 41 σ x0).bind fun v1 => (op_gI 12 42 σ x0).bind fun v2 => (op_aI σ v1 (((7 : Int32) * v2) + x1)).bind fun v3 => some (v3, σ)
def f_X12_bOf  (x0 : Nat) (x1 : Int32) (σ : ah_H) : Option (Int32 × ah_H) := op_ck 12 σ x0 (f_X12_bOf_0 x0 x1 σ)
set_option maxRecDepth 100000 in
set_option maxHeartbeats 4000000 in
theorem c_X12_bOf_0 {G : ah_G}   : ∀ (x0 : Nat) (x1 : Int32) (σ : ah_H) (r : Int32 × ah_H), f_X12_bOf_0   x0 x1 σ = some r → AW G m_X12_bOf 0 0 0 0 [(0, .ref x0), (1, .int x1)] [] σ (ah_N G (ah_ri r)) := by
  intro x0 x1 σ r h
  unfold f_X12_bOf_0 at h
  refine aw_aload_n (pc := 0) 0 dX12_bOf_0 rfl ?_
  obtain ⟨v1, e, h⟩ := op_bd h
  refine ow_gR (pc := 1) e dX12_bOf_1 fd_X12_92 rfl ?_
  refine aw_bipush (pc := 4) (v := (7 : Int32)) dX12_bOf_4 (by decide) ?_
  refine aw_aload_n (pc := 6) 0 dX12_bOf_6 rfl ?_
  obtain ⟨v2, e, h⟩ := op_bd h
  refine ow_gI (pc := 7) e dX12_bOf_7 fd_X12_371 rfl ?_
  refine aw_imul (pc := 10) dX12_bOf_10 ?_
  refine aw_iload_n (pc := 11) 1 dX12_bOf_11 rfl ?_
  refine aw_iadd (pc := 12) dX12_bOf_12 ?_
  obtain ⟨v3, e, h⟩ := op_bd h
  refine ow_aI (pc := 13) e dX12_bOf_13 ?_
  exact ow_iret (pc := 14) h dX12_bOf_14 rfl
theorem c_X12_bOf {G : ah_G}   (x0 : Nat) (x1 : Int32) (σ : ah_H) (r : Int32 × ah_H) (h : f_X12_bOf  x0 x1 σ = some r) : AM G m_X12_bOf 0 0 0 [.ref x0, .int x1] σ (ah_ri r) := aw_enter (by decide) (Nat.le_of_ble_eq_true rfl) (c_X12_bOf_0 _ _ _ _ (op_ck_k h))
def f_X12_otherEnd_0   (x0 : Nat) (x1 : Int32) (x2 : Int32) (σ : ah_H) : Option (Int32 × ah_H) :=
  (op_gR 12 8 σ x0).bind fun v1 => (op_aI σ v1 x1).bind fun v2 => if v2 = x2 then ((op_gR 12 9 σ x0).bind fun v5 => (op_aI σ v5 x1).bind fun v6 => some (v6, σ)) else ((op_gR 12 8 σ x0).bind fun v3 => (op_aI σ v3 x1).bind fun v4 => some (v4, σ))
def f_X12_otherEnd  (x0 : Nat) (x1 : Int32) (x2 : Int32) (σ : ah_H) : Option (Int32 × ah_H) := op_ck 12 σ x0 (f_X12_otherEnd_0 x0 x1 x2 σ)
set_option maxRecDepth 100000 in
set_option maxHeartbeats 4000000 in
theorem c_X12_otherEnd_0 {G : ah_G}   : ∀ (x0 : Nat) (x1 : Int32) (x2 : Int32) (σ : ah_H) (r : Int32 × ah_H), f_X12_otherEnd_0   x0 x1 x2 σ = some r → AW G m_X12_otherEnd 0 0 0 0 [(0, .ref x0), (1, .int x1), (2, .int x2)] [] σ (ah_N G (ah_ri r)) := by
  intro x0 x1 x2 σ r h
  unfold f_X12_otherEnd_0 at h
  refine aw_aload_n (pc := 0) 0 dX12_otherEnd_0 rfl ?_
  obtain ⟨v1, e, h⟩ := op_bd h
  refine ow_gR (pc := 1) e dX12_otherEnd_1 fd_X12_30 rfl ?_
  refine aw_iload_n (pc := 4) 1 dX12_otherEnd_4 rfl ?_
  obtain ⟨v2, e, h⟩ := op_bd h
  refine ow_aI (pc := 5) e dX12_otherEnd_5 ?_
  refine aw_iload_n (pc := 6) 2 dX12_otherEnd_6 rfl ?_
  refine aw_icmp_ne (pc := 7) 19 dX12_otherEnd_7 (by decide) (fun z => ?_) (fun z => ?_)
  · replace h := (if_neg z).symm.trans h
    refine aw_aload_n (pc := 19) 0 dX12_otherEnd_19 rfl ?_
    obtain ⟨v3, e, h⟩ := op_bd h
    refine ow_gR (pc := 20) e dX12_otherEnd_20 fd_X12_30 rfl ?_
    refine aw_iload_n (pc := 23) 1 dX12_otherEnd_23 rfl ?_
    obtain ⟨v4, e, h⟩ := op_bd h
    refine ow_aI (pc := 24) e dX12_otherEnd_24 ?_
    exact ow_iret (pc := 25) h dX12_otherEnd_25 rfl
  · replace h := (if_pos z).symm.trans h
    refine aw_aload_n (pc := 10) 0 dX12_otherEnd_10 rfl ?_
    obtain ⟨v5, e, h⟩ := op_bd h
    refine ow_gR (pc := 11) e dX12_otherEnd_11 fd_X12_33 rfl ?_
    refine aw_iload_n (pc := 14) 1 dX12_otherEnd_14 rfl ?_
    obtain ⟨v6, e, h⟩ := op_bd h
    refine ow_aI (pc := 15) e dX12_otherEnd_15 ?_
    refine aw_goto (pc := 16) 25 dX12_otherEnd_16 (by decide) ?_
    exact ow_iret (pc := 25) h dX12_otherEnd_25 rfl
theorem c_X12_otherEnd {G : ah_G}   (x0 : Nat) (x1 : Int32) (x2 : Int32) (σ : ah_H) (r : Int32 × ah_H) (h : f_X12_otherEnd  x0 x1 x2 σ = some r) : AM G m_X12_otherEnd 0 0 0 [.ref x0, .int x1, .int x2] σ (ah_ri r) := aw_enter (by decide) (Nat.le_of_ble_eq_true rfl) (c_X12_otherEnd_0 _ _ _ _ _ (op_ck_k h))
def f_X12_to_0   (x0 : Nat) (x1 : Int32) (σ : ah_H) : Option (Int32 × ah_H) :=
  (f_X12_streetOf x0 x1 σ).bind fun r1 => (f_X12_otherEnd x0 r1.1 x1 r1.2).bind fun r2 => some (r2.1, r2.2)
def f_X12_to  (x0 : Nat) (x1 : Int32) (σ : ah_H) : Option (Int32 × ah_H) := op_ck 12 σ x0 (f_X12_to_0 x0 x1 σ)
set_option maxRecDepth 100000 in
set_option maxHeartbeats 4000000 in
theorem c_X12_to_0 {G : ah_G}   : ∀ (x0 : Nat) (x1 : Int32) (σ : ah_H) (r : Int32 × ah_H), f_X12_to_0   x0 x1 σ = some r → AW G m_X12_to 1 0 0 0 [(0, .ref x0), (1, .int x1)] [] σ (ah_N G (ah_ri r)) := by
  intro x0 x1 σ r h
  unfold f_X12_to_0 at h
  refine aw_aload_n (pc := 0) 0 dX12_to_0 rfl ?_
  refine aw_aload_n (pc := 1) 0 dX12_to_1 rfl ?_
  refine aw_iload_n (pc := 2) 1 dX12_to_2 rfl ?_
  obtain ⟨r1, e, h⟩ := op_bd h
  refine ow_cVi (pc := 3) [.int x1] ((c_X12_streetOf _ _ _ _ e).mono (by decide)) (op_ck_sh e) rfl dX12_to_3 cw_X12_374 rfl (Nat.le_of_ble_eq_true rfl) ?_
  refine aw_iload_n (pc := 6) 1 dX12_to_6 rfl ?_
  obtain ⟨r2, e, h⟩ := op_bd h
  refine ow_cVi (pc := 7) [.int r1.1, .int x1] ((c_X12_otherEnd _ _ _ _ _ e).mono (by decide)) (op_ck_sh e) rfl dX12_to_7 cw_X12_377 rfl (Nat.le_of_ble_eq_true rfl) ?_
  exact ow_iret (pc := 10) h dX12_to_10 rfl
theorem c_X12_to {G : ah_G}   (x0 : Nat) (x1 : Int32) (σ : ah_H) (r : Int32 × ah_H) (h : f_X12_to  x0 x1 σ = some r) : AM G m_X12_to 1 0 0 [.ref x0, .int x1] σ (ah_ri r) := aw_enter (by decide) (Nat.le_of_ble_eq_true rfl) (c_X12_to_0 _ _ _ _ (op_ck_k h))
def f_X12_runsTo_0   (x0 : Nat) (x1 : Int32) (x2 : Int32) (σ : ah_H) : Option (Int32 × ah_H) :=
  (f_X12_isLaid x0 x1 σ).bind fun r1 => if r1.1 = 0 then ((op_rz (0 : Int32)).map fun q => (q, r1.2)) else ((f_X12_to x0 x1 r1.2).bind fun r2 => if r2.1 = x2 then ((op_rz (1 : Int32)).map fun q => (q, r2.2)) else ((op_rz (0 : Int32)).map fun q => (q, r2.2)))
def f_X12_runsTo  (x0 : Nat) (x1 : Int32) (x2 : Int32) (σ : ah_H) : Option (Int32 × ah_H) := op_ck 12 σ x0 (f_X12_runsTo_0 x0 x1 x2 σ)
set_option maxRecDepth 100000 in
set_option maxHeartbeats 4000000 in
theorem c_X12_runsTo_0 {G : ah_G}   : ∀ (x0 : Nat) (x1 : Int32) (x2 : Int32) (σ : ah_H) (r : Int32 × ah_H), f_X12_runsTo_0   x0 x1 x2 σ = some r → AW G m_X12_runsTo 2 0 0 0 [(0, .ref x0), (1, .int x1), (2, .int x2)] [] σ (ah_N G (ah_ri r)) := by
  intro x0 x1 x2 σ r h
  unfold f_X12_runsTo_0 at h
  refine aw_aload_n (pc := 0) 0 dX12_runsTo_0 rfl ?_
  refine aw_iload_n (pc := 1) 1 dX12_runsTo_1 rfl ?_
  obtain ⟨r1, e, h⟩ := op_bd h
  refine ow_cVi (pc := 2) [.int x1] ((c_X12_isLaid _ _ _ _ e).mono (by decide)) (op_ck_sh e) rfl dX12_runsTo_2 cw_X12_380 rfl (Nat.le_of_ble_eq_true rfl) ?_
  refine aw_if_eq (pc := 5) 21 dX12_runsTo_5 (by decide) (fun z => ?_) (fun z => ?_)
  · replace h := (if_pos z).symm.trans h
    refine aw_iconst (pc := 21) (v := (0 : Int32)) dX12_runsTo_21 (by decide) ?_
    exact ow_zret (pc := 22) h dX12_runsTo_22 rfl
  · replace h := (if_neg z).symm.trans h
    refine aw_aload_n (pc := 8) 0 dX12_runsTo_8 rfl ?_
    refine aw_iload_n (pc := 9) 1 dX12_runsTo_9 rfl ?_
    obtain ⟨r2, e, h⟩ := op_bd h
    refine ow_cVi (pc := 10) [.int x1] ((c_X12_to _ _ _ _ e).mono (by decide)) (op_ck_sh e) rfl dX12_runsTo_10 cw_X12_383 rfl (Nat.le_of_ble_eq_true rfl) ?_
    refine aw_iload_n (pc := 13) 2 dX12_runsTo_13 rfl ?_
    refine aw_icmp_ne (pc := 14) 21 dX12_runsTo_14 (by decide) (fun z => ?_) (fun z => ?_)
    · replace h := (if_neg z).symm.trans h
      refine aw_iconst (pc := 21) (v := (0 : Int32)) dX12_runsTo_21 (by decide) ?_
      exact ow_zret (pc := 22) h dX12_runsTo_22 rfl
    · replace h := (if_pos z).symm.trans h
      refine aw_iconst (pc := 17) (v := (1 : Int32)) dX12_runsTo_17 (by decide) ?_
      refine aw_goto (pc := 18) 22 dX12_runsTo_18 (by decide) ?_
      exact ow_zret (pc := 22) h dX12_runsTo_22 rfl
theorem c_X12_runsTo {G : ah_G}   (x0 : Nat) (x1 : Int32) (x2 : Int32) (σ : ah_H) (r : Int32 × ah_H) (h : f_X12_runsTo  x0 x1 x2 σ = some r) : AM G m_X12_runsTo 2 0 0 [.ref x0, .int x1, .int x2] σ (ah_ri r) := aw_enter (by decide) (Nat.le_of_ble_eq_true rfl) (c_X12_runsTo_0 _ _ _ _ _ (op_ck_k h))
def f_X12_fallBy_0   (x0 : Nat) (x1 : Int32) (x2 : Int32) (x3 : Int32) (x4 : Int32) (σ : ah_H) : Option (Int32 × ah_H) :=
  (op_gR 12 5 σ x0).bind fun v1 => (op_aI σ v1 x1).bind fun v2 => (op_gR 12 5 σ x0).bind fun v3 => (f_X12_otherEnd x0 x2 x1 σ).bind fun r4 => (op_aI r4.2 v3 r4.1).bind fun v5 => some ((((v2 - x3) - v5) + x4), r4.2)
def f_X12_fallBy  (x0 : Nat) (x1 : Int32) (x2 : Int32) (x3 : Int32) (x4 : Int32) (σ : ah_H) : Option (Int32 × ah_H) := op_ck 12 σ x0 (f_X12_fallBy_0 x0 x1 x2 x3 x4 σ)
set_option maxRecDepth 100000 in
set_option maxHeartbeats 4000000 in
theorem c_X12_fallBy_0 {G : ah_G}   : ∀ (x0 : Nat) (x1 : Int32) (x2 : Int32) (x3 : Int32) (x4 : Int32) (σ : ah_H) (r : Int32 × ah_H), f_X12_fallBy_0   x0 x1 x2 x3 x4 σ = some r → AW G m_X12_fallBy 1 0 0 0 [(0, .ref x0), (1, .int x1), (2, .int x2), (3, .int x3), (4, .int x4)] [] σ (ah_N G (ah_ri r)) := by
  intro x0 x1 x2 x3 x4 σ r h
  unfold f_X12_fallBy_0 at h
  refine aw_aload_n (pc := 0) 0 dX12_fallBy_0 rfl ?_
  obtain ⟨v1, e, h⟩ := op_bd h
  refine ow_gR (pc := 1) e dX12_fallBy_1 fd_X12_21 rfl ?_
  refine aw_iload_n (pc := 4) 1 dX12_fallBy_4 rfl ?_
  obtain ⟨v2, e, h⟩ := op_bd h
  refine ow_aI (pc := 5) e dX12_fallBy_5 ?_
  refine aw_iload_n (pc := 6) 3 dX12_fallBy_6 rfl ?_
  refine aw_isub (pc := 7) dX12_fallBy_7 ?_
  refine aw_aload_n (pc := 8) 0 dX12_fallBy_8 rfl ?_
  obtain ⟨v3, e, h⟩ := op_bd h
  refine ow_gR (pc := 9) e dX12_fallBy_9 fd_X12_21 rfl ?_
  refine aw_aload_n (pc := 12) 0 dX12_fallBy_12 rfl ?_
  refine aw_iload_n (pc := 13) 2 dX12_fallBy_13 rfl ?_
  refine aw_iload_n (pc := 14) 1 dX12_fallBy_14 rfl ?_
  obtain ⟨r4, e, h⟩ := op_bd h
  refine ow_cVi (pc := 15) [.int x2, .int x1] ((c_X12_otherEnd _ _ _ _ _ e).mono (by decide)) (op_ck_sh e) rfl dX12_fallBy_15 cw_X12_377 rfl (Nat.le_of_ble_eq_true rfl) ?_
  obtain ⟨v5, e, h⟩ := op_bd h
  refine ow_aI (pc := 18) e dX12_fallBy_18 ?_
  refine aw_isub (pc := 19) dX12_fallBy_19 ?_
  refine aw_iload (pc := 20) 4 dX12_fallBy_20 rfl ?_
  refine aw_iadd (pc := 22) dX12_fallBy_22 ?_
  exact ow_iret (pc := 23) h dX12_fallBy_23 rfl
theorem c_X12_fallBy {G : ah_G}   (x0 : Nat) (x1 : Int32) (x2 : Int32) (x3 : Int32) (x4 : Int32) (σ : ah_H) (r : Int32 × ah_H) (h : f_X12_fallBy  x0 x1 x2 x3 x4 σ = some r) : AM G m_X12_fallBy 1 0 0 [.ref x0, .int x1, .int x2, .int x3, .int x4] σ (ah_ri r) := aw_enter (by decide) (Nat.le_of_ble_eq_true rfl) (c_X12_fallBy_0 _ _ _ _ _ _ _ (op_ck_k h))
def f_X12_fallOf_0   (x0 : Nat) (x1 : Int32) (σ : ah_H) : Option (Int32 × ah_H) :=
  (f_X12_streetOf x0 x1 σ).bind fun r1 => (f_X12_aOf x0 x1 r1.2).bind fun r2 => (f_X12_bOf x0 x1 r2.2).bind fun r3 => (f_X12_fallBy x0 x1 r1.1 r2.1 r3.1 r3.2).bind fun r4 => some (r4.1, r4.2)
def f_X12_fallOf  (x0 : Nat) (x1 : Int32) (σ : ah_H) : Option (Int32 × ah_H) := op_ck 12 σ x0 (f_X12_fallOf_0 x0 x1 σ)
set_option maxRecDepth 100000 in
set_option maxHeartbeats 4000000 in
theorem c_X12_fallOf_0 {G : ah_G}   : ∀ (x0 : Nat) (x1 : Int32) (σ : ah_H) (r : Int32 × ah_H), f_X12_fallOf_0   x0 x1 σ = some r → AW G m_X12_fallOf 2 0 0 0 [(0, .ref x0), (1, .int x1)] [] σ (ah_N G (ah_ri r)) := by
  intro x0 x1 σ r h
  unfold f_X12_fallOf_0 at h
  refine aw_aload_n (pc := 0) 0 dX12_fallOf_0 rfl ?_
  refine aw_iload_n (pc := 1) 1 dX12_fallOf_1 rfl ?_
  refine aw_aload_n (pc := 2) 0 dX12_fallOf_2 rfl ?_
  refine aw_iload_n (pc := 3) 1 dX12_fallOf_3 rfl ?_
  obtain ⟨r1, e, h⟩ := op_bd h
  refine ow_cVi (pc := 4) [.int x1] ((c_X12_streetOf _ _ _ _ e).mono (by decide)) (op_ck_sh e) rfl dX12_fallOf_4 cw_X12_374 rfl (Nat.le_of_ble_eq_true rfl) ?_
  refine aw_aload_n (pc := 7) 0 dX12_fallOf_7 rfl ?_
  refine aw_iload_n (pc := 8) 1 dX12_fallOf_8 rfl ?_
  obtain ⟨r2, e, h⟩ := op_bd h
  refine ow_cVi (pc := 9) [.int x1] ((c_X12_aOf _ _ _ _ e).mono (by decide)) (op_ck_sh e) rfl dX12_fallOf_9 cw_X12_386 rfl (Nat.le_of_ble_eq_true rfl) ?_
  refine aw_aload_n (pc := 12) 0 dX12_fallOf_12 rfl ?_
  refine aw_iload_n (pc := 13) 1 dX12_fallOf_13 rfl ?_
  obtain ⟨r3, e, h⟩ := op_bd h
  refine ow_cVi (pc := 14) [.int x1] ((c_X12_bOf _ _ _ _ e).mono (by decide)) (op_ck_sh e) rfl dX12_fallOf_14 cw_X12_389 rfl (Nat.le_of_ble_eq_true rfl) ?_
  obtain ⟨r4, e, h⟩ := op_bd h
  refine ow_cVi (pc := 17) [.int x1, .int r1.1, .int r2.1, .int r3.1] ((c_X12_fallBy _ _ _ _ _ _ _ e).mono (by decide)) (op_ck_sh e) rfl dX12_fallOf_17 cw_X12_392 rfl (Nat.le_of_ble_eq_true rfl) ?_
  exact ow_iret (pc := 20) h dX12_fallOf_20 rfl
theorem c_X12_fallOf {G : ah_G}   (x0 : Nat) (x1 : Int32) (σ : ah_H) (r : Int32 × ah_H) (h : f_X12_fallOf  x0 x1 σ = some r) : AM G m_X12_fallOf 2 0 0 [.ref x0, .int x1] σ (ah_ri r) := aw_enter (by decide) (Nat.le_of_ble_eq_true rfl) (c_X12_fallOf_0 _ _ _ _ (op_ck_k h))
def f_X12_carriesOf_0   (x0 : Nat) (x1 : Int32) (σ : ah_H) : Option (Int64 × ah_H) :=
  (f_X12_pipeOf x0 x1 σ).bind fun r1 => (f_X12_streetOf x0 x1 r1.2).bind fun r2 => (f_X12_fallOf x0 x1 r2.2).bind fun r3 => (f_X12_carriesBy x0 r1.1 r2.1 r3.1 r3.2).bind fun r4 => some (r4.1, r4.2)
def f_X12_carriesOf  (x0 : Nat) (x1 : Int32) (σ : ah_H) : Option (Int64 × ah_H) := op_ck 12 σ x0 (f_X12_carriesOf_0 x0 x1 σ)
set_option maxRecDepth 100000 in
set_option maxHeartbeats 4000000 in
theorem c_X12_carriesOf_0 {G : ah_G}   : ∀ (x0 : Nat) (x1 : Int32) (σ : ah_H) (r : Int64 × ah_H), f_X12_carriesOf_0   x0 x1 σ = some r → AW G m_X12_carriesOf 4 0 0 0 [(0, .ref x0), (1, .int x1)] [] σ (ah_N G (ah_rl r)) := by
  intro x0 x1 σ r h
  unfold f_X12_carriesOf_0 at h
  refine aw_aload_n (pc := 0) 0 dX12_carriesOf_0 rfl ?_
  refine aw_aload_n (pc := 1) 0 dX12_carriesOf_1 rfl ?_
  refine aw_iload_n (pc := 2) 1 dX12_carriesOf_2 rfl ?_
  obtain ⟨r1, e, h⟩ := op_bd h
  refine ow_cVi (pc := 3) [.int x1] ((c_X12_pipeOf _ _ _ _ e).mono (by decide)) (op_ck_sh e) rfl dX12_carriesOf_3 cw_X12_396 rfl (Nat.le_of_ble_eq_true rfl) ?_
  refine aw_aload_n (pc := 6) 0 dX12_carriesOf_6 rfl ?_
  refine aw_iload_n (pc := 7) 1 dX12_carriesOf_7 rfl ?_
  obtain ⟨r2, e, h⟩ := op_bd h
  refine ow_cVi (pc := 8) [.int x1] ((c_X12_streetOf _ _ _ _ e).mono (by decide)) (op_ck_sh e) rfl dX12_carriesOf_8 cw_X12_374 rfl (Nat.le_of_ble_eq_true rfl) ?_
  refine aw_aload_n (pc := 11) 0 dX12_carriesOf_11 rfl ?_
  refine aw_iload_n (pc := 12) 1 dX12_carriesOf_12 rfl ?_
  obtain ⟨r3, e, h⟩ := op_bd h
  refine ow_cVi (pc := 13) [.int x1] ((c_X12_fallOf _ _ _ _ e).mono (by decide)) (op_ck_sh e) rfl dX12_carriesOf_13 cw_X12_399 rfl (Nat.le_of_ble_eq_true rfl) ?_
  obtain ⟨r4, e, h⟩ := op_bd h
  refine ow_cVl (pc := 16) [.int r1.1, .int r2.1, .int r3.1] ((c_X12_carriesBy _ _ _ _ _ _ e).mono (by decide)) (op_ck_sh e) rfl dX12_carriesOf_16 cw_X12_402 rfl (Nat.le_of_ble_eq_true rfl) ?_
  exact ow_lret (pc := 19) h dX12_carriesOf_19 rfl
theorem c_X12_carriesOf {G : ah_G}   (x0 : Nat) (x1 : Int32) (σ : ah_H) (r : Int64 × ah_H) (h : f_X12_carriesOf  x0 x1 σ = some r) : AM G m_X12_carriesOf 4 0 0 [.ref x0, .int x1] σ (ah_rl r) := aw_enter (by decide) (Nat.le_of_ble_eq_true rfl) (c_X12_carriesOf_0 _ _ _ _ (op_ck_k h))
def f_X12_isRing_4_b  (K4 : Nat → Int32 → Int32 → Int32 → ah_H → Option (Int32 × ah_H)) (x0 : Nat) (x1 : Int32) (x2 : Int32) (x3 : Int32) (σ : ah_H) : Option (Int32 × ah_H) :=
  (op_gR 12 3 σ x0).bind fun v1 => (op_aI σ v1 (0 : Int32)).bind fun v2 => if v2 ≤ x3 then ((op_rz (0 : Int32)).map fun q => (q, σ)) else ((f_X12_isLaid x0 x2 σ).bind fun r3 => if r3.1 = 0 then ((op_rz (0 : Int32)).map fun q => (q, r3.2)) else ((f_X12_to x0 x2 r3.2).bind fun r4 => if r4.1 = x1 then ((op_rz (1 : Int32)).map fun q => (q, r4.2)) else (K4 x0 x1 r4.1 (x3 + (1 : Int32)) r4.2)))
def f_X12_isRing_4   : Nat → Nat → Int32 → Int32 → Int32 → ah_H → Option (Int32 × ah_H)
  | 0, _, _, _, _, _ => none
  | n + 1, x0, x1, x2, x3, σ => f_X12_isRing_4_b (f_X12_isRing_4 n) x0 x1 x2 x3 σ
def f_X12_isRing_0   (x0 : Nat) (x1 : Int32) (σ : ah_H) : Option (Int32 × ah_H) :=
  f_X12_isRing_4 5000 x0 x1 x1 (0 : Int32) σ
def f_X12_isRing  (x0 : Nat) (x1 : Int32) (σ : ah_H) : Option (Int32 × ah_H) := op_ck 12 σ x0 (f_X12_isRing_0 x0 x1 σ)
set_option maxRecDepth 100000 in
set_option maxHeartbeats 4000000 in
theorem c_X12_isRing_4_b {G : ah_G}  (K4 : Nat → Int32 → Int32 → Int32 → ah_H → Option (Int32 × ah_H)) (hK4 : ∀ (x0 : Nat) (x1 : Int32) (x2 : Int32) (x3 : Int32) (σ : ah_H) (r : Int32 × ah_H), K4 x0 x1 x2 x3 σ = some r → AW G m_X12_isRing 2 0 0 4 [(0, .ref x0), (1, .int x1), (2, .int x2), (3, .int x3)] [] σ (ah_N G (ah_ri r))) : ∀ (x0 : Nat) (x1 : Int32) (x2 : Int32) (x3 : Int32) (σ : ah_H) (r : Int32 × ah_H), f_X12_isRing_4_b  K4 x0 x1 x2 x3 σ = some r → AW G m_X12_isRing 2 0 0 4 [(0, .ref x0), (1, .int x1), (2, .int x2), (3, .int x3)] [] σ (ah_N G (ah_ri r)) := by
  intro x0 x1 x2 x3 σ r h
  unfold f_X12_isRing_4_b at h
  refine aw_iload_n (pc := 4) 3 dX12_isRing_4 rfl ?_
  refine aw_aload_n (pc := 5) 0 dX12_isRing_5 rfl ?_
  obtain ⟨v1, e, h⟩ := op_bd h
  refine ow_gR (pc := 6) e dX12_isRing_6 fd_X12_15 rfl ?_
  refine aw_iconst (pc := 9) (v := (0 : Int32)) dX12_isRing_9 (by decide) ?_
  obtain ⟨v2, e, h⟩ := op_bd h
  refine ow_aI (pc := 10) e dX12_isRing_10 ?_
  refine aw_icmp_ge (pc := 11) 41 dX12_isRing_11 (by decide) (fun z => ?_) (fun z => ?_)
  · replace h := (if_pos z).symm.trans h
    refine aw_iconst (pc := 41) (v := (0 : Int32)) dX12_isRing_41 (by decide) ?_
    exact ow_zret (pc := 42) h dX12_isRing_42 rfl
  · replace h := (if_neg z).symm.trans h
    refine aw_aload_n (pc := 14) 0 dX12_isRing_14 rfl ?_
    refine aw_iload_n (pc := 15) 2 dX12_isRing_15 rfl ?_
    obtain ⟨r3, e, h⟩ := op_bd h
    refine ow_cVi (pc := 16) [.int x2] ((c_X12_isLaid _ _ _ _ e).mono (by decide)) (op_ck_sh e) rfl dX12_isRing_16 cw_X12_380 rfl (Nat.le_of_ble_eq_true rfl) ?_
    refine aw_if_eq (pc := 19) 41 dX12_isRing_19 (by decide) (fun z => ?_) (fun z => ?_)
    · replace h := (if_pos z).symm.trans h
      refine aw_iconst (pc := 41) (v := (0 : Int32)) dX12_isRing_41 (by decide) ?_
      exact ow_zret (pc := 42) h dX12_isRing_42 rfl
    · replace h := (if_neg z).symm.trans h
      refine aw_aload_n (pc := 22) 0 dX12_isRing_22 rfl ?_
      refine aw_iload_n (pc := 23) 2 dX12_isRing_23 rfl ?_
      obtain ⟨r4, e, h⟩ := op_bd h
      refine ow_cVi (pc := 24) [.int x2] ((c_X12_to _ _ _ _ e).mono (by decide)) (op_ck_sh e) rfl dX12_isRing_24 cw_X12_383 rfl (Nat.le_of_ble_eq_true rfl) ?_
      refine aw_istore_n (pc := 27) [(2, .int r4.1), (0, .ref x0), (1, .int x1), (3, .int x3)] dX12_isRing_27 rfl (by decide) rfl ?_
      refine aw_iload_n (pc := 28) 0 dX12_isRing_28 rfl ?_
      refine aw_iload_n (pc := 29) 2 dX12_isRing_29 rfl ?_
      refine aw_icmp_ne (pc := 30) 35 dX12_isRing_30 (by decide) (fun z => ?_) (fun z => ?_)
      · replace h := (if_neg z).symm.trans h
        refine aw_iinc (pc := 35) 3 [(3, .int (x3 + (1 : Int32))), (2, .int r4.1), (0, .ref x0), (1, .int x1)] (x3 + (1 : Int32)) dX12_isRing_35 rfl rfl (by decide) rfl ?_
        refine aw_goto (pc := 38) 4 dX12_isRing_38 (by decide) ?_
        refine aw_sub [2, 3, 1, 0] rfl ?_
        exact hK4 _ _ _ _ _ _ h
      · replace h := (if_pos z).symm.trans h
        refine aw_iconst (pc := 33) (v := (1 : Int32)) dX12_isRing_33 (by decide) ?_
        exact ow_zret (pc := 34) h dX12_isRing_34 rfl
theorem c_X12_isRing_4 {G : ah_G}   : ∀ (n : Nat) (x0 : Nat) (x1 : Int32) (x2 : Int32) (x3 : Int32) (σ : ah_H) (r : Int32 × ah_H), f_X12_isRing_4   n x0 x1 x2 x3 σ = some r → AW G m_X12_isRing 2 0 0 4 [(0, .ref x0), (1, .int x1), (2, .int x2), (3, .int x3)] [] σ (ah_N G (ah_ri r)) := by
  intro n
  induction n with
  | zero => intro x0 x1 x2 x3 σ r h; cases h
  | succ n ih => intro x0 x1 x2 x3 σ r h; exact c_X12_isRing_4_b   _ ih x0 x1 x2 x3 σ r h
set_option maxRecDepth 100000 in
set_option maxHeartbeats 4000000 in
theorem c_X12_isRing_0 {G : ah_G}   : ∀ (x0 : Nat) (x1 : Int32) (σ : ah_H) (r : Int32 × ah_H), f_X12_isRing_0   x0 x1 σ = some r → AW G m_X12_isRing 2 0 0 0 [(0, .ref x0), (1, .int x1)] [] σ (ah_N G (ah_ri r)) := by
  intro x0 x1 σ r h
  unfold f_X12_isRing_0 at h
  refine aw_iload_n (pc := 0) 1 dX12_isRing_0 rfl ?_
  refine aw_istore_n (pc := 1) [(2, .int x1), (0, .ref x0), (1, .int x1)] dX12_isRing_1 rfl (by decide) rfl ?_
  refine aw_iconst (pc := 2) (v := (0 : Int32)) dX12_isRing_2 (by decide) ?_
  refine aw_istore_n (pc := 3) [(3, .int (0 : Int32)), (2, .int x1), (0, .ref x0), (1, .int x1)] dX12_isRing_3 rfl (by decide) rfl ?_
  refine aw_sub [2, 3, 1, 0] rfl ?_
  exact c_X12_isRing_4  _ _ _ _ _ _ _ h
theorem c_X12_isRing {G : ah_G}   (x0 : Nat) (x1 : Int32) (σ : ah_H) (r : Int32 × ah_H) (h : f_X12_isRing  x0 x1 σ = some r) : AM G m_X12_isRing 2 0 0 [.ref x0, .int x1] σ (ah_ri r) := aw_enter (by decide) (Nat.le_of_ble_eq_true rfl) (c_X12_isRing_0 _ _ _ _ (op_ck_k h))
def f_X12_comesToRiver_44   (x0 : Nat) (x2 : Int32) (σ : ah_H) : Option (Int32 × ah_H) :=
  (op_gR 12 3 σ x0).bind fun v1 => (op_aI σ v1 (4 : Int32)).bind fun v2 => if x2 = v2 then ((op_rz (1 : Int32)).map fun q => (q, σ)) else ((op_rz (0 : Int32)).map fun q => (q, σ))
def f_X12_comesToRiver_4_b  (K4 : Nat → Int32 → Int32 → ah_H → Option (Int32 × ah_H)) (x0 : Nat) (x2 : Int32) (x3 : Int32) (σ : ah_H) : Option (Int32 × ah_H) :=
  (op_gR 12 3 σ x0).bind fun v1 => (op_aI σ v1 (0 : Int32)).bind fun v2 => if v2 ≤ x3 then (f_X12_comesToRiver_44 x0 x2 σ) else ((op_gR 12 3 σ x0).bind fun v3 => (op_aI σ v3 (4 : Int32)).bind fun v4 => if x2 = v4 then (f_X12_comesToRiver_44 x0 x2 σ) else ((f_X12_isLaid x0 x2 σ).bind fun r5 => if r5.1 = 0 then (f_X12_comesToRiver_44 x0 x2 r5.2) else ((f_X12_to x0 x2 r5.2).bind fun r6 => K4 x0 r6.1 (x3 + (1 : Int32)) r6.2)))
def f_X12_comesToRiver_4   : Nat → Nat → Int32 → Int32 → ah_H → Option (Int32 × ah_H)
  | 0, _, _, _, _ => none
  | n + 1, x0, x2, x3, σ => f_X12_comesToRiver_4_b (f_X12_comesToRiver_4 n) x0 x2 x3 σ
def f_X12_comesToRiver_0   (x0 : Nat) (x1 : Int32) (σ : ah_H) : Option (Int32 × ah_H) :=
  f_X12_comesToRiver_4 5000 x0 x1 (0 : Int32) σ
def f_X12_comesToRiver  (x0 : Nat) (x1 : Int32) (σ : ah_H) : Option (Int32 × ah_H) := op_ck 12 σ x0 (f_X12_comesToRiver_0 x0 x1 σ)
set_option maxRecDepth 100000 in
set_option maxHeartbeats 4000000 in
theorem c_X12_comesToRiver_44 {G : ah_G}   : ∀ (x0 : Nat) (x2 : Int32) (σ : ah_H) (r : Int32 × ah_H), f_X12_comesToRiver_44   x0 x2 σ = some r → AW G m_X12_comesToRiver 2 0 0 44 [(0, .ref x0), (2, .int x2)] [] σ (ah_N G (ah_ri r)) := by
  intro x0 x2 σ r h
  unfold f_X12_comesToRiver_44 at h
  refine aw_iload_n (pc := 44) 1 dX12_comesToRiver_44 rfl ?_
  refine aw_aload_n (pc := 45) 0 dX12_comesToRiver_45 rfl ?_
  obtain ⟨v1, e, h⟩ := op_bd h
  refine ow_gR (pc := 46) e dX12_comesToRiver_46 fd_X12_15 rfl ?_
  refine aw_iconst (pc := 49) (v := (4 : Int32)) dX12_comesToRiver_49 (by decide) ?_
  obtain ⟨v2, e, h⟩ := op_bd h
  refine ow_aI (pc := 50) e dX12_comesToRiver_50 ?_
  refine aw_icmp_ne (pc := 51) 58 dX12_comesToRiver_51 (by decide) (fun z => ?_) (fun z => ?_)
  · replace h := (if_neg z).symm.trans h
    refine aw_iconst (pc := 58) (v := (0 : Int32)) dX12_comesToRiver_58 (by decide) ?_
    exact ow_zret (pc := 59) h dX12_comesToRiver_59 rfl
  · replace h := (if_pos z).symm.trans h
    refine aw_iconst (pc := 54) (v := (1 : Int32)) dX12_comesToRiver_54 (by decide) ?_
    refine aw_goto (pc := 55) 59 dX12_comesToRiver_55 (by decide) ?_
    exact ow_zret (pc := 59) h dX12_comesToRiver_59 rfl
set_option maxRecDepth 100000 in
set_option maxHeartbeats 4000000 in
theorem c_X12_comesToRiver_4_b {G : ah_G}  (K4 : Nat → Int32 → Int32 → ah_H → Option (Int32 × ah_H)) (hK4 : ∀ (x0 : Nat) (x2 : Int32) (x3 : Int32) (σ : ah_H) (r : Int32 × ah_H), K4 x0 x2 x3 σ = some r → AW G m_X12_comesToRiver 2 0 0 4 [(0, .ref x0), (2, .int x2), (3, .int x3)] [] σ (ah_N G (ah_ri r))) : ∀ (x0 : Nat) (x2 : Int32) (x3 : Int32) (σ : ah_H) (r : Int32 × ah_H), f_X12_comesToRiver_4_b  K4 x0 x2 x3 σ = some r → AW G m_X12_comesToRiver 2 0 0 4 [(0, .ref x0), (2, .int x2), (3, .int x3)] [] σ (ah_N G (ah_ri r)) := by
  intro x0 x2 x3 σ r h
  unfold f_X12_comesToRiver_4_b at h
  refine aw_iload_n (pc := 4) 2 dX12_comesToRiver_4 rfl ?_
  refine aw_aload_n (pc := 5) 0 dX12_comesToRiver_5 rfl ?_
  obtain ⟨v1, e, h⟩ := op_bd h
  refine ow_gR (pc := 6) e dX12_comesToRiver_6 fd_X12_15 rfl ?_
  refine aw_iconst (pc := 9) (v := (0 : Int32)) dX12_comesToRiver_9 (by decide) ?_
  obtain ⟨v2, e, h⟩ := op_bd h
  refine ow_aI (pc := 10) e dX12_comesToRiver_10 ?_
  refine aw_icmp_ge (pc := 11) 44 dX12_comesToRiver_11 (by decide) (fun z => ?_) (fun z => ?_)
  · replace h := (if_pos z).symm.trans h
    refine aw_sub [0, 1] rfl ?_
    exact c_X12_comesToRiver_44  _ _ _ _ h
  · replace h := (if_neg z).symm.trans h
    refine aw_iload_n (pc := 14) 1 dX12_comesToRiver_14 rfl ?_
    refine aw_aload_n (pc := 15) 0 dX12_comesToRiver_15 rfl ?_
    obtain ⟨v3, e, h⟩ := op_bd h
    refine ow_gR (pc := 16) e dX12_comesToRiver_16 fd_X12_15 rfl ?_
    refine aw_iconst (pc := 19) (v := (4 : Int32)) dX12_comesToRiver_19 (by decide) ?_
    obtain ⟨v4, e, h⟩ := op_bd h
    refine ow_aI (pc := 20) e dX12_comesToRiver_20 ?_
    refine aw_icmp_eq (pc := 21) 44 dX12_comesToRiver_21 (by decide) (fun z => ?_) (fun z => ?_)
    · replace h := (if_pos z).symm.trans h
      refine aw_sub [0, 1] rfl ?_
      exact c_X12_comesToRiver_44  _ _ _ _ h
    · replace h := (if_neg z).symm.trans h
      refine aw_aload_n (pc := 24) 0 dX12_comesToRiver_24 rfl ?_
      refine aw_iload_n (pc := 25) 1 dX12_comesToRiver_25 rfl ?_
      obtain ⟨r5, e, h⟩ := op_bd h
      refine ow_cVi (pc := 26) [.int x2] ((c_X12_isLaid _ _ _ _ e).mono (by decide)) (op_ck_sh e) rfl dX12_comesToRiver_26 cw_X12_380 rfl (Nat.le_of_ble_eq_true rfl) ?_
      refine aw_if_eq (pc := 29) 44 dX12_comesToRiver_29 (by decide) (fun z => ?_) (fun z => ?_)
      · replace h := (if_pos z).symm.trans h
        refine aw_sub [0, 1] rfl ?_
        exact c_X12_comesToRiver_44  _ _ _ _ h
      · replace h := (if_neg z).symm.trans h
        refine aw_aload_n (pc := 32) 0 dX12_comesToRiver_32 rfl ?_
        refine aw_iload_n (pc := 33) 1 dX12_comesToRiver_33 rfl ?_
        obtain ⟨r6, e, h⟩ := op_bd h
        refine ow_cVi (pc := 34) [.int x2] ((c_X12_to _ _ _ _ e).mono (by decide)) (op_ck_sh e) rfl dX12_comesToRiver_34 cw_X12_383 rfl (Nat.le_of_ble_eq_true rfl) ?_
        refine aw_istore_n (pc := 37) [(2, .int r6.1), (0, .ref x0), (3, .int x3)] dX12_comesToRiver_37 rfl (by decide) rfl ?_
        refine aw_iinc (pc := 38) 2 [(3, .int (x3 + (1 : Int32))), (2, .int r6.1), (0, .ref x0)] (x3 + (1 : Int32)) dX12_comesToRiver_38 rfl rfl (by decide) rfl ?_
        refine aw_goto (pc := 41) 4 dX12_comesToRiver_41 (by decide) ?_
        refine aw_sub [2, 1, 0] rfl ?_
        exact hK4 _ _ _ _ _ h
theorem c_X12_comesToRiver_4 {G : ah_G}   : ∀ (n : Nat) (x0 : Nat) (x2 : Int32) (x3 : Int32) (σ : ah_H) (r : Int32 × ah_H), f_X12_comesToRiver_4   n x0 x2 x3 σ = some r → AW G m_X12_comesToRiver 2 0 0 4 [(0, .ref x0), (2, .int x2), (3, .int x3)] [] σ (ah_N G (ah_ri r)) := by
  intro n
  induction n with
  | zero => intro x0 x2 x3 σ r h; cases h
  | succ n ih => intro x0 x2 x3 σ r h; exact c_X12_comesToRiver_4_b   _ ih x0 x2 x3 σ r h
set_option maxRecDepth 100000 in
set_option maxHeartbeats 4000000 in
theorem c_X12_comesToRiver_0 {G : ah_G}   : ∀ (x0 : Nat) (x1 : Int32) (σ : ah_H) (r : Int32 × ah_H), f_X12_comesToRiver_0   x0 x1 σ = some r → AW G m_X12_comesToRiver 2 0 0 0 [(0, .ref x0), (1, .int x1)] [] σ (ah_N G (ah_ri r)) := by
  intro x0 x1 σ r h
  unfold f_X12_comesToRiver_0 at h
  refine aw_iload_n (pc := 0) 1 dX12_comesToRiver_0 rfl ?_
  refine aw_istore_n (pc := 1) [(2, .int x1), (0, .ref x0), (1, .int x1)] dX12_comesToRiver_1 rfl (by decide) rfl ?_
  refine aw_iconst (pc := 2) (v := (0 : Int32)) dX12_comesToRiver_2 (by decide) ?_
  refine aw_istore_n (pc := 3) [(3, .int (0 : Int32)), (2, .int x1), (0, .ref x0), (1, .int x1)] dX12_comesToRiver_3 rfl (by decide) rfl ?_
  refine aw_sub [2, 1, 0] rfl ?_
  exact c_X12_comesToRiver_4  _ _ _ _ _ _ h
theorem c_X12_comesToRiver {G : ah_G}   (x0 : Nat) (x1 : Int32) (σ : ah_H) (r : Int32 × ah_H) (h : f_X12_comesToRiver  x0 x1 σ = some r) : AM G m_X12_comesToRiver 2 0 0 [.ref x0, .int x1] σ (ah_ri r) := aw_enter (by decide) (Nat.le_of_ble_eq_true rfl) (c_X12_comesToRiver_0 _ _ _ _ (op_ck_k h))
def f_X12_atFlow_0   (x0 : Int32) (x1 : Int32) (x2 : Int32) (σ : ah_H) : Option (Int32 × ah_H) :=
  some (((((x0 * (4 : Int32)) + x1) * (30 : Int32)) + x2), σ)
def f_X12_atFlow  (x0 : Int32) (x1 : Int32) (x2 : Int32) (σ : ah_H) : Option (Int32 × ah_H) := f_X12_atFlow_0 x0 x1 x2 σ
set_option maxRecDepth 100000 in
set_option maxHeartbeats 4000000 in
theorem c_X12_atFlow_0 {G : ah_G}   : ∀ (x0 : Int32) (x1 : Int32) (x2 : Int32) (σ : ah_H) (r : Int32 × ah_H), f_X12_atFlow_0   x0 x1 x2 σ = some r → AW G m_X12_atFlow 0 0 0 0 [(0, .int x0), (1, .int x1), (2, .int x2)] [] σ (ah_N G (ah_ri r)) := by
  intro x0 x1 x2 σ r h
  unfold f_X12_atFlow_0 at h
  refine aw_iload_n (pc := 0) 0 dX12_atFlow_0 rfl ?_
  refine aw_iconst (pc := 1) (v := (4 : Int32)) dX12_atFlow_1 (by decide) ?_
  refine aw_imul (pc := 2) dX12_atFlow_2 ?_
  refine aw_iload_n (pc := 3) 1 dX12_atFlow_3 rfl ?_
  refine aw_iadd (pc := 4) dX12_atFlow_4 ?_
  refine aw_bipush (pc := 5) (v := (30 : Int32)) dX12_atFlow_5 (by decide) ?_
  refine aw_imul (pc := 7) dX12_atFlow_7 ?_
  refine aw_iload_n (pc := 8) 2 dX12_atFlow_8 rfl ?_
  refine aw_iadd (pc := 9) dX12_atFlow_9 ?_
  exact ow_iret (pc := 10) h dX12_atFlow_10 rfl
theorem c_X12_atFlow {G : ah_G}   (x0 : Int32) (x1 : Int32) (x2 : Int32) (σ : ah_H) (r : Int32 × ah_H) (h : f_X12_atFlow  x0 x1 x2 σ = some r) : AM G m_X12_atFlow 0 0 0 [.int x0, .int x1, .int x2] σ (ah_ri r) := aw_enter (by decide) (Nat.le_of_ble_eq_true rfl) (c_X12_atFlow_0 _ _ _ _ _ h)
def f_X12_flowOf_150  (K19 : Nat → Int32 → Int64 → Int32 → ah_H → Option (ah_H)) (K33 : Nat → Int32 → Int64 → Int32 → Int32 → ah_H → Option (ah_H)) (K82 : Nat → Int32 → Int64 → Int32 → Int32 → Int64 → Int32 → ah_H → Option (ah_H)) (x0 : Nat) (x1 : Int32) (x3 : Int64) (x5 : Int32) (x6 : Int32) (x7 : Int64) (x9 : Int32) (σ : ah_H) : Option (ah_H) :=
  K82 x0 x1 x3 x5 x6 x7 (x9 + (1 : Int32)) σ
def f_X12_flowOf_156  (K19 : Nat → Int32 → Int64 → Int32 → ah_H → Option (ah_H)) (K33 : Nat → Int32 → Int64 → Int32 → Int32 → ah_H → Option (ah_H)) (x0 : Nat) (x1 : Int32) (x3 : Int64) (x5 : Int32) (x6 : Int32) (x7 : Int64) (σ : ah_H) : Option (ah_H) :=
  (op_gR 12 43 σ x0).bind fun v1 => (f_X12_atFlow x1 x5 x6 σ).bind fun r2 => (op_sL r2.2 v1 r2.1 (op_minl x3 x7)).bind fun σ3 => (op_gR 12 44 σ3 x0).bind fun v4 => (f_X12_atFlow x1 x5 x6 σ3).bind fun r5 => (op_sL r5.2 v4 r5.1 (op_maxl (0 : Int64) (x7 - x3))).bind fun σ6 => K33 x0 x1 x3 x5 (x6 + (1 : Int32)) σ6
def f_X12_flowOf_82_b  (K19 : Nat → Int32 → Int64 → Int32 → ah_H → Option (ah_H)) (K33 : Nat → Int32 → Int64 → Int32 → Int32 → ah_H → Option (ah_H)) (K82 : Nat → Int32 → Int64 → Int32 → Int32 → Int64 → Int32 → ah_H → Option (ah_H)) (x0 : Nat) (x1 : Int32) (x3 : Int64) (x5 : Int32) (x6 : Int32) (x7 : Int64) (x9 : Int32) (σ : ah_H) : Option (ah_H) :=
  (op_gR 12 3 σ x0).bind fun v1 => (op_aI σ v1 (0 : Int32)).bind fun v2 => if v2 ≤ x9 then (f_X12_flowOf_156 K19 K33 x0 x1 x3 x5 x6 x7 σ) else ((f_X12_runsTo x0 x9 x1 σ).bind fun r3 => if r3.1 = 0 then (f_X12_flowOf_150 K19 K33 K82 x0 x1 x3 x5 x6 x7 x9 r3.2) else ((op_gR 12 11 r3.2 x0).bind fun v4 => (f_X12_streetOf x0 x9 r3.2).bind fun r5 => (op_aI r5.2 v4 r5.1).bind fun v6 => if x6 < v6 then (f_X12_flowOf_150 K19 K33 K82 x0 x1 x3 x5 x6 x7 x9 r5.2) else ((op_gR 12 43 r5.2 x0).bind fun v7 => (op_gR 12 11 r5.2 x0).bind fun v8 => (f_X12_streetOf x0 x9 r5.2).bind fun r9 => (op_aI r9.2 v8 r9.1).bind fun v10 => (f_X12_atFlow x9 x5 (x6 - v10) r9.2).bind fun r11 => (op_aL r11.2 v7 r11.1).bind fun v12 => f_X12_flowOf_150 K19 K33 K82 x0 x1 x3 x5 x6 (x7 + v12) x9 r11.2)))
def f_X12_flowOf_82  (K19 : Nat → Int32 → Int64 → Int32 → ah_H → Option (ah_H)) (K33 : Nat → Int32 → Int64 → Int32 → Int32 → ah_H → Option (ah_H)) : Nat → Nat → Int32 → Int64 → Int32 → Int32 → Int64 → Int32 → ah_H → Option (ah_H)
  | 0, _, _, _, _, _, _, _, _ => none
  | n + 1, x0, x1, x3, x5, x6, x7, x9, σ => f_X12_flowOf_82_b K19 K33 (f_X12_flowOf_82 K19 K33 n) x0 x1 x3 x5 x6 x7 x9 σ
def f_X12_flowOf_77  (K19 : Nat → Int32 → Int64 → Int32 → ah_H → Option (ah_H)) (K33 : Nat → Int32 → Int64 → Int32 → Int32 → ah_H → Option (ah_H)) (x0 : Nat) (x1 : Int32) (x3 : Int64) (x5 : Int32) (x6 : Int32) (s0 : Int64) (σ : ah_H) : Option (ah_H) :=
  f_X12_flowOf_82 K19 K33 5000 x0 x1 x3 x5 x6 s0 (0 : Int32) σ
def f_X12_flowOf_202  (K19 : Nat → Int32 → Int64 → Int32 → ah_H → Option (ah_H)) (x0 : Nat) (x1 : Int32) (x3 : Int64) (x5 : Int32) (σ : ah_H) : Option (ah_H) :=
  K19 x0 x1 x3 (x5 + (1 : Int32)) σ
def f_X12_flowOf_33_b  (K19 : Nat → Int32 → Int64 → Int32 → ah_H → Option (ah_H)) (K33 : Nat → Int32 → Int64 → Int32 → Int32 → ah_H → Option (ah_H)) (x0 : Nat) (x1 : Int32) (x3 : Int64) (x5 : Int32) (x6 : Int32) (σ : ah_H) : Option (ah_H) :=
  if (30 : Int32) ≤ x6 then (f_X12_flowOf_202 K19 x0 x1 x3 x5 σ) else ((op_gR 12 16 σ x0).bind fun v1 => (op_aI σ v1 x5).bind fun v2 => if v2 ≤ x6 then (f_X12_flowOf_77 K19 K33 x0 x1 x3 x5 x6 (0 : Int64) σ) else ((op_gR 12 6 σ x0).bind fun v3 => (op_aI σ v3 x1).bind fun v4 => (op_gR 12 17 σ x0).bind fun v5 => (op_aI σ v5 (((6 : Int32) * x5) + x6)).bind fun v6 => f_X12_flowOf_77 K19 K33 x0 x1 x3 x5 x6 (Int32.toInt64 (v4 * v6)) σ))
def f_X12_flowOf_33  (K19 : Nat → Int32 → Int64 → Int32 → ah_H → Option (ah_H)) : Nat → Nat → Int32 → Int64 → Int32 → Int32 → ah_H → Option (ah_H)
  | 0, _, _, _, _, _, _ => none
  | n + 1, x0, x1, x3, x5, x6, σ => f_X12_flowOf_33_b K19 (f_X12_flowOf_33 K19 n) x0 x1 x3 x5 x6 σ
def f_X12_flowOf_19_b  (K19 : Nat → Int32 → Int64 → Int32 → ah_H → Option (ah_H)) (x0 : Nat) (x1 : Int32) (x3 : Int64) (x5 : Int32) (σ : ah_H) : Option (ah_H) :=
  (op_gR 12 3 σ x0).bind fun v1 => (op_aI σ v1 (3 : Int32)).bind fun v2 => if v2 ≤ x5 then (some σ) else (f_X12_flowOf_33 K19 5000 x0 x1 x3 x5 (0 : Int32) σ)
def f_X12_flowOf_19   : Nat → Nat → Int32 → Int64 → Int32 → ah_H → Option (ah_H)
  | 0, _, _, _, _, _ => none
  | n + 1, x0, x1, x3, x5, σ => f_X12_flowOf_19_b (f_X12_flowOf_19 n) x0 x1 x3 x5 σ
def f_X12_flowOf_15   (x0 : Nat) (x1 : Int32) (s0 : Int64) (σ : ah_H) : Option (ah_H) :=
  f_X12_flowOf_19 5000 x0 x1 s0 (0 : Int32) σ
def f_X12_flowOf_0   (x0 : Nat) (x1 : Int32) (x2 : Int32) (σ : ah_H) : Option (ah_H) :=
  if x2 = 0 then (f_X12_flowOf_15 x0 x1 (4000000000000000000 : Int64) σ) else ((f_X12_carriesOf x0 x1 σ).bind fun r1 => f_X12_flowOf_15 x0 x1 r1.1 r1.2)
def f_X12_flowOf  (x0 : Nat) (x1 : Int32) (x2 : Int32) (σ : ah_H) : Option (ah_H) := op_ck 12 σ x0 (f_X12_flowOf_0 x0 x1 x2 σ)
set_option maxRecDepth 100000 in
set_option maxHeartbeats 4000000 in
theorem c_X12_flowOf_150 {G : ah_G}  (K19 : Nat → Int32 → Int64 → Int32 → ah_H → Option (ah_H)) (hK19 : ∀ (x0 : Nat) (x1 : Int32) (x3 : Int64) (x5 : Int32) (σ : ah_H) (r : ah_H), K19 x0 x1 x3 x5 σ = some r → AW G m_X12_flowOf 5 0 0 19 [(0, .ref x0), (1, .int x1), (3, .long x3), (5, .int x5)] [] σ (ah_N G (ah_rv r))) (K33 : Nat → Int32 → Int64 → Int32 → Int32 → ah_H → Option (ah_H)) (hK33 : ∀ (x0 : Nat) (x1 : Int32) (x3 : Int64) (x5 : Int32) (x6 : Int32) (σ : ah_H) (r : ah_H), K33 x0 x1 x3 x5 x6 σ = some r → AW G m_X12_flowOf 5 0 0 33 [(0, .ref x0), (1, .int x1), (3, .long x3), (5, .int x5), (6, .int x6)] [] σ (ah_N G (ah_rv r))) (K82 : Nat → Int32 → Int64 → Int32 → Int32 → Int64 → Int32 → ah_H → Option (ah_H)) (hK82 : ∀ (x0 : Nat) (x1 : Int32) (x3 : Int64) (x5 : Int32) (x6 : Int32) (x7 : Int64) (x9 : Int32) (σ : ah_H) (r : ah_H), K82 x0 x1 x3 x5 x6 x7 x9 σ = some r → AW G m_X12_flowOf 5 0 0 82 [(0, .ref x0), (1, .int x1), (3, .long x3), (5, .int x5), (6, .int x6), (7, .long x7), (9, .int x9)] [] σ (ah_N G (ah_rv r))) : ∀ (x0 : Nat) (x1 : Int32) (x3 : Int64) (x5 : Int32) (x6 : Int32) (x7 : Int64) (x9 : Int32) (σ : ah_H) (r : ah_H), f_X12_flowOf_150  K19 K33 K82 x0 x1 x3 x5 x6 x7 x9 σ = some r → AW G m_X12_flowOf 5 0 0 150 [(0, .ref x0), (1, .int x1), (3, .long x3), (5, .int x5), (6, .int x6), (7, .long x7), (9, .int x9)] [] σ (ah_N G (ah_rv r)) := by
  intro x0 x1 x3 x5 x6 x7 x9 σ r h
  unfold f_X12_flowOf_150 at h
  refine aw_iinc (pc := 150) 6 [(9, .int (x9 + (1 : Int32))), (0, .ref x0), (1, .int x1), (3, .long x3), (5, .int x5), (6, .int x6), (7, .long x7)] (x9 + (1 : Int32)) dX12_flowOf_150 rfl rfl (by decide) rfl ?_
  refine aw_goto (pc := 153) 82 dX12_flowOf_153 (by decide) ?_
  refine aw_sub [1, 2, 3, 4, 5, 6, 0] rfl ?_
  exact hK82 _ _ _ _ _ _ _ _ _ h
set_option maxRecDepth 100000 in
set_option maxHeartbeats 4000000 in
theorem c_X12_flowOf_156 {G : ah_G}  (K19 : Nat → Int32 → Int64 → Int32 → ah_H → Option (ah_H)) (hK19 : ∀ (x0 : Nat) (x1 : Int32) (x3 : Int64) (x5 : Int32) (σ : ah_H) (r : ah_H), K19 x0 x1 x3 x5 σ = some r → AW G m_X12_flowOf 5 0 0 19 [(0, .ref x0), (1, .int x1), (3, .long x3), (5, .int x5)] [] σ (ah_N G (ah_rv r))) (K33 : Nat → Int32 → Int64 → Int32 → Int32 → ah_H → Option (ah_H)) (hK33 : ∀ (x0 : Nat) (x1 : Int32) (x3 : Int64) (x5 : Int32) (x6 : Int32) (σ : ah_H) (r : ah_H), K33 x0 x1 x3 x5 x6 σ = some r → AW G m_X12_flowOf 5 0 0 33 [(0, .ref x0), (1, .int x1), (3, .long x3), (5, .int x5), (6, .int x6)] [] σ (ah_N G (ah_rv r))) : ∀ (x0 : Nat) (x1 : Int32) (x3 : Int64) (x5 : Int32) (x6 : Int32) (x7 : Int64) (σ : ah_H) (r : ah_H), f_X12_flowOf_156  K19 K33 x0 x1 x3 x5 x6 x7 σ = some r → AW G m_X12_flowOf 5 0 0 156 [(0, .ref x0), (1, .int x1), (3, .long x3), (5, .int x5), (6, .int x6), (7, .long x7)] [] σ (ah_N G (ah_rv r)) := by
  intro x0 x1 x3 x5 x6 x7 σ r h
  unfold f_X12_flowOf_156 at h
  refine aw_aload_n (pc := 156) 0 dX12_flowOf_156 rfl ?_
  obtain ⟨v1, e, h⟩ := op_bd h
  refine ow_gR (pc := 157) e dX12_flowOf_157 fd_X12_95 rfl ?_
  refine aw_iload_n (pc := 160) 1 dX12_flowOf_160 rfl ?_
  refine aw_iload (pc := 161) 3 dX12_flowOf_161 rfl ?_
  refine aw_iload (pc := 163) 4 dX12_flowOf_163 rfl ?_
  obtain ⟨r2, e, h⟩ := op_bd h
  refine ow_cSi (pc := 165) [.int x1, .int x5, .int x6] ((c_X12_atFlow _ _ _ _ _ e).mono (by decide)) rfl dX12_flowOf_165 cw_X12_425 rfl (Nat.le_of_ble_eq_true rfl) ?_
  refine aw_lload_n (pc := 168) 2 dX12_flowOf_168 rfl ?_
  refine aw_lload (pc := 169) 5 dX12_flowOf_169 rfl ?_
  refine ow_minl (pc := 171) dX12_flowOf_171 mt_X12_429 (Nat.le_of_ble_eq_true rfl) ?_
  obtain ⟨σ3, e, h⟩ := op_bd h
  refine ow_sL (pc := 174) e dX12_flowOf_174 ?_
  refine aw_aload_n (pc := 175) 0 dX12_flowOf_175 rfl ?_
  obtain ⟨v4, e, h⟩ := op_bd h
  refine ow_gR (pc := 176) e dX12_flowOf_176 fd_X12_98 rfl ?_
  refine aw_iload_n (pc := 179) 1 dX12_flowOf_179 rfl ?_
  refine aw_iload (pc := 180) 3 dX12_flowOf_180 rfl ?_
  refine aw_iload (pc := 182) 4 dX12_flowOf_182 rfl ?_
  obtain ⟨r5, e, h⟩ := op_bd h
  refine ow_cSi (pc := 184) [.int x1, .int x5, .int x6] ((c_X12_atFlow _ _ _ _ _ e).mono (by decide)) rfl dX12_flowOf_184 cw_X12_425 rfl (Nat.le_of_ble_eq_true rfl) ?_
  refine aw_lconst (pc := 187) (v := (0 : Int64)) dX12_flowOf_187 (by decide) ?_
  refine aw_lload (pc := 188) 5 dX12_flowOf_188 rfl ?_
  refine aw_lload_n (pc := 190) 2 dX12_flowOf_190 rfl ?_
  refine aw_lsub (pc := 191) dX12_flowOf_191 ?_
  refine ow_maxl (pc := 192) dX12_flowOf_192 mt_X12_353 (Nat.le_of_ble_eq_true rfl) ?_
  obtain ⟨σ6, e, h⟩ := op_bd h
  refine ow_sL (pc := 195) e dX12_flowOf_195 ?_
  refine aw_iinc (pc := 196) 4 [(6, .int (x6 + (1 : Int32))), (0, .ref x0), (1, .int x1), (3, .long x3), (5, .int x5), (7, .long x7)] (x6 + (1 : Int32)) dX12_flowOf_196 rfl rfl (by decide) rfl ?_
  refine aw_goto (pc := 199) 33 dX12_flowOf_199 (by decide) ?_
  refine aw_sub [1, 2, 3, 4, 0] rfl ?_
  exact hK33 _ _ _ _ _ _ _ h
set_option maxRecDepth 100000 in
set_option maxHeartbeats 4000000 in
theorem c_X12_flowOf_82_b {G : ah_G}  (K19 : Nat → Int32 → Int64 → Int32 → ah_H → Option (ah_H)) (hK19 : ∀ (x0 : Nat) (x1 : Int32) (x3 : Int64) (x5 : Int32) (σ : ah_H) (r : ah_H), K19 x0 x1 x3 x5 σ = some r → AW G m_X12_flowOf 5 0 0 19 [(0, .ref x0), (1, .int x1), (3, .long x3), (5, .int x5)] [] σ (ah_N G (ah_rv r))) (K33 : Nat → Int32 → Int64 → Int32 → Int32 → ah_H → Option (ah_H)) (hK33 : ∀ (x0 : Nat) (x1 : Int32) (x3 : Int64) (x5 : Int32) (x6 : Int32) (σ : ah_H) (r : ah_H), K33 x0 x1 x3 x5 x6 σ = some r → AW G m_X12_flowOf 5 0 0 33 [(0, .ref x0), (1, .int x1), (3, .long x3), (5, .int x5), (6, .int x6)] [] σ (ah_N G (ah_rv r))) (K82 : Nat → Int32 → Int64 → Int32 → Int32 → Int64 → Int32 → ah_H → Option (ah_H)) (hK82 : ∀ (x0 : Nat) (x1 : Int32) (x3 : Int64) (x5 : Int32) (x6 : Int32) (x7 : Int64) (x9 : Int32) (σ : ah_H) (r : ah_H), K82 x0 x1 x3 x5 x6 x7 x9 σ = some r → AW G m_X12_flowOf 5 0 0 82 [(0, .ref x0), (1, .int x1), (3, .long x3), (5, .int x5), (6, .int x6), (7, .long x7), (9, .int x9)] [] σ (ah_N G (ah_rv r))) : ∀ (x0 : Nat) (x1 : Int32) (x3 : Int64) (x5 : Int32) (x6 : Int32) (x7 : Int64) (x9 : Int32) (σ : ah_H) (r : ah_H), f_X12_flowOf_82_b  K19 K33 K82 x0 x1 x3 x5 x6 x7 x9 σ = some r → AW G m_X12_flowOf 5 0 0 82 [(0, .ref x0), (1, .int x1), (3, .long x3), (5, .int x5), (6, .int x6), (7, .long x7), (9, .int x9)] [] σ (ah_N G (ah_rv r)) := by
  intro x0 x1 x3 x5 x6 x7 x9 σ r h
  unfold f_X12_flowOf_82_b at h
  refine aw_iload (pc := 82) 6 dX12_flowOf_82 rfl ?_
  refine aw_aload_n (pc := 84) 0 dX12_flowOf_84 rfl ?_
  obtain ⟨v1, e, h⟩ := op_bd h
  refine ow_gR (pc := 85) e dX12_flowOf_85 fd_X12_15 rfl ?_
  refine aw_iconst (pc := 88) (v := (0 : Int32)) dX12_flowOf_88 (by decide) ?_
  obtain ⟨v2, e, h⟩ := op_bd h
  refine ow_aI (pc := 89) e dX12_flowOf_89 ?_
  refine aw_icmp_ge (pc := 90) 156 dX12_flowOf_90 (by decide) (fun z => ?_) (fun z => ?_)
  · replace h := (if_pos z).symm.trans h
    refine aw_sub [0, 1, 2, 3, 4, 5] rfl ?_
    exact c_X12_flowOf_156 K19 hK19 K33 hK33 _ _ _ _ _ _ _ _ h
  · replace h := (if_neg z).symm.trans h
    refine aw_aload_n (pc := 93) 0 dX12_flowOf_93 rfl ?_
    refine aw_iload (pc := 94) 6 dX12_flowOf_94 rfl ?_
    refine aw_iload_n (pc := 96) 1 dX12_flowOf_96 rfl ?_
    obtain ⟨r3, e, h⟩ := op_bd h
    refine ow_cVi (pc := 97) [.int x9, .int x1] ((c_X12_runsTo _ _ _ _ _ e).mono (by decide)) (op_ck_sh e) rfl dX12_flowOf_97 cw_X12_416 rfl (Nat.le_of_ble_eq_true rfl) ?_
    refine aw_if_eq (pc := 100) 150 dX12_flowOf_100 (by decide) (fun z => ?_) (fun z => ?_)
    · replace h := (if_pos z).symm.trans h
      exact c_X12_flowOf_150 K19 hK19 K33 hK33 K82 hK82 _ _ _ _ _ _ _ _ _ h
    · replace h := (if_neg z).symm.trans h
      refine aw_iload (pc := 103) 4 dX12_flowOf_103 rfl ?_
      refine aw_aload_n (pc := 105) 0 dX12_flowOf_105 rfl ?_
      obtain ⟨v4, e, h⟩ := op_bd h
      refine ow_gR (pc := 106) e dX12_flowOf_106 fd_X12_39 rfl ?_
      refine aw_aload_n (pc := 109) 0 dX12_flowOf_109 rfl ?_
      refine aw_iload (pc := 110) 6 dX12_flowOf_110 rfl ?_
      obtain ⟨r5, e, h⟩ := op_bd h
      refine ow_cVi (pc := 112) [.int x9] ((c_X12_streetOf _ _ _ _ e).mono (by decide)) (op_ck_sh e) rfl dX12_flowOf_112 cw_X12_374 rfl (Nat.le_of_ble_eq_true rfl) ?_
      obtain ⟨v6, e, h⟩ := op_bd h
      refine ow_aI (pc := 115) e dX12_flowOf_115 ?_
      refine aw_icmp_lt (pc := 116) 150 dX12_flowOf_116 (by decide) (fun z => ?_) (fun z => ?_)
      · replace h := (if_pos z).symm.trans h
        exact c_X12_flowOf_150 K19 hK19 K33 hK33 K82 hK82 _ _ _ _ _ _ _ _ _ h
      · replace h := (if_neg z).symm.trans h
        refine aw_lload (pc := 119) 5 dX12_flowOf_119 rfl ?_
        refine aw_aload_n (pc := 121) 0 dX12_flowOf_121 rfl ?_
        obtain ⟨v7, e, h⟩ := op_bd h
        refine ow_gR (pc := 122) e dX12_flowOf_122 fd_X12_95 rfl ?_
        refine aw_iload (pc := 125) 6 dX12_flowOf_125 rfl ?_
        refine aw_iload (pc := 127) 3 dX12_flowOf_127 rfl ?_
        refine aw_iload (pc := 129) 4 dX12_flowOf_129 rfl ?_
        refine aw_aload_n (pc := 131) 0 dX12_flowOf_131 rfl ?_
        obtain ⟨v8, e, h⟩ := op_bd h
        refine ow_gR (pc := 132) e dX12_flowOf_132 fd_X12_39 rfl ?_
        refine aw_aload_n (pc := 135) 0 dX12_flowOf_135 rfl ?_
        refine aw_iload (pc := 136) 6 dX12_flowOf_136 rfl ?_
        obtain ⟨r9, e, h⟩ := op_bd h
        refine ow_cVi (pc := 138) [.int x9] ((c_X12_streetOf _ _ _ _ e).mono (by decide)) (op_ck_sh e) rfl dX12_flowOf_138 cw_X12_374 rfl (Nat.le_of_ble_eq_true rfl) ?_
        obtain ⟨v10, e, h⟩ := op_bd h
        refine ow_aI (pc := 141) e dX12_flowOf_141 ?_
        refine aw_isub (pc := 142) dX12_flowOf_142 ?_
        obtain ⟨r11, e, h⟩ := op_bd h
        refine ow_cSi (pc := 143) [.int x9, .int x5, .int (x6 - v10)] ((c_X12_atFlow _ _ _ _ _ e).mono (by decide)) rfl dX12_flowOf_143 cw_X12_425 rfl (Nat.le_of_ble_eq_true rfl) ?_
        obtain ⟨v12, e, h⟩ := op_bd h
        refine ow_aL (pc := 146) e dX12_flowOf_146 ?_
        refine aw_ladd (pc := 147) dX12_flowOf_147 ?_
        refine aw_lstore (pc := 148) [(7, .long (x7 + v12)), (0, .ref x0), (1, .int x1), (3, .long x3), (5, .int x5), (6, .int x6), (9, .int x9)] dX12_flowOf_148 (by decide) rfl ?_
        refine aw_sub [1, 2, 3, 4, 5, 0, 6] rfl ?_
        exact c_X12_flowOf_150 K19 hK19 K33 hK33 K82 hK82 _ _ _ _ _ _ _ _ _ h
theorem c_X12_flowOf_82 {G : ah_G}  (K19 : Nat → Int32 → Int64 → Int32 → ah_H → Option (ah_H)) (hK19 : ∀ (x0 : Nat) (x1 : Int32) (x3 : Int64) (x5 : Int32) (σ : ah_H) (r : ah_H), K19 x0 x1 x3 x5 σ = some r → AW G m_X12_flowOf 5 0 0 19 [(0, .ref x0), (1, .int x1), (3, .long x3), (5, .int x5)] [] σ (ah_N G (ah_rv r))) (K33 : Nat → Int32 → Int64 → Int32 → Int32 → ah_H → Option (ah_H)) (hK33 : ∀ (x0 : Nat) (x1 : Int32) (x3 : Int64) (x5 : Int32) (x6 : Int32) (σ : ah_H) (r : ah_H), K33 x0 x1 x3 x5 x6 σ = some r → AW G m_X12_flowOf 5 0 0 33 [(0, .ref x0), (1, .int x1), (3, .long x3), (5, .int x5), (6, .int x6)] [] σ (ah_N G (ah_rv r))) : ∀ (n : Nat) (x0 : Nat) (x1 : Int32) (x3 : Int64) (x5 : Int32) (x6 : Int32) (x7 : Int64) (x9 : Int32) (σ : ah_H) (r : ah_H), f_X12_flowOf_82  K19 K33 n x0 x1 x3 x5 x6 x7 x9 σ = some r → AW G m_X12_flowOf 5 0 0 82 [(0, .ref x0), (1, .int x1), (3, .long x3), (5, .int x5), (6, .int x6), (7, .long x7), (9, .int x9)] [] σ (ah_N G (ah_rv r)) := by
  intro n
  induction n with
  | zero => intro x0 x1 x3 x5 x6 x7 x9 σ r h; cases h
  | succ n ih => intro x0 x1 x3 x5 x6 x7 x9 σ r h; exact c_X12_flowOf_82_b  K19 hK19 K33 hK33 _ ih x0 x1 x3 x5 x6 x7 x9 σ r h
set_option maxRecDepth 100000 in
set_option maxHeartbeats 4000000 in
theorem c_X12_flowOf_77 {G : ah_G}  (K19 : Nat → Int32 → Int64 → Int32 → ah_H → Option (ah_H)) (hK19 : ∀ (x0 : Nat) (x1 : Int32) (x3 : Int64) (x5 : Int32) (σ : ah_H) (r : ah_H), K19 x0 x1 x3 x5 σ = some r → AW G m_X12_flowOf 5 0 0 19 [(0, .ref x0), (1, .int x1), (3, .long x3), (5, .int x5)] [] σ (ah_N G (ah_rv r))) (K33 : Nat → Int32 → Int64 → Int32 → Int32 → ah_H → Option (ah_H)) (hK33 : ∀ (x0 : Nat) (x1 : Int32) (x3 : Int64) (x5 : Int32) (x6 : Int32) (σ : ah_H) (r : ah_H), K33 x0 x1 x3 x5 x6 σ = some r → AW G m_X12_flowOf 5 0 0 33 [(0, .ref x0), (1, .int x1), (3, .long x3), (5, .int x5), (6, .int x6)] [] σ (ah_N G (ah_rv r))) : ∀ (x0 : Nat) (x1 : Int32) (x3 : Int64) (x5 : Int32) (x6 : Int32) (s0 : Int64) (σ : ah_H) (r : ah_H), f_X12_flowOf_77  K19 K33 x0 x1 x3 x5 x6 s0 σ = some r → AW G m_X12_flowOf 5 0 0 77 [(0, .ref x0), (1, .int x1), (3, .long x3), (5, .int x5), (6, .int x6)] [.long s0] σ (ah_N G (ah_rv r)) := by
  intro x0 x1 x3 x5 x6 s0 σ r h
  unfold f_X12_flowOf_77 at h
  refine aw_lstore (pc := 77) [(7, .long s0), (0, .ref x0), (1, .int x1), (3, .long x3), (5, .int x5), (6, .int x6)] dX12_flowOf_77 (by decide) rfl ?_
  refine aw_iconst (pc := 79) (v := (0 : Int32)) dX12_flowOf_79 (by decide) ?_
  refine aw_istore (pc := 80) [(9, .int (0 : Int32)), (7, .long s0), (0, .ref x0), (1, .int x1), (3, .long x3), (5, .int x5), (6, .int x6)] dX12_flowOf_80 (by decide) rfl ?_
  refine aw_sub [2, 3, 4, 5, 6, 1, 0] rfl ?_
  exact c_X12_flowOf_82 K19 hK19 K33 hK33 _ _ _ _ _ _ _ _ _ _ h
set_option maxRecDepth 100000 in
set_option maxHeartbeats 4000000 in
theorem c_X12_flowOf_202 {G : ah_G}  (K19 : Nat → Int32 → Int64 → Int32 → ah_H → Option (ah_H)) (hK19 : ∀ (x0 : Nat) (x1 : Int32) (x3 : Int64) (x5 : Int32) (σ : ah_H) (r : ah_H), K19 x0 x1 x3 x5 σ = some r → AW G m_X12_flowOf 5 0 0 19 [(0, .ref x0), (1, .int x1), (3, .long x3), (5, .int x5)] [] σ (ah_N G (ah_rv r))) : ∀ (x0 : Nat) (x1 : Int32) (x3 : Int64) (x5 : Int32) (σ : ah_H) (r : ah_H), f_X12_flowOf_202  K19 x0 x1 x3 x5 σ = some r → AW G m_X12_flowOf 5 0 0 202 [(0, .ref x0), (1, .int x1), (3, .long x3), (5, .int x5)] [] σ (ah_N G (ah_rv r)) := by
  intro x0 x1 x3 x5 σ r h
  unfold f_X12_flowOf_202 at h
  refine aw_iinc (pc := 202) 3 [(5, .int (x5 + (1 : Int32))), (0, .ref x0), (1, .int x1), (3, .long x3)] (x5 + (1 : Int32)) dX12_flowOf_202 rfl rfl (by decide) rfl ?_
  refine aw_goto (pc := 205) 19 dX12_flowOf_205 (by decide) ?_
  refine aw_sub [1, 2, 3, 0] rfl ?_
  exact hK19 _ _ _ _ _ _ h
set_option maxRecDepth 100000 in
set_option maxHeartbeats 4000000 in
theorem c_X12_flowOf_33_b {G : ah_G}  (K19 : Nat → Int32 → Int64 → Int32 → ah_H → Option (ah_H)) (hK19 : ∀ (x0 : Nat) (x1 : Int32) (x3 : Int64) (x5 : Int32) (σ : ah_H) (r : ah_H), K19 x0 x1 x3 x5 σ = some r → AW G m_X12_flowOf 5 0 0 19 [(0, .ref x0), (1, .int x1), (3, .long x3), (5, .int x5)] [] σ (ah_N G (ah_rv r))) (K33 : Nat → Int32 → Int64 → Int32 → Int32 → ah_H → Option (ah_H)) (hK33 : ∀ (x0 : Nat) (x1 : Int32) (x3 : Int64) (x5 : Int32) (x6 : Int32) (σ : ah_H) (r : ah_H), K33 x0 x1 x3 x5 x6 σ = some r → AW G m_X12_flowOf 5 0 0 33 [(0, .ref x0), (1, .int x1), (3, .long x3), (5, .int x5), (6, .int x6)] [] σ (ah_N G (ah_rv r))) : ∀ (x0 : Nat) (x1 : Int32) (x3 : Int64) (x5 : Int32) (x6 : Int32) (σ : ah_H) (r : ah_H), f_X12_flowOf_33_b  K19 K33 x0 x1 x3 x5 x6 σ = some r → AW G m_X12_flowOf 5 0 0 33 [(0, .ref x0), (1, .int x1), (3, .long x3), (5, .int x5), (6, .int x6)] [] σ (ah_N G (ah_rv r)) := by
  intro x0 x1 x3 x5 x6 σ r h
  unfold f_X12_flowOf_33_b at h
  refine aw_iload (pc := 33) 4 dX12_flowOf_33 rfl ?_
  refine aw_bipush (pc := 35) (v := (30 : Int32)) dX12_flowOf_35 (by decide) ?_
  refine aw_icmp_ge (pc := 37) 202 dX12_flowOf_37 (by decide) (fun z => ?_) (fun z => ?_)
  · replace h := (if_pos z).symm.trans h
    refine aw_sub [0, 1, 2, 3] rfl ?_
    exact c_X12_flowOf_202 K19 hK19 _ _ _ _ _ _ h
  · replace h := (if_neg z).symm.trans h
    refine aw_iload (pc := 40) 4 dX12_flowOf_40 rfl ?_
    refine aw_aload_n (pc := 42) 0 dX12_flowOf_42 rfl ?_
    obtain ⟨v1, e, h⟩ := op_bd h
    refine ow_gR (pc := 43) e dX12_flowOf_43 fd_X12_54 rfl ?_
    refine aw_iload (pc := 46) 3 dX12_flowOf_46 rfl ?_
    obtain ⟨v2, e, h⟩ := op_bd h
    refine ow_aI (pc := 48) e dX12_flowOf_48 ?_
    refine aw_icmp_ge (pc := 49) 76 dX12_flowOf_49 (by decide) (fun z => ?_) (fun z => ?_)
    · replace h := (if_pos z).symm.trans h
      refine aw_lconst (pc := 76) (v := (0 : Int64)) dX12_flowOf_76 (by decide) ?_
      exact c_X12_flowOf_77 K19 hK19 K33 hK33 _ _ _ _ _ _ _ _ h
    · replace h := (if_neg z).symm.trans h
      refine aw_aload_n (pc := 52) 0 dX12_flowOf_52 rfl ?_
      obtain ⟨v3, e, h⟩ := op_bd h
      refine ow_gR (pc := 53) e dX12_flowOf_53 fd_X12_24 rfl ?_
      refine aw_iload_n (pc := 56) 1 dX12_flowOf_56 rfl ?_
      obtain ⟨v4, e, h⟩ := op_bd h
      refine ow_aI (pc := 57) e dX12_flowOf_57 ?_
      refine aw_aload_n (pc := 58) 0 dX12_flowOf_58 rfl ?_
      obtain ⟨v5, e, h⟩ := op_bd h
      refine ow_gR (pc := 59) e dX12_flowOf_59 fd_X12_57 rfl ?_
      refine aw_bipush (pc := 62) (v := (6 : Int32)) dX12_flowOf_62 (by decide) ?_
      refine aw_iload (pc := 64) 3 dX12_flowOf_64 rfl ?_
      refine aw_imul (pc := 66) dX12_flowOf_66 ?_
      refine aw_iload (pc := 67) 4 dX12_flowOf_67 rfl ?_
      refine aw_iadd (pc := 69) dX12_flowOf_69 ?_
      obtain ⟨v6, e, h⟩ := op_bd h
      refine ow_aI (pc := 70) e dX12_flowOf_70 ?_
      refine aw_imul (pc := 71) dX12_flowOf_71 ?_
      refine aw_i2l (pc := 72) dX12_flowOf_72 ?_
      refine aw_goto (pc := 73) 77 dX12_flowOf_73 (by decide) ?_
      exact c_X12_flowOf_77 K19 hK19 K33 hK33 _ _ _ _ _ _ _ _ h
theorem c_X12_flowOf_33 {G : ah_G}  (K19 : Nat → Int32 → Int64 → Int32 → ah_H → Option (ah_H)) (hK19 : ∀ (x0 : Nat) (x1 : Int32) (x3 : Int64) (x5 : Int32) (σ : ah_H) (r : ah_H), K19 x0 x1 x3 x5 σ = some r → AW G m_X12_flowOf 5 0 0 19 [(0, .ref x0), (1, .int x1), (3, .long x3), (5, .int x5)] [] σ (ah_N G (ah_rv r))) : ∀ (n : Nat) (x0 : Nat) (x1 : Int32) (x3 : Int64) (x5 : Int32) (x6 : Int32) (σ : ah_H) (r : ah_H), f_X12_flowOf_33  K19 n x0 x1 x3 x5 x6 σ = some r → AW G m_X12_flowOf 5 0 0 33 [(0, .ref x0), (1, .int x1), (3, .long x3), (5, .int x5), (6, .int x6)] [] σ (ah_N G (ah_rv r)) := by
  intro n
  induction n with
  | zero => intro x0 x1 x3 x5 x6 σ r h; cases h
  | succ n ih => intro x0 x1 x3 x5 x6 σ r h; exact c_X12_flowOf_33_b  K19 hK19 _ ih x0 x1 x3 x5 x6 σ r h
set_option maxRecDepth 100000 in
set_option maxHeartbeats 4000000 in
theorem c_X12_flowOf_19_b {G : ah_G}  (K19 : Nat → Int32 → Int64 → Int32 → ah_H → Option (ah_H)) (hK19 : ∀ (x0 : Nat) (x1 : Int32) (x3 : Int64) (x5 : Int32) (σ : ah_H) (r : ah_H), K19 x0 x1 x3 x5 σ = some r → AW G m_X12_flowOf 5 0 0 19 [(0, .ref x0), (1, .int x1), (3, .long x3), (5, .int x5)] [] σ (ah_N G (ah_rv r))) : ∀ (x0 : Nat) (x1 : Int32) (x3 : Int64) (x5 : Int32) (σ : ah_H) (r : ah_H), f_X12_flowOf_19_b  K19 x0 x1 x3 x5 σ = some r → AW G m_X12_flowOf 5 0 0 19 [(0, .ref x0), (1, .int x1), (3, .long x3), (5, .int x5)] [] σ (ah_N G (ah_rv r)) := by
  intro x0 x1 x3 x5 σ r h
  unfold f_X12_flowOf_19_b at h
  refine aw_iload (pc := 19) 3 dX12_flowOf_19 rfl ?_
  refine aw_aload_n (pc := 21) 0 dX12_flowOf_21 rfl ?_
  obtain ⟨v1, e, h⟩ := op_bd h
  refine ow_gR (pc := 22) e dX12_flowOf_22 fd_X12_15 rfl ?_
  refine aw_iconst (pc := 25) (v := (3 : Int32)) dX12_flowOf_25 (by decide) ?_
  obtain ⟨v2, e, h⟩ := op_bd h
  refine ow_aI (pc := 26) e dX12_flowOf_26 ?_
  refine aw_icmp_ge (pc := 27) 208 dX12_flowOf_27 (by decide) (fun z => ?_) (fun z => ?_)
  · replace h := (if_pos z).symm.trans h
    exact ow_vret (pc := 208) h dX12_flowOf_208 rfl
  · replace h := (if_neg z).symm.trans h
    refine aw_iconst (pc := 30) (v := (0 : Int32)) dX12_flowOf_30 (by decide) ?_
    refine aw_istore (pc := 31) [(6, .int (0 : Int32)), (0, .ref x0), (1, .int x1), (3, .long x3), (5, .int x5)] dX12_flowOf_31 (by decide) rfl ?_
    refine aw_sub [1, 2, 3, 4, 0] rfl ?_
    exact c_X12_flowOf_33 K19 hK19 _ _ _ _ _ _ _ _ h
theorem c_X12_flowOf_19 {G : ah_G}   : ∀ (n : Nat) (x0 : Nat) (x1 : Int32) (x3 : Int64) (x5 : Int32) (σ : ah_H) (r : ah_H), f_X12_flowOf_19   n x0 x1 x3 x5 σ = some r → AW G m_X12_flowOf 5 0 0 19 [(0, .ref x0), (1, .int x1), (3, .long x3), (5, .int x5)] [] σ (ah_N G (ah_rv r)) := by
  intro n
  induction n with
  | zero => intro x0 x1 x3 x5 σ r h; cases h
  | succ n ih => intro x0 x1 x3 x5 σ r h; exact c_X12_flowOf_19_b   _ ih x0 x1 x3 x5 σ r h
set_option maxRecDepth 100000 in
set_option maxHeartbeats 4000000 in
theorem c_X12_flowOf_15 {G : ah_G}   : ∀ (x0 : Nat) (x1 : Int32) (s0 : Int64) (σ : ah_H) (r : ah_H), f_X12_flowOf_15   x0 x1 s0 σ = some r → AW G m_X12_flowOf 5 0 0 15 [(0, .ref x0), (1, .int x1)] [.long s0] σ (ah_N G (ah_rv r)) := by
  intro x0 x1 s0 σ r h
  unfold f_X12_flowOf_15 at h
  refine aw_lstore_n (pc := 15) [(3, .long s0), (0, .ref x0), (1, .int x1)] dX12_flowOf_15 rfl (by decide) rfl ?_
  refine aw_iconst (pc := 16) (v := (0 : Int32)) dX12_flowOf_16 (by decide) ?_
  refine aw_istore (pc := 17) [(5, .int (0 : Int32)), (3, .long s0), (0, .ref x0), (1, .int x1)] dX12_flowOf_17 (by decide) rfl ?_
  refine aw_sub [2, 3, 1, 0] rfl ?_
  exact c_X12_flowOf_19  _ _ _ _ _ _ _ h
set_option maxRecDepth 100000 in
set_option maxHeartbeats 4000000 in
theorem c_X12_flowOf_0 {G : ah_G}   : ∀ (x0 : Nat) (x1 : Int32) (x2 : Int32) (σ : ah_H) (r : ah_H), f_X12_flowOf_0   x0 x1 x2 σ = some r → AW G m_X12_flowOf 5 0 0 0 [(0, .ref x0), (1, .int x1), (2, .int x2)] [] σ (ah_N G (ah_rv r)) := by
  intro x0 x1 x2 σ r h
  unfold f_X12_flowOf_0 at h
  refine aw_iload_n (pc := 0) 2 dX12_flowOf_0 rfl ?_
  refine aw_if_eq (pc := 1) 12 dX12_flowOf_1 (by decide) (fun z => ?_) (fun z => ?_)
  · replace h := (if_pos z).symm.trans h
    refine aw_ldc2 (pc := 12) dX12_flowOf_12 kl_X12_423 ?_
    refine aw_sub [0, 1] rfl ?_
    exact c_X12_flowOf_15  _ _ _ _ _ h
  · replace h := (if_neg z).symm.trans h
    refine aw_aload_n (pc := 4) 0 dX12_flowOf_4 rfl ?_
    refine aw_iload_n (pc := 5) 1 dX12_flowOf_5 rfl ?_
    obtain ⟨r1, e, h⟩ := op_bd h
    refine ow_cVl (pc := 6) [.int x1] ((c_X12_carriesOf _ _ _ _ e).mono (by decide)) (op_ck_sh e) rfl dX12_flowOf_6 cw_X12_419 rfl (Nat.le_of_ble_eq_true rfl) ?_
    refine aw_goto (pc := 9) 15 dX12_flowOf_9 (by decide) ?_
    refine aw_sub [0, 1] rfl ?_
    exact c_X12_flowOf_15  _ _ _ _ _ h
theorem c_X12_flowOf {G : ah_G}   (x0 : Nat) (x1 : Int32) (x2 : Int32) (σ : ah_H) (r : ah_H) (h : f_X12_flowOf  x0 x1 x2 σ = some r) : AM G m_X12_flowOf 5 0 0 [.ref x0, .int x1, .int x2] σ (ah_rv r) := aw_enter (by decide) (Nat.le_of_ble_eq_true rfl) (c_X12_flowOf_0 _ _ _ _ _ (op_ck_k h))
def f_X12_isReady_32  (K2 : Nat → Int32 → Int32 → ah_H → Option (Int32 × ah_H)) (x0 : Nat) (x1 : Int32) (x2 : Int32) (σ : ah_H) : Option (Int32 × ah_H) :=
  K2 x0 x1 (x2 + (1 : Int32)) σ
def f_X12_isReady_2_b  (K2 : Nat → Int32 → Int32 → ah_H → Option (Int32 × ah_H)) (x0 : Nat) (x1 : Int32) (x2 : Int32) (σ : ah_H) : Option (Int32 × ah_H) :=
  (op_gR 12 3 σ x0).bind fun v1 => (op_aI σ v1 (0 : Int32)).bind fun v2 => if v2 ≤ x2 then ((op_rz (1 : Int32)).map fun q => (q, σ)) else ((f_X12_runsTo x0 x2 x1 σ).bind fun r3 => if r3.1 = 0 then (f_X12_isReady_32 K2 x0 x1 x2 r3.2) else ((op_gR 12 45 r3.2 x0).bind fun v4 => (op_aZ r3.2 v4 x2).bind fun v5 => if v5 = 0 then ((op_rz (0 : Int32)).map fun q => (q, r3.2)) else (f_X12_isReady_32 K2 x0 x1 x2 r3.2)))
def f_X12_isReady_2   : Nat → Nat → Int32 → Int32 → ah_H → Option (Int32 × ah_H)
  | 0, _, _, _, _ => none
  | n + 1, x0, x1, x2, σ => f_X12_isReady_2_b (f_X12_isReady_2 n) x0 x1 x2 σ
def f_X12_isReady_0   (x0 : Nat) (x1 : Int32) (σ : ah_H) : Option (Int32 × ah_H) :=
  f_X12_isReady_2 5000 x0 x1 (0 : Int32) σ
def f_X12_isReady  (x0 : Nat) (x1 : Int32) (σ : ah_H) : Option (Int32 × ah_H) := op_ck 12 σ x0 (f_X12_isReady_0 x0 x1 σ)
set_option maxRecDepth 100000 in
set_option maxHeartbeats 4000000 in
theorem c_X12_isReady_32 {G : ah_G}  (K2 : Nat → Int32 → Int32 → ah_H → Option (Int32 × ah_H)) (hK2 : ∀ (x0 : Nat) (x1 : Int32) (x2 : Int32) (σ : ah_H) (r : Int32 × ah_H), K2 x0 x1 x2 σ = some r → AW G m_X12_isReady 3 0 0 2 [(0, .ref x0), (1, .int x1), (2, .int x2)] [] σ (ah_N G (ah_ri r))) : ∀ (x0 : Nat) (x1 : Int32) (x2 : Int32) (σ : ah_H) (r : Int32 × ah_H), f_X12_isReady_32  K2 x0 x1 x2 σ = some r → AW G m_X12_isReady 3 0 0 32 [(0, .ref x0), (1, .int x1), (2, .int x2)] [] σ (ah_N G (ah_ri r)) := by
  intro x0 x1 x2 σ r h
  unfold f_X12_isReady_32 at h
  refine aw_iinc (pc := 32) 2 [(2, .int (x2 + (1 : Int32))), (0, .ref x0), (1, .int x1)] (x2 + (1 : Int32)) dX12_isReady_32 rfl rfl (by decide) rfl ?_
  refine aw_goto (pc := 35) 2 dX12_isReady_35 (by decide) ?_
  refine aw_sub [1, 2, 0] rfl ?_
  exact hK2 _ _ _ _ _ h
set_option maxRecDepth 100000 in
set_option maxHeartbeats 4000000 in
theorem c_X12_isReady_2_b {G : ah_G}  (K2 : Nat → Int32 → Int32 → ah_H → Option (Int32 × ah_H)) (hK2 : ∀ (x0 : Nat) (x1 : Int32) (x2 : Int32) (σ : ah_H) (r : Int32 × ah_H), K2 x0 x1 x2 σ = some r → AW G m_X12_isReady 3 0 0 2 [(0, .ref x0), (1, .int x1), (2, .int x2)] [] σ (ah_N G (ah_ri r))) : ∀ (x0 : Nat) (x1 : Int32) (x2 : Int32) (σ : ah_H) (r : Int32 × ah_H), f_X12_isReady_2_b  K2 x0 x1 x2 σ = some r → AW G m_X12_isReady 3 0 0 2 [(0, .ref x0), (1, .int x1), (2, .int x2)] [] σ (ah_N G (ah_ri r)) := by
  intro x0 x1 x2 σ r h
  unfold f_X12_isReady_2_b at h
  refine aw_iload_n (pc := 2) 2 dX12_isReady_2 rfl ?_
  refine aw_aload_n (pc := 3) 0 dX12_isReady_3 rfl ?_
  obtain ⟨v1, e, h⟩ := op_bd h
  refine ow_gR (pc := 4) e dX12_isReady_4 fd_X12_15 rfl ?_
  refine aw_iconst (pc := 7) (v := (0 : Int32)) dX12_isReady_7 (by decide) ?_
  obtain ⟨v2, e, h⟩ := op_bd h
  refine ow_aI (pc := 8) e dX12_isReady_8 ?_
  refine aw_icmp_ge (pc := 9) 38 dX12_isReady_9 (by decide) (fun z => ?_) (fun z => ?_)
  · replace h := (if_pos z).symm.trans h
    refine aw_iconst (pc := 38) (v := (1 : Int32)) dX12_isReady_38 (by decide) ?_
    exact ow_zret (pc := 39) h dX12_isReady_39 rfl
  · replace h := (if_neg z).symm.trans h
    refine aw_aload_n (pc := 12) 0 dX12_isReady_12 rfl ?_
    refine aw_iload_n (pc := 13) 2 dX12_isReady_13 rfl ?_
    refine aw_iload_n (pc := 14) 1 dX12_isReady_14 rfl ?_
    obtain ⟨r3, e, h⟩ := op_bd h
    refine ow_cVi (pc := 15) [.int x2, .int x1] ((c_X12_runsTo _ _ _ _ _ e).mono (by decide)) (op_ck_sh e) rfl dX12_isReady_15 cw_X12_416 rfl (Nat.le_of_ble_eq_true rfl) ?_
    refine aw_if_eq (pc := 18) 32 dX12_isReady_18 (by decide) (fun z => ?_) (fun z => ?_)
    · replace h := (if_pos z).symm.trans h
      exact c_X12_isReady_32 K2 hK2 _ _ _ _ _ h
    · replace h := (if_neg z).symm.trans h
      refine aw_aload_n (pc := 21) 0 dX12_isReady_21 rfl ?_
      obtain ⟨v4, e, h⟩ := op_bd h
      refine ow_gR (pc := 22) e dX12_isReady_22 fd_X12_101 rfl ?_
      refine aw_iload_n (pc := 25) 2 dX12_isReady_25 rfl ?_
      obtain ⟨v5, e, h⟩ := op_bd h
      refine ow_aZ (pc := 26) e dX12_isReady_26 ?_
      refine aw_if_ne (pc := 27) 32 dX12_isReady_27 (by decide) (fun z => ?_) (fun z => ?_)
      · replace h := (if_neg z).symm.trans h
        exact c_X12_isReady_32 K2 hK2 _ _ _ _ _ h
      · replace h := (if_pos z).symm.trans h
        refine aw_iconst (pc := 30) (v := (0 : Int32)) dX12_isReady_30 (by decide) ?_
        exact ow_zret (pc := 31) h dX12_isReady_31 rfl
theorem c_X12_isReady_2 {G : ah_G}   : ∀ (n : Nat) (x0 : Nat) (x1 : Int32) (x2 : Int32) (σ : ah_H) (r : Int32 × ah_H), f_X12_isReady_2   n x0 x1 x2 σ = some r → AW G m_X12_isReady 3 0 0 2 [(0, .ref x0), (1, .int x1), (2, .int x2)] [] σ (ah_N G (ah_ri r)) := by
  intro n
  induction n with
  | zero => intro x0 x1 x2 σ r h; cases h
  | succ n ih => intro x0 x1 x2 σ r h; exact c_X12_isReady_2_b   _ ih x0 x1 x2 σ r h
set_option maxRecDepth 100000 in
set_option maxHeartbeats 4000000 in
theorem c_X12_isReady_0 {G : ah_G}   : ∀ (x0 : Nat) (x1 : Int32) (σ : ah_H) (r : Int32 × ah_H), f_X12_isReady_0   x0 x1 σ = some r → AW G m_X12_isReady 3 0 0 0 [(0, .ref x0), (1, .int x1)] [] σ (ah_N G (ah_ri r)) := by
  intro x0 x1 σ r h
  unfold f_X12_isReady_0 at h
  refine aw_iconst (pc := 0) (v := (0 : Int32)) dX12_isReady_0 (by decide) ?_
  refine aw_istore_n (pc := 1) [(2, .int (0 : Int32)), (0, .ref x0), (1, .int x1)] dX12_isReady_1 rfl (by decide) rfl ?_
  refine aw_sub [1, 2, 0] rfl ?_
  exact c_X12_isReady_2  _ _ _ _ _ _ h
theorem c_X12_isReady {G : ah_G}   (x0 : Nat) (x1 : Int32) (σ : ah_H) (r : Int32 × ah_H) (h : f_X12_isReady  x0 x1 σ = some r) : AM G m_X12_isReady 3 0 0 [.ref x0, .int x1] σ (ah_ri r) := aw_enter (by decide) (Nat.le_of_ble_eq_true rfl) (c_X12_isReady_0 _ _ _ _ (op_ck_k h))
def f_X12_run_123  (K54 : Nat → Int32 → Int32 → ah_H → Option (ah_H)) (K62 : Nat → Int32 → Int32 → Int32 → ah_H → Option (ah_H)) (x0 : Nat) (x1 : Int32) (x2 : Int32) (x3 : Int32) (σ : ah_H) : Option (ah_H) :=
  K62 x0 x1 x2 (x3 + (1 : Int32)) σ
def f_X12_run_129  (K54 : Nat → Int32 → Int32 → ah_H → Option (ah_H)) (x0 : Nat) (x1 : Int32) (x2 : Int32) (σ : ah_H) : Option (ah_H) :=
  K54 x0 x1 x2 σ
def f_X12_run_62_b  (K54 : Nat → Int32 → Int32 → ah_H → Option (ah_H)) (K62 : Nat → Int32 → Int32 → Int32 → ah_H → Option (ah_H)) (x0 : Nat) (x1 : Int32) (x2 : Int32) (x3 : Int32) (σ : ah_H) : Option (ah_H) :=
  (op_gR 12 3 σ x0).bind fun v1 => (op_aI σ v1 (0 : Int32)).bind fun v2 => if v2 ≤ x3 then (f_X12_run_129 K54 x0 x1 x2 σ) else ((op_gR 12 45 σ x0).bind fun v3 => (op_aZ σ v3 x3).bind fun v4 => if v4 = 0 then ((f_X12_isLaid x0 x3 σ).bind fun r5 => if r5.1 = 0 then (f_X12_run_123 K54 K62 x0 x1 x2 x3 r5.2) else ((f_X12_isRing x0 x3 r5.2).bind fun r6 => if r6.1 = 0 then ((f_X12_isReady x0 x3 r6.2).bind fun r7 => if r7.1 = 0 then (f_X12_run_123 K54 K62 x0 x1 x2 x3 r7.2) else ((f_X12_flowOf x0 x3 x1 r7.2).bind fun r8 => (op_gR 12 45 r8 x0).bind fun v9 => (op_sZ r8 v9 x3 (1 : Int32)).bind fun σ10 => f_X12_run_123 K54 K62 x0 x1 (1 : Int32) x3 σ10)) else (f_X12_run_123 K54 K62 x0 x1 x2 x3 r6.2))) else (f_X12_run_123 K54 K62 x0 x1 x2 x3 σ))
def f_X12_run_62  (K54 : Nat → Int32 → Int32 → ah_H → Option (ah_H)) : Nat → Nat → Int32 → Int32 → Int32 → ah_H → Option (ah_H)
  | 0, _, _, _, _, _ => none
  | n + 1, x0, x1, x2, x3, σ => f_X12_run_62_b K54 (f_X12_run_62 K54 n) x0 x1 x2 x3 σ
def f_X12_run_54_b  (K54 : Nat → Int32 → Int32 → ah_H → Option (ah_H)) (x0 : Nat) (x1 : Int32) (x2 : Int32) (σ : ah_H) : Option (ah_H) :=
  if x2 = 0 then (some σ) else (f_X12_run_62 K54 5000 x0 x1 (0 : Int32) (0 : Int32) σ)
def f_X12_run_54   : Nat → Nat → Int32 → Int32 → ah_H → Option (ah_H)
  | 0, _, _, _, _ => none
  | n + 1, x0, x1, x2, σ => f_X12_run_54_b (f_X12_run_54 n) x0 x1 x2 σ
def f_X12_run_52   (x0 : Nat) (x1 : Int32) (σ : ah_H) : Option (ah_H) :=
  f_X12_run_54 5000 x0 x1 (1 : Int32) σ
def f_X12_run_23_b  (K23 : Nat → Int32 → Int32 → ah_H → Option (ah_H)) (x0 : Nat) (x1 : Int32) (x2 : Int32) (σ : ah_H) : Option (ah_H) :=
  (op_gR 12 43 σ x0).bind fun v1 => (op_len .long σ v1).bind fun n2 => if (Int32.ofNat n2) ≤ x2 then (f_X12_run_52 x0 x1 σ) else ((op_gR 12 43 σ x0).bind fun v3 => (op_sL σ v3 x2 (0 : Int64)).bind fun σ4 => (op_gR 12 44 σ4 x0).bind fun v5 => (op_sL σ4 v5 x2 (0 : Int64)).bind fun σ6 => K23 x0 x1 (x2 + (1 : Int32)) σ6)
def f_X12_run_23   : Nat → Nat → Int32 → Int32 → ah_H → Option (ah_H)
  | 0, _, _, _, _ => none
  | n + 1, x0, x1, x2, σ => f_X12_run_23_b (f_X12_run_23 n) x0 x1 x2 σ
def f_X12_run_21   (x0 : Nat) (x1 : Int32) (σ : ah_H) : Option (ah_H) :=
  f_X12_run_23 5000 x0 x1 (0 : Int32) σ
def f_X12_run_2_b  (K2 : Nat → Int32 → Int32 → ah_H → Option (ah_H)) (x0 : Nat) (x1 : Int32) (x2 : Int32) (σ : ah_H) : Option (ah_H) :=
  if (7 : Int32) ≤ x2 then (f_X12_run_21 x0 x1 σ) else ((op_gR 12 45 σ x0).bind fun v1 => (op_sZ σ v1 x2 (0 : Int32)).bind fun σ2 => K2 x0 x1 (x2 + (1 : Int32)) σ2)
def f_X12_run_2   : Nat → Nat → Int32 → Int32 → ah_H → Option (ah_H)
  | 0, _, _, _, _ => none
  | n + 1, x0, x1, x2, σ => f_X12_run_2_b (f_X12_run_2 n) x0 x1 x2 σ
def f_X12_run_0   (x0 : Nat) (x1 : Int32) (σ : ah_H) : Option (ah_H) :=
  f_X12_run_2 5000 x0 x1 (0 : Int32) σ
def f_X12_run  (x0 : Nat) (x1 : Int32) (σ : ah_H) : Option (ah_H) := op_ck 12 σ x0 (f_X12_run_0 x0 x1 σ)
set_option maxRecDepth 100000 in
set_option maxHeartbeats 4000000 in
theorem c_X12_run_123 {G : ah_G}  (K54 : Nat → Int32 → Int32 → ah_H → Option (ah_H)) (hK54 : ∀ (x0 : Nat) (x1 : Int32) (x2 : Int32) (σ : ah_H) (r : ah_H), K54 x0 x1 x2 σ = some r → AW G m_X12_run 6 0 0 54 [(0, .ref x0), (1, .int x1), (2, .int x2)] [] σ (ah_N G (ah_rv r))) (K62 : Nat → Int32 → Int32 → Int32 → ah_H → Option (ah_H)) (hK62 : ∀ (x0 : Nat) (x1 : Int32) (x2 : Int32) (x3 : Int32) (σ : ah_H) (r : ah_H), K62 x0 x1 x2 x3 σ = some r → AW G m_X12_run 6 0 0 62 [(0, .ref x0), (1, .int x1), (2, .int x2), (3, .int x3)] [] σ (ah_N G (ah_rv r))) : ∀ (x0 : Nat) (x1 : Int32) (x2 : Int32) (x3 : Int32) (σ : ah_H) (r : ah_H), f_X12_run_123  K54 K62 x0 x1 x2 x3 σ = some r → AW G m_X12_run 6 0 0 123 [(0, .ref x0), (1, .int x1), (2, .int x2), (3, .int x3)] [] σ (ah_N G (ah_rv r)) := by
  intro x0 x1 x2 x3 σ r h
  unfold f_X12_run_123 at h
  refine aw_iinc (pc := 123) 3 [(3, .int (x3 + (1 : Int32))), (0, .ref x0), (1, .int x1), (2, .int x2)] (x3 + (1 : Int32)) dX12_run_123 rfl rfl (by decide) rfl ?_
  refine aw_goto (pc := 126) 62 dX12_run_126 (by decide) ?_
  refine aw_sub [1, 2, 3, 0] rfl ?_
  exact hK62 _ _ _ _ _ _ h
set_option maxRecDepth 100000 in
set_option maxHeartbeats 4000000 in
theorem c_X12_run_129 {G : ah_G}  (K54 : Nat → Int32 → Int32 → ah_H → Option (ah_H)) (hK54 : ∀ (x0 : Nat) (x1 : Int32) (x2 : Int32) (σ : ah_H) (r : ah_H), K54 x0 x1 x2 σ = some r → AW G m_X12_run 6 0 0 54 [(0, .ref x0), (1, .int x1), (2, .int x2)] [] σ (ah_N G (ah_rv r))) : ∀ (x0 : Nat) (x1 : Int32) (x2 : Int32) (σ : ah_H) (r : ah_H), f_X12_run_129  K54 x0 x1 x2 σ = some r → AW G m_X12_run 6 0 0 129 [(0, .ref x0), (1, .int x1), (2, .int x2)] [] σ (ah_N G (ah_rv r)) := by
  intro x0 x1 x2 σ r h
  unfold f_X12_run_129 at h
  refine aw_goto (pc := 129) 54 dX12_run_129 (by decide) ?_
  exact hK54 _ _ _ _ _ h
set_option maxRecDepth 100000 in
set_option maxHeartbeats 4000000 in
theorem c_X12_run_62_b {G : ah_G}  (K54 : Nat → Int32 → Int32 → ah_H → Option (ah_H)) (hK54 : ∀ (x0 : Nat) (x1 : Int32) (x2 : Int32) (σ : ah_H) (r : ah_H), K54 x0 x1 x2 σ = some r → AW G m_X12_run 6 0 0 54 [(0, .ref x0), (1, .int x1), (2, .int x2)] [] σ (ah_N G (ah_rv r))) (K62 : Nat → Int32 → Int32 → Int32 → ah_H → Option (ah_H)) (hK62 : ∀ (x0 : Nat) (x1 : Int32) (x2 : Int32) (x3 : Int32) (σ : ah_H) (r : ah_H), K62 x0 x1 x2 x3 σ = some r → AW G m_X12_run 6 0 0 62 [(0, .ref x0), (1, .int x1), (2, .int x2), (3, .int x3)] [] σ (ah_N G (ah_rv r))) : ∀ (x0 : Nat) (x1 : Int32) (x2 : Int32) (x3 : Int32) (σ : ah_H) (r : ah_H), f_X12_run_62_b  K54 K62 x0 x1 x2 x3 σ = some r → AW G m_X12_run 6 0 0 62 [(0, .ref x0), (1, .int x1), (2, .int x2), (3, .int x3)] [] σ (ah_N G (ah_rv r)) := by
  intro x0 x1 x2 x3 σ r h
  unfold f_X12_run_62_b at h
  refine aw_iload_n (pc := 62) 3 dX12_run_62 rfl ?_
  refine aw_aload_n (pc := 63) 0 dX12_run_63 rfl ?_
  obtain ⟨v1, e, h⟩ := op_bd h
  refine ow_gR (pc := 64) e dX12_run_64 fd_X12_15 rfl ?_
  refine aw_iconst (pc := 67) (v := (0 : Int32)) dX12_run_67 (by decide) ?_
  obtain ⟨v2, e, h⟩ := op_bd h
  refine ow_aI (pc := 68) e dX12_run_68 ?_
  refine aw_icmp_ge (pc := 69) 129 dX12_run_69 (by decide) (fun z => ?_) (fun z => ?_)
  · replace h := (if_pos z).symm.trans h
    refine aw_sub [0, 1, 2] rfl ?_
    exact c_X12_run_129 K54 hK54 _ _ _ _ _ h
  · replace h := (if_neg z).symm.trans h
    refine aw_aload_n (pc := 72) 0 dX12_run_72 rfl ?_
    obtain ⟨v3, e, h⟩ := op_bd h
    refine ow_gR (pc := 73) e dX12_run_73 fd_X12_101 rfl ?_
    refine aw_iload_n (pc := 76) 3 dX12_run_76 rfl ?_
    obtain ⟨v4, e, h⟩ := op_bd h
    refine ow_aZ (pc := 77) e dX12_run_77 ?_
    refine aw_if_ne (pc := 78) 123 dX12_run_78 (by decide) (fun z => ?_) (fun z => ?_)
    · replace h := (if_neg z).symm.trans h
      exact c_X12_run_123 K54 hK54 K62 hK62 _ _ _ _ _ _ h
    · replace h := (if_pos z).symm.trans h
      refine aw_aload_n (pc := 81) 0 dX12_run_81 rfl ?_
      refine aw_iload_n (pc := 82) 3 dX12_run_82 rfl ?_
      obtain ⟨r5, e, h⟩ := op_bd h
      refine ow_cVi (pc := 83) [.int x3] ((c_X12_isLaid _ _ _ _ e).mono (by decide)) (op_ck_sh e) rfl dX12_run_83 cw_X12_380 rfl (Nat.le_of_ble_eq_true rfl) ?_
      refine aw_if_eq (pc := 86) 123 dX12_run_86 (by decide) (fun z => ?_) (fun z => ?_)
      · replace h := (if_pos z).symm.trans h
        exact c_X12_run_123 K54 hK54 K62 hK62 _ _ _ _ _ _ h
      · replace h := (if_neg z).symm.trans h
        refine aw_aload_n (pc := 89) 0 dX12_run_89 rfl ?_
        refine aw_iload_n (pc := 90) 3 dX12_run_90 rfl ?_
        obtain ⟨r6, e, h⟩ := op_bd h
        refine ow_cVi (pc := 91) [.int x3] ((c_X12_isRing _ _ _ _ e).mono (by decide)) (op_ck_sh e) rfl dX12_run_91 cw_X12_406 rfl (Nat.le_of_ble_eq_true rfl) ?_
        refine aw_if_ne (pc := 94) 123 dX12_run_94 (by decide) (fun z => ?_) (fun z => ?_)
        · replace h := (if_neg z).symm.trans h
          exact c_X12_run_123 K54 hK54 K62 hK62 _ _ _ _ _ _ h
        · replace h := (if_pos z).symm.trans h
          refine aw_aload_n (pc := 97) 0 dX12_run_97 rfl ?_
          refine aw_iload_n (pc := 98) 3 dX12_run_98 rfl ?_
          obtain ⟨r7, e, h⟩ := op_bd h
          refine ow_cVi (pc := 99) [.int x3] ((c_X12_isReady _ _ _ _ e).mono (by decide)) (op_ck_sh e) rfl dX12_run_99 cw_X12_409 rfl (Nat.le_of_ble_eq_true rfl) ?_
          refine aw_if_ne (pc := 102) 108 dX12_run_102 (by decide) (fun z => ?_) (fun z => ?_)
          · replace h := (if_neg z).symm.trans h
            refine aw_aload_n (pc := 108) 0 dX12_run_108 rfl ?_
            refine aw_iload_n (pc := 109) 3 dX12_run_109 rfl ?_
            refine aw_iload_n (pc := 110) 1 dX12_run_110 rfl ?_
            obtain ⟨r8, e, h⟩ := op_bd h
            refine ow_cVv (pc := 111) [.int x3, .int x1] ((c_X12_flowOf _ _ _ _ _ e).mono (by decide)) (op_ck_sh e) rfl dX12_run_111 cw_X12_412 rfl (Nat.le_of_ble_eq_true rfl) ?_
            refine aw_aload_n (pc := 114) 0 dX12_run_114 rfl ?_
            obtain ⟨v9, e, h⟩ := op_bd h
            refine ow_gR (pc := 115) e dX12_run_115 fd_X12_101 rfl ?_
            refine aw_iload_n (pc := 118) 3 dX12_run_118 rfl ?_
            refine aw_iconst (pc := 119) (v := (1 : Int32)) dX12_run_119 (by decide) ?_
            obtain ⟨σ10, e, h⟩ := op_bd h
            refine ow_sZ (pc := 120) e dX12_run_120 ?_
            refine aw_iconst (pc := 121) (v := (1 : Int32)) dX12_run_121 (by decide) ?_
            refine aw_istore_n (pc := 122) [(2, .int (1 : Int32)), (0, .ref x0), (1, .int x1), (3, .int x3)] dX12_run_122 rfl (by decide) rfl ?_
            refine aw_sub [1, 2, 0, 3] rfl ?_
            exact c_X12_run_123 K54 hK54 K62 hK62 _ _ _ _ _ _ h
          · replace h := (if_pos z).symm.trans h
            refine aw_goto (pc := 105) 123 dX12_run_105 (by decide) ?_
            exact c_X12_run_123 K54 hK54 K62 hK62 _ _ _ _ _ _ h
theorem c_X12_run_62 {G : ah_G}  (K54 : Nat → Int32 → Int32 → ah_H → Option (ah_H)) (hK54 : ∀ (x0 : Nat) (x1 : Int32) (x2 : Int32) (σ : ah_H) (r : ah_H), K54 x0 x1 x2 σ = some r → AW G m_X12_run 6 0 0 54 [(0, .ref x0), (1, .int x1), (2, .int x2)] [] σ (ah_N G (ah_rv r))) : ∀ (n : Nat) (x0 : Nat) (x1 : Int32) (x2 : Int32) (x3 : Int32) (σ : ah_H) (r : ah_H), f_X12_run_62  K54 n x0 x1 x2 x3 σ = some r → AW G m_X12_run 6 0 0 62 [(0, .ref x0), (1, .int x1), (2, .int x2), (3, .int x3)] [] σ (ah_N G (ah_rv r)) := by
  intro n
  induction n with
  | zero => intro x0 x1 x2 x3 σ r h; cases h
  | succ n ih => intro x0 x1 x2 x3 σ r h; exact c_X12_run_62_b  K54 hK54 _ ih x0 x1 x2 x3 σ r h
set_option maxRecDepth 100000 in
set_option maxHeartbeats 4000000 in
theorem c_X12_run_54_b {G : ah_G}  (K54 : Nat → Int32 → Int32 → ah_H → Option (ah_H)) (hK54 : ∀ (x0 : Nat) (x1 : Int32) (x2 : Int32) (σ : ah_H) (r : ah_H), K54 x0 x1 x2 σ = some r → AW G m_X12_run 6 0 0 54 [(0, .ref x0), (1, .int x1), (2, .int x2)] [] σ (ah_N G (ah_rv r))) : ∀ (x0 : Nat) (x1 : Int32) (x2 : Int32) (σ : ah_H) (r : ah_H), f_X12_run_54_b  K54 x0 x1 x2 σ = some r → AW G m_X12_run 6 0 0 54 [(0, .ref x0), (1, .int x1), (2, .int x2)] [] σ (ah_N G (ah_rv r)) := by
  intro x0 x1 x2 σ r h
  unfold f_X12_run_54_b at h
  refine aw_iload_n (pc := 54) 2 dX12_run_54 rfl ?_
  refine aw_if_eq (pc := 55) 132 dX12_run_55 (by decide) (fun z => ?_) (fun z => ?_)
  · replace h := (if_pos z).symm.trans h
    exact ow_vret (pc := 132) h dX12_run_132 rfl
  · replace h := (if_neg z).symm.trans h
    refine aw_iconst (pc := 58) (v := (0 : Int32)) dX12_run_58 (by decide) ?_
    refine aw_istore_n (pc := 59) [(2, .int (0 : Int32)), (0, .ref x0), (1, .int x1)] dX12_run_59 rfl (by decide) rfl ?_
    refine aw_iconst (pc := 60) (v := (0 : Int32)) dX12_run_60 (by decide) ?_
    refine aw_istore_n (pc := 61) [(3, .int (0 : Int32)), (2, .int (0 : Int32)), (0, .ref x0), (1, .int x1)] dX12_run_61 rfl (by decide) rfl ?_
    refine aw_sub [2, 3, 1, 0] rfl ?_
    exact c_X12_run_62 K54 hK54 _ _ _ _ _ _ _ h
theorem c_X12_run_54 {G : ah_G}   : ∀ (n : Nat) (x0 : Nat) (x1 : Int32) (x2 : Int32) (σ : ah_H) (r : ah_H), f_X12_run_54   n x0 x1 x2 σ = some r → AW G m_X12_run 6 0 0 54 [(0, .ref x0), (1, .int x1), (2, .int x2)] [] σ (ah_N G (ah_rv r)) := by
  intro n
  induction n with
  | zero => intro x0 x1 x2 σ r h; cases h
  | succ n ih => intro x0 x1 x2 σ r h; exact c_X12_run_54_b   _ ih x0 x1 x2 σ r h
set_option maxRecDepth 100000 in
set_option maxHeartbeats 4000000 in
theorem c_X12_run_52 {G : ah_G}   : ∀ (x0 : Nat) (x1 : Int32) (σ : ah_H) (r : ah_H), f_X12_run_52   x0 x1 σ = some r → AW G m_X12_run 6 0 0 52 [(0, .ref x0), (1, .int x1)] [] σ (ah_N G (ah_rv r)) := by
  intro x0 x1 σ r h
  unfold f_X12_run_52 at h
  refine aw_iconst (pc := 52) (v := (1 : Int32)) dX12_run_52 (by decide) ?_
  refine aw_istore_n (pc := 53) [(2, .int (1 : Int32)), (0, .ref x0), (1, .int x1)] dX12_run_53 rfl (by decide) rfl ?_
  refine aw_sub [1, 2, 0] rfl ?_
  exact c_X12_run_54  _ _ _ _ _ _ h
set_option maxRecDepth 100000 in
set_option maxHeartbeats 4000000 in
theorem c_X12_run_23_b {G : ah_G}  (K23 : Nat → Int32 → Int32 → ah_H → Option (ah_H)) (hK23 : ∀ (x0 : Nat) (x1 : Int32) (x2 : Int32) (σ : ah_H) (r : ah_H), K23 x0 x1 x2 σ = some r → AW G m_X12_run 6 0 0 23 [(0, .ref x0), (1, .int x1), (2, .int x2)] [] σ (ah_N G (ah_rv r))) : ∀ (x0 : Nat) (x1 : Int32) (x2 : Int32) (σ : ah_H) (r : ah_H), f_X12_run_23_b  K23 x0 x1 x2 σ = some r → AW G m_X12_run 6 0 0 23 [(0, .ref x0), (1, .int x1), (2, .int x2)] [] σ (ah_N G (ah_rv r)) := by
  intro x0 x1 x2 σ r h
  unfold f_X12_run_23_b at h
  refine aw_iload_n (pc := 23) 2 dX12_run_23 rfl ?_
  refine aw_aload_n (pc := 24) 0 dX12_run_24 rfl ?_
  obtain ⟨v1, e, h⟩ := op_bd h
  refine ow_gR (pc := 25) e dX12_run_25 fd_X12_95 rfl ?_
  obtain ⟨n2, e, h⟩ := op_bd h
  refine ow_alen (pc := 28) e dX12_run_28 (by decide) ?_
  refine aw_icmp_ge (pc := 29) 52 dX12_run_29 (by decide) (fun z => ?_) (fun z => ?_)
  · replace h := (if_pos z).symm.trans h
    refine aw_sub [0, 1] rfl ?_
    exact c_X12_run_52  _ _ _ _ h
  · replace h := (if_neg z).symm.trans h
    refine aw_aload_n (pc := 32) 0 dX12_run_32 rfl ?_
    obtain ⟨v3, e, h⟩ := op_bd h
    refine ow_gR (pc := 33) e dX12_run_33 fd_X12_95 rfl ?_
    refine aw_iload_n (pc := 36) 2 dX12_run_36 rfl ?_
    refine aw_lconst (pc := 37) (v := (0 : Int64)) dX12_run_37 (by decide) ?_
    obtain ⟨σ4, e, h⟩ := op_bd h
    refine ow_sL (pc := 38) e dX12_run_38 ?_
    refine aw_aload_n (pc := 39) 0 dX12_run_39 rfl ?_
    obtain ⟨v5, e, h⟩ := op_bd h
    refine ow_gR (pc := 40) e dX12_run_40 fd_X12_98 rfl ?_
    refine aw_iload_n (pc := 43) 2 dX12_run_43 rfl ?_
    refine aw_lconst (pc := 44) (v := (0 : Int64)) dX12_run_44 (by decide) ?_
    obtain ⟨σ6, e, h⟩ := op_bd h
    refine ow_sL (pc := 45) e dX12_run_45 ?_
    refine aw_iinc (pc := 46) 2 [(2, .int (x2 + (1 : Int32))), (0, .ref x0), (1, .int x1)] (x2 + (1 : Int32)) dX12_run_46 rfl rfl (by decide) rfl ?_
    refine aw_goto (pc := 49) 23 dX12_run_49 (by decide) ?_
    refine aw_sub [1, 2, 0] rfl ?_
    exact hK23 _ _ _ _ _ h
theorem c_X12_run_23 {G : ah_G}   : ∀ (n : Nat) (x0 : Nat) (x1 : Int32) (x2 : Int32) (σ : ah_H) (r : ah_H), f_X12_run_23   n x0 x1 x2 σ = some r → AW G m_X12_run 6 0 0 23 [(0, .ref x0), (1, .int x1), (2, .int x2)] [] σ (ah_N G (ah_rv r)) := by
  intro n
  induction n with
  | zero => intro x0 x1 x2 σ r h; cases h
  | succ n ih => intro x0 x1 x2 σ r h; exact c_X12_run_23_b   _ ih x0 x1 x2 σ r h
set_option maxRecDepth 100000 in
set_option maxHeartbeats 4000000 in
theorem c_X12_run_21 {G : ah_G}   : ∀ (x0 : Nat) (x1 : Int32) (σ : ah_H) (r : ah_H), f_X12_run_21   x0 x1 σ = some r → AW G m_X12_run 6 0 0 21 [(0, .ref x0), (1, .int x1)] [] σ (ah_N G (ah_rv r)) := by
  intro x0 x1 σ r h
  unfold f_X12_run_21 at h
  refine aw_iconst (pc := 21) (v := (0 : Int32)) dX12_run_21 (by decide) ?_
  refine aw_istore_n (pc := 22) [(2, .int (0 : Int32)), (0, .ref x0), (1, .int x1)] dX12_run_22 rfl (by decide) rfl ?_
  refine aw_sub [1, 2, 0] rfl ?_
  exact c_X12_run_23  _ _ _ _ _ _ h
set_option maxRecDepth 100000 in
set_option maxHeartbeats 4000000 in
theorem c_X12_run_2_b {G : ah_G}  (K2 : Nat → Int32 → Int32 → ah_H → Option (ah_H)) (hK2 : ∀ (x0 : Nat) (x1 : Int32) (x2 : Int32) (σ : ah_H) (r : ah_H), K2 x0 x1 x2 σ = some r → AW G m_X12_run 6 0 0 2 [(0, .ref x0), (1, .int x1), (2, .int x2)] [] σ (ah_N G (ah_rv r))) : ∀ (x0 : Nat) (x1 : Int32) (x2 : Int32) (σ : ah_H) (r : ah_H), f_X12_run_2_b  K2 x0 x1 x2 σ = some r → AW G m_X12_run 6 0 0 2 [(0, .ref x0), (1, .int x1), (2, .int x2)] [] σ (ah_N G (ah_rv r)) := by
  intro x0 x1 x2 σ r h
  unfold f_X12_run_2_b at h
  refine aw_iload_n (pc := 2) 2 dX12_run_2 rfl ?_
  refine aw_bipush (pc := 3) (v := (7 : Int32)) dX12_run_3 (by decide) ?_
  refine aw_icmp_ge (pc := 5) 21 dX12_run_5 (by decide) (fun z => ?_) (fun z => ?_)
  · replace h := (if_pos z).symm.trans h
    refine aw_sub [0, 1] rfl ?_
    exact c_X12_run_21  _ _ _ _ h
  · replace h := (if_neg z).symm.trans h
    refine aw_aload_n (pc := 8) 0 dX12_run_8 rfl ?_
    obtain ⟨v1, e, h⟩ := op_bd h
    refine ow_gR (pc := 9) e dX12_run_9 fd_X12_101 rfl ?_
    refine aw_iload_n (pc := 12) 2 dX12_run_12 rfl ?_
    refine aw_iconst (pc := 13) (v := (0 : Int32)) dX12_run_13 (by decide) ?_
    obtain ⟨σ2, e, h⟩ := op_bd h
    refine ow_sZ (pc := 14) e dX12_run_14 ?_
    refine aw_iinc (pc := 15) 2 [(2, .int (x2 + (1 : Int32))), (0, .ref x0), (1, .int x1)] (x2 + (1 : Int32)) dX12_run_15 rfl rfl (by decide) rfl ?_
    refine aw_goto (pc := 18) 2 dX12_run_18 (by decide) ?_
    refine aw_sub [1, 2, 0] rfl ?_
    exact hK2 _ _ _ _ _ h
theorem c_X12_run_2 {G : ah_G}   : ∀ (n : Nat) (x0 : Nat) (x1 : Int32) (x2 : Int32) (σ : ah_H) (r : ah_H), f_X12_run_2   n x0 x1 x2 σ = some r → AW G m_X12_run 6 0 0 2 [(0, .ref x0), (1, .int x1), (2, .int x2)] [] σ (ah_N G (ah_rv r)) := by
  intro n
  induction n with
  | zero => intro x0 x1 x2 σ r h; cases h
  | succ n ih => intro x0 x1 x2 σ r h; exact c_X12_run_2_b   _ ih x0 x1 x2 σ r h
set_option maxRecDepth 100000 in
set_option maxHeartbeats 4000000 in
theorem c_X12_run_0 {G : ah_G}   : ∀ (x0 : Nat) (x1 : Int32) (σ : ah_H) (r : ah_H), f_X12_run_0   x0 x1 σ = some r → AW G m_X12_run 6 0 0 0 [(0, .ref x0), (1, .int x1)] [] σ (ah_N G (ah_rv r)) := by
  intro x0 x1 σ r h
  unfold f_X12_run_0 at h
  refine aw_iconst (pc := 0) (v := (0 : Int32)) dX12_run_0 (by decide) ?_
  refine aw_istore_n (pc := 1) [(2, .int (0 : Int32)), (0, .ref x0), (1, .int x1)] dX12_run_1 rfl (by decide) rfl ?_
  refine aw_sub [1, 2, 0] rfl ?_
  exact c_X12_run_2  _ _ _ _ _ _ h
theorem c_X12_run {G : ah_G}   (x0 : Nat) (x1 : Int32) (σ : ah_H) (r : ah_H) (h : f_X12_run  x0 x1 σ = some r) : AM G m_X12_run 6 0 0 [.ref x0, .int x1] σ (ah_rv r) := aw_enter (by decide) (Nat.le_of_ble_eq_true rfl) (c_X12_run_0 _ _ _ _ (op_ck_k h))
def f_X12_greatest_85  (K17 : Nat → Int32 → Int64 → Int32 → ah_H → Option (Int64 × ah_H)) (K31 : Nat → Int32 → Int64 → Int32 → Int32 → ah_H → Option (Int64 × ah_H)) (x0 : Nat) (x1 : Int32) (x2 : Int64) (x4 : Int32) (x5 : Int32) (σ : ah_H) : Option (Int64 × ah_H) :=
  K31 x0 x1 x2 x4 (x5 + (1 : Int32)) σ
def f_X12_greatest_91  (K17 : Nat → Int32 → Int64 → Int32 → ah_H → Option (Int64 × ah_H)) (x0 : Nat) (x1 : Int32) (x2 : Int64) (x4 : Int32) (σ : ah_H) : Option (Int64 × ah_H) :=
  K17 x0 x1 x2 (x4 + (1 : Int32)) σ
def f_X12_greatest_31_b  (K17 : Nat → Int32 → Int64 → Int32 → ah_H → Option (Int64 × ah_H)) (K31 : Nat → Int32 → Int64 → Int32 → Int32 → ah_H → Option (Int64 × ah_H)) (x0 : Nat) (x1 : Int32) (x2 : Int64) (x4 : Int32) (x5 : Int32) (σ : ah_H) : Option (Int64 × ah_H) :=
  if (30 : Int32) ≤ x5 then (f_X12_greatest_91 K17 x0 x1 x2 x4 σ) else ((op_gR 12 43 σ x0).bind fun v1 => (f_X12_atFlow x1 x4 x5 σ).bind fun r2 => (op_aL r2.2 v1 r2.1).bind fun v3 => if 0 < (lg_cmp v3 x2) then ((op_gR 12 43 r2.2 x0).bind fun v4 => (f_X12_atFlow x1 x4 x5 r2.2).bind fun r5 => (op_aL r5.2 v4 r5.1).bind fun v6 => (op_pI 12 46 r5.2 x0 x4).bind fun σ7 => (op_pI 12 47 σ7 x0 x5).bind fun σ8 => f_X12_greatest_85 K17 K31 x0 x1 v6 x4 x5 σ8) else (f_X12_greatest_85 K17 K31 x0 x1 x2 x4 x5 r2.2))
def f_X12_greatest_31  (K17 : Nat → Int32 → Int64 → Int32 → ah_H → Option (Int64 × ah_H)) : Nat → Nat → Int32 → Int64 → Int32 → Int32 → ah_H → Option (Int64 × ah_H)
  | 0, _, _, _, _, _, _ => none
  | n + 1, x0, x1, x2, x4, x5, σ => f_X12_greatest_31_b K17 (f_X12_greatest_31 K17 n) x0 x1 x2 x4 x5 σ
def f_X12_greatest_97   (x2 : Int64) (σ : ah_H) : Option (Int64 × ah_H) :=
  some ((op_maxl (0 : Int64) x2), σ)
def f_X12_greatest_17_b  (K17 : Nat → Int32 → Int64 → Int32 → ah_H → Option (Int64 × ah_H)) (x0 : Nat) (x1 : Int32) (x2 : Int64) (x4 : Int32) (σ : ah_H) : Option (Int64 × ah_H) :=
  (op_gR 12 3 σ x0).bind fun v1 => (op_aI σ v1 (3 : Int32)).bind fun v2 => if v2 ≤ x4 then (f_X12_greatest_97 x2 σ) else (f_X12_greatest_31 K17 5000 x0 x1 x2 x4 (0 : Int32) σ)
def f_X12_greatest_17   : Nat → Nat → Int32 → Int64 → Int32 → ah_H → Option (Int64 × ah_H)
  | 0, _, _, _, _, _ => none
  | n + 1, x0, x1, x2, x4, σ => f_X12_greatest_17_b (f_X12_greatest_17 n) x0 x1 x2 x4 σ
def f_X12_greatest_0   (x0 : Nat) (x1 : Int32) (σ : ah_H) : Option (Int64 × ah_H) :=
  (op_pI 12 46 σ x0 (-1 : Int32)).bind fun σ1 => (op_pI 12 47 σ1 x0 (-1 : Int32)).bind fun σ2 => f_X12_greatest_17 5000 x0 x1 (-1 : Int64) (0 : Int32) σ2
def f_X12_greatest  (x0 : Nat) (x1 : Int32) (σ : ah_H) : Option (Int64 × ah_H) := op_ck 12 σ x0 (f_X12_greatest_0 x0 x1 σ)
set_option maxRecDepth 100000 in
set_option maxHeartbeats 4000000 in
theorem c_X12_greatest_85 {G : ah_G}  (K17 : Nat → Int32 → Int64 → Int32 → ah_H → Option (Int64 × ah_H)) (hK17 : ∀ (x0 : Nat) (x1 : Int32) (x2 : Int64) (x4 : Int32) (σ : ah_H) (r : Int64 × ah_H), K17 x0 x1 x2 x4 σ = some r → AW G m_X12_greatest 1 0 0 17 [(0, .ref x0), (1, .int x1), (2, .long x2), (4, .int x4)] [] σ (ah_N G (ah_rl r))) (K31 : Nat → Int32 → Int64 → Int32 → Int32 → ah_H → Option (Int64 × ah_H)) (hK31 : ∀ (x0 : Nat) (x1 : Int32) (x2 : Int64) (x4 : Int32) (x5 : Int32) (σ : ah_H) (r : Int64 × ah_H), K31 x0 x1 x2 x4 x5 σ = some r → AW G m_X12_greatest 1 0 0 31 [(0, .ref x0), (1, .int x1), (2, .long x2), (4, .int x4), (5, .int x5)] [] σ (ah_N G (ah_rl r))) : ∀ (x0 : Nat) (x1 : Int32) (x2 : Int64) (x4 : Int32) (x5 : Int32) (σ : ah_H) (r : Int64 × ah_H), f_X12_greatest_85  K17 K31 x0 x1 x2 x4 x5 σ = some r → AW G m_X12_greatest 1 0 0 85 [(0, .ref x0), (1, .int x1), (2, .long x2), (4, .int x4), (5, .int x5)] [] σ (ah_N G (ah_rl r)) := by
  intro x0 x1 x2 x4 x5 σ r h
  unfold f_X12_greatest_85 at h
  refine aw_iinc (pc := 85) 4 [(5, .int (x5 + (1 : Int32))), (0, .ref x0), (1, .int x1), (2, .long x2), (4, .int x4)] (x5 + (1 : Int32)) dX12_greatest_85 rfl rfl (by decide) rfl ?_
  refine aw_goto (pc := 88) 31 dX12_greatest_88 (by decide) ?_
  refine aw_sub [1, 2, 3, 4, 0] rfl ?_
  exact hK31 _ _ _ _ _ _ _ h
set_option maxRecDepth 100000 in
set_option maxHeartbeats 4000000 in
theorem c_X12_greatest_91 {G : ah_G}  (K17 : Nat → Int32 → Int64 → Int32 → ah_H → Option (Int64 × ah_H)) (hK17 : ∀ (x0 : Nat) (x1 : Int32) (x2 : Int64) (x4 : Int32) (σ : ah_H) (r : Int64 × ah_H), K17 x0 x1 x2 x4 σ = some r → AW G m_X12_greatest 1 0 0 17 [(0, .ref x0), (1, .int x1), (2, .long x2), (4, .int x4)] [] σ (ah_N G (ah_rl r))) : ∀ (x0 : Nat) (x1 : Int32) (x2 : Int64) (x4 : Int32) (σ : ah_H) (r : Int64 × ah_H), f_X12_greatest_91  K17 x0 x1 x2 x4 σ = some r → AW G m_X12_greatest 1 0 0 91 [(0, .ref x0), (1, .int x1), (2, .long x2), (4, .int x4)] [] σ (ah_N G (ah_rl r)) := by
  intro x0 x1 x2 x4 σ r h
  unfold f_X12_greatest_91 at h
  refine aw_iinc (pc := 91) 3 [(4, .int (x4 + (1 : Int32))), (0, .ref x0), (1, .int x1), (2, .long x2)] (x4 + (1 : Int32)) dX12_greatest_91 rfl rfl (by decide) rfl ?_
  refine aw_goto (pc := 94) 17 dX12_greatest_94 (by decide) ?_
  refine aw_sub [1, 2, 3, 0] rfl ?_
  exact hK17 _ _ _ _ _ _ h
set_option maxRecDepth 100000 in
set_option maxHeartbeats 4000000 in
theorem c_X12_greatest_31_b {G : ah_G}  (K17 : Nat → Int32 → Int64 → Int32 → ah_H → Option (Int64 × ah_H)) (hK17 : ∀ (x0 : Nat) (x1 : Int32) (x2 : Int64) (x4 : Int32) (σ : ah_H) (r : Int64 × ah_H), K17 x0 x1 x2 x4 σ = some r → AW G m_X12_greatest 1 0 0 17 [(0, .ref x0), (1, .int x1), (2, .long x2), (4, .int x4)] [] σ (ah_N G (ah_rl r))) (K31 : Nat → Int32 → Int64 → Int32 → Int32 → ah_H → Option (Int64 × ah_H)) (hK31 : ∀ (x0 : Nat) (x1 : Int32) (x2 : Int64) (x4 : Int32) (x5 : Int32) (σ : ah_H) (r : Int64 × ah_H), K31 x0 x1 x2 x4 x5 σ = some r → AW G m_X12_greatest 1 0 0 31 [(0, .ref x0), (1, .int x1), (2, .long x2), (4, .int x4), (5, .int x5)] [] σ (ah_N G (ah_rl r))) : ∀ (x0 : Nat) (x1 : Int32) (x2 : Int64) (x4 : Int32) (x5 : Int32) (σ : ah_H) (r : Int64 × ah_H), f_X12_greatest_31_b  K17 K31 x0 x1 x2 x4 x5 σ = some r → AW G m_X12_greatest 1 0 0 31 [(0, .ref x0), (1, .int x1), (2, .long x2), (4, .int x4), (5, .int x5)] [] σ (ah_N G (ah_rl r)) := by
  intro x0 x1 x2 x4 x5 σ r h
  unfold f_X12_greatest_31_b at h
  refine aw_iload (pc := 31) 4 dX12_greatest_31 rfl ?_
  refine aw_bipush (pc := 33) (v := (30 : Int32)) dX12_greatest_33 (by decide) ?_
  refine aw_icmp_ge (pc := 35) 91 dX12_greatest_35 (by decide) (fun z => ?_) (fun z => ?_)
  · replace h := (if_pos z).symm.trans h
    refine aw_sub [0, 1, 2, 3] rfl ?_
    exact c_X12_greatest_91 K17 hK17 _ _ _ _ _ _ h
  · replace h := (if_neg z).symm.trans h
    refine aw_aload_n (pc := 38) 0 dX12_greatest_38 rfl ?_
    obtain ⟨v1, e, h⟩ := op_bd h
    refine ow_gR (pc := 39) e dX12_greatest_39 fd_X12_95 rfl ?_
    refine aw_iload_n (pc := 42) 1 dX12_greatest_42 rfl ?_
    refine aw_iload (pc := 43) 3 dX12_greatest_43 rfl ?_
    refine aw_iload (pc := 45) 4 dX12_greatest_45 rfl ?_
    obtain ⟨r2, e, h⟩ := op_bd h
    refine ow_cSi (pc := 47) [.int x1, .int x4, .int x5] ((c_X12_atFlow _ _ _ _ _ e).mono (by decide)) rfl dX12_greatest_47 cw_X12_425 rfl (Nat.le_of_ble_eq_true rfl) ?_
    obtain ⟨v3, e, h⟩ := op_bd h
    refine ow_aL (pc := 50) e dX12_greatest_50 ?_
    refine aw_lload_n (pc := 51) 2 dX12_greatest_51 rfl ?_
    refine aw_lcmp (pc := 52) dX12_greatest_52 ?_
    refine aw_if_gt (pc := 53) 59 dX12_greatest_53 (by decide) (fun z => ?_) (fun z => ?_)
    · replace h := (if_pos z).symm.trans h
      refine aw_aload_n (pc := 59) 0 dX12_greatest_59 rfl ?_
      obtain ⟨v4, e, h⟩ := op_bd h
      refine ow_gR (pc := 60) e dX12_greatest_60 fd_X12_95 rfl ?_
      refine aw_iload_n (pc := 63) 1 dX12_greatest_63 rfl ?_
      refine aw_iload (pc := 64) 3 dX12_greatest_64 rfl ?_
      refine aw_iload (pc := 66) 4 dX12_greatest_66 rfl ?_
      obtain ⟨r5, e, h⟩ := op_bd h
      refine ow_cSi (pc := 68) [.int x1, .int x4, .int x5] ((c_X12_atFlow _ _ _ _ _ e).mono (by decide)) rfl dX12_greatest_68 cw_X12_425 rfl (Nat.le_of_ble_eq_true rfl) ?_
      obtain ⟨v6, e, h⟩ := op_bd h
      refine ow_aL (pc := 71) e dX12_greatest_71 ?_
      refine aw_lstore_n (pc := 72) [(2, .long v6), (0, .ref x0), (1, .int x1), (4, .int x4), (5, .int x5)] dX12_greatest_72 rfl (by decide) rfl ?_
      refine aw_aload_n (pc := 73) 1 dX12_greatest_73 rfl ?_
      refine aw_iload (pc := 74) 3 dX12_greatest_74 rfl ?_
      obtain ⟨σ7, e, h⟩ := op_bd h
      refine ow_pI (pc := 76) e dX12_greatest_76 fd_X12_434 ?_
      refine aw_aload_n (pc := 79) 1 dX12_greatest_79 rfl ?_
      refine aw_iload (pc := 80) 4 dX12_greatest_80 rfl ?_
      obtain ⟨σ8, e, h⟩ := op_bd h
      refine ow_pI (pc := 82) e dX12_greatest_82 fd_X12_437 ?_
      refine aw_sub [1, 2, 0, 3, 4] rfl ?_
      exact c_X12_greatest_85 K17 hK17 K31 hK31 _ _ _ _ _ _ _ h
    · replace h := (if_neg z).symm.trans h
      refine aw_goto (pc := 56) 85 dX12_greatest_56 (by decide) ?_
      exact c_X12_greatest_85 K17 hK17 K31 hK31 _ _ _ _ _ _ _ h
theorem c_X12_greatest_31 {G : ah_G}  (K17 : Nat → Int32 → Int64 → Int32 → ah_H → Option (Int64 × ah_H)) (hK17 : ∀ (x0 : Nat) (x1 : Int32) (x2 : Int64) (x4 : Int32) (σ : ah_H) (r : Int64 × ah_H), K17 x0 x1 x2 x4 σ = some r → AW G m_X12_greatest 1 0 0 17 [(0, .ref x0), (1, .int x1), (2, .long x2), (4, .int x4)] [] σ (ah_N G (ah_rl r))) : ∀ (n : Nat) (x0 : Nat) (x1 : Int32) (x2 : Int64) (x4 : Int32) (x5 : Int32) (σ : ah_H) (r : Int64 × ah_H), f_X12_greatest_31  K17 n x0 x1 x2 x4 x5 σ = some r → AW G m_X12_greatest 1 0 0 31 [(0, .ref x0), (1, .int x1), (2, .long x2), (4, .int x4), (5, .int x5)] [] σ (ah_N G (ah_rl r)) := by
  intro n
  induction n with
  | zero => intro x0 x1 x2 x4 x5 σ r h; cases h
  | succ n ih => intro x0 x1 x2 x4 x5 σ r h; exact c_X12_greatest_31_b  K17 hK17 _ ih x0 x1 x2 x4 x5 σ r h
set_option maxRecDepth 100000 in
set_option maxHeartbeats 4000000 in
theorem c_X12_greatest_97 {G : ah_G}   : ∀ (x2 : Int64) (σ : ah_H) (r : Int64 × ah_H), f_X12_greatest_97   x2 σ = some r → AW G m_X12_greatest 1 0 0 97 [(2, .long x2)] [] σ (ah_N G (ah_rl r)) := by
  intro x2 σ r h
  unfold f_X12_greatest_97 at h
  refine aw_lconst (pc := 97) (v := (0 : Int64)) dX12_greatest_97 (by decide) ?_
  refine aw_lload_n (pc := 98) 0 dX12_greatest_98 rfl ?_
  refine ow_maxl (pc := 99) dX12_greatest_99 mt_X12_353 (Nat.le_of_ble_eq_true rfl) ?_
  exact ow_lret (pc := 102) h dX12_greatest_102 rfl
set_option maxRecDepth 100000 in
set_option maxHeartbeats 4000000 in
theorem c_X12_greatest_17_b {G : ah_G}  (K17 : Nat → Int32 → Int64 → Int32 → ah_H → Option (Int64 × ah_H)) (hK17 : ∀ (x0 : Nat) (x1 : Int32) (x2 : Int64) (x4 : Int32) (σ : ah_H) (r : Int64 × ah_H), K17 x0 x1 x2 x4 σ = some r → AW G m_X12_greatest 1 0 0 17 [(0, .ref x0), (1, .int x1), (2, .long x2), (4, .int x4)] [] σ (ah_N G (ah_rl r))) : ∀ (x0 : Nat) (x1 : Int32) (x2 : Int64) (x4 : Int32) (σ : ah_H) (r : Int64 × ah_H), f_X12_greatest_17_b  K17 x0 x1 x2 x4 σ = some r → AW G m_X12_greatest 1 0 0 17 [(0, .ref x0), (1, .int x1), (2, .long x2), (4, .int x4)] [] σ (ah_N G (ah_rl r)) := by
  intro x0 x1 x2 x4 σ r h
  unfold f_X12_greatest_17_b at h
  refine aw_iload (pc := 17) 3 dX12_greatest_17 rfl ?_
  refine aw_aload_n (pc := 19) 0 dX12_greatest_19 rfl ?_
  obtain ⟨v1, e, h⟩ := op_bd h
  refine ow_gR (pc := 20) e dX12_greatest_20 fd_X12_15 rfl ?_
  refine aw_iconst (pc := 23) (v := (3 : Int32)) dX12_greatest_23 (by decide) ?_
  obtain ⟨v2, e, h⟩ := op_bd h
  refine ow_aI (pc := 24) e dX12_greatest_24 ?_
  refine aw_icmp_ge (pc := 25) 97 dX12_greatest_25 (by decide) (fun z => ?_) (fun z => ?_)
  · replace h := (if_pos z).symm.trans h
    refine aw_sub [2] rfl ?_
    exact c_X12_greatest_97  _ _ _ h
  · replace h := (if_neg z).symm.trans h
    refine aw_iconst (pc := 28) (v := (0 : Int32)) dX12_greatest_28 (by decide) ?_
    refine aw_istore (pc := 29) [(5, .int (0 : Int32)), (0, .ref x0), (1, .int x1), (2, .long x2), (4, .int x4)] dX12_greatest_29 (by decide) rfl ?_
    refine aw_sub [1, 2, 3, 4, 0] rfl ?_
    exact c_X12_greatest_31 K17 hK17 _ _ _ _ _ _ _ _ h
theorem c_X12_greatest_17 {G : ah_G}   : ∀ (n : Nat) (x0 : Nat) (x1 : Int32) (x2 : Int64) (x4 : Int32) (σ : ah_H) (r : Int64 × ah_H), f_X12_greatest_17   n x0 x1 x2 x4 σ = some r → AW G m_X12_greatest 1 0 0 17 [(0, .ref x0), (1, .int x1), (2, .long x2), (4, .int x4)] [] σ (ah_N G (ah_rl r)) := by
  intro n
  induction n with
  | zero => intro x0 x1 x2 x4 σ r h; cases h
  | succ n ih => intro x0 x1 x2 x4 σ r h; exact c_X12_greatest_17_b   _ ih x0 x1 x2 x4 σ r h
set_option maxRecDepth 100000 in
set_option maxHeartbeats 4000000 in
theorem c_X12_greatest_0 {G : ah_G}   : ∀ (x0 : Nat) (x1 : Int32) (σ : ah_H) (r : Int64 × ah_H), f_X12_greatest_0   x0 x1 σ = some r → AW G m_X12_greatest 1 0 0 0 [(0, .ref x0), (1, .int x1)] [] σ (ah_N G (ah_rl r)) := by
  intro x0 x1 σ r h
  unfold f_X12_greatest_0 at h
  refine aw_ldc2 (pc := 0) dX12_greatest_0 kl_X12_432 ?_
  refine aw_lstore_n (pc := 3) [(2, .long (-1 : Int64)), (0, .ref x0), (1, .int x1)] dX12_greatest_3 rfl (by decide) rfl ?_
  refine aw_aload_n (pc := 4) 1 dX12_greatest_4 rfl ?_
  refine aw_iconst (pc := 5) (v := (-1 : Int32)) dX12_greatest_5 (by decide) ?_
  obtain ⟨σ1, e, h⟩ := op_bd h
  refine ow_pI (pc := 6) e dX12_greatest_6 fd_X12_434 ?_
  refine aw_aload_n (pc := 9) 1 dX12_greatest_9 rfl ?_
  refine aw_iconst (pc := 10) (v := (-1 : Int32)) dX12_greatest_10 (by decide) ?_
  obtain ⟨σ2, e, h⟩ := op_bd h
  refine ow_pI (pc := 11) e dX12_greatest_11 fd_X12_437 ?_
  refine aw_iconst (pc := 14) (v := (0 : Int32)) dX12_greatest_14 (by decide) ?_
  refine aw_istore (pc := 15) [(4, .int (0 : Int32)), (2, .long (-1 : Int64)), (0, .ref x0), (1, .int x1)] dX12_greatest_15 (by decide) rfl ?_
  refine aw_sub [2, 3, 1, 0] rfl ?_
  exact c_X12_greatest_17  _ _ _ _ _ _ _ h
theorem c_X12_greatest {G : ah_G}   (x0 : Nat) (x1 : Int32) (σ : ah_H) (r : Int64 × ah_H) (h : f_X12_greatest  x0 x1 σ = some r) : AM G m_X12_greatest 1 0 0 [.ref x0, .int x1] σ (ah_rl r) := aw_enter (by decide) (Nat.le_of_ble_eq_true rfl) (c_X12_greatest_0 _ _ _ _ (op_ck_k h))
