def f_X0_fill_73  (K14 : Nat → Int32 → Int32 → ah_H → Option (ah_H)) (K35 : Nat → Int32 → Int32 → Int32 → ah_H → Option (ah_H)) (x0 : Nat) (x1 : Int32) (x2 : Int32) (x3 : Int32) (s0 : Nat) (s1 : Int32) (s2 : Int32) (σ : ah_H) : Option (ah_H) :=
  (f_X0_joinBranches s0 s1 s2 σ).bind fun r1 => K35 x0 x1 x2 (x3 + (1 : Int32)) r1
def f_X0_fill_129  (K14 : Nat → Int32 → Int32 → ah_H → Option (ah_H)) (K92 : Nat → Int32 → Int32 → Int32 → ah_H → Option (ah_H)) (x0 : Nat) (x1 : Int32) (x2 : Int32) (x3 : Int32) (σ : ah_H) : Option (ah_H) :=
  K92 x0 x1 x2 (x3 + (1 : Int32)) σ
def f_X0_fill_135  (K14 : Nat → Int32 → Int32 → ah_H → Option (ah_H)) (x0 : Nat) (x1 : Int32) (x2 : Int32) (σ : ah_H) : Option (ah_H) :=
  K14 x0 x1 (x2 + (1 : Int32)) σ
def f_X0_fill_92_b  (K14 : Nat → Int32 → Int32 → ah_H → Option (ah_H)) (K92 : Nat → Int32 → Int32 → Int32 → ah_H → Option (ah_H)) (x0 : Nat) (x1 : Int32) (x2 : Int32) (x3 : Int32) (σ : ah_H) : Option (ah_H) :=
  (op_gR 0 17 σ x0).bind fun v1 => (op_gR 9 12 σ v1).bind fun v2 => (op_aI σ v2 (1 : Int32)).bind fun v3 => if v3 < x3 then (f_X0_fill_135 K14 x0 x1 x2 σ) else ((f_X0_enter x0 x2 x3 σ).bind fun r4 => (op_gL 0 18 r4 x0).bind fun v5 => if 0 ≤ (lg_cmp v5 (100000000000000000 : Int64)) then (f_X0_fill_129 K14 K92 x0 x1 x2 x3 r4) else ((f_X0_layEnds x0 x1 x2 x3 r4).bind fun r6 => f_X0_fill_129 K14 K92 x0 x1 x2 x3 r6))
def f_X0_fill_92  (K14 : Nat → Int32 → Int32 → ah_H → Option (ah_H)) : Nat → Nat → Int32 → Int32 → Int32 → ah_H → Option (ah_H)
  | 0, _, _, _, _, _ => none
  | n + 1, x0, x1, x2, x3, σ => f_X0_fill_92_b K14 (f_X0_fill_92 K14 n) x0 x1 x2 x3 σ
def f_X0_fill_82  (K14 : Nat → Int32 → Int32 → ah_H → Option (ah_H)) (x0 : Nat) (x1 : Int32) (x2 : Int32) (σ : ah_H) : Option (ah_H) :=
  (op_gR 0 17 σ x0).bind fun v1 => (op_gR 9 12 σ v1).bind fun v2 => (op_aI σ v2 (0 : Int32)).bind fun v3 => f_X0_fill_92 K14 5000 x0 x1 x2 v3 σ
def f_X0_fill_35_b  (K14 : Nat → Int32 → Int32 → ah_H → Option (ah_H)) (K35 : Nat → Int32 → Int32 → Int32 → ah_H → Option (ah_H)) (x0 : Nat) (x1 : Int32) (x2 : Int32) (x3 : Int32) (σ : ah_H) : Option (ah_H) :=
  (op_gR 0 17 σ x0).bind fun v1 => (op_gR 9 12 σ v1).bind fun v2 => (op_aI σ v2 (1 : Int32)).bind fun v3 => if v3 < x3 then (f_X0_fill_82 K14 x0 x1 x2 σ) else ((op_gR 0 17 σ x0).bind fun v4 => (op_gR 9 12 σ v4).bind fun v5 => (op_aI σ v5 (0 : Int32)).bind fun v6 => if x3 ≤ v6 then (f_X0_fill_73 K14 K35 x0 x1 x2 x3 x0 ((x2 * (13 : Int32)) + x3) (0 : Int32) σ) else (f_X0_fill_73 K14 K35 x0 x1 x2 x3 x0 ((x2 * (13 : Int32)) + x3) (1 : Int32) σ))
def f_X0_fill_35  (K14 : Nat → Int32 → Int32 → ah_H → Option (ah_H)) : Nat → Nat → Int32 → Int32 → Int32 → ah_H → Option (ah_H)
  | 0, _, _, _, _, _ => none
  | n + 1, x0, x1, x2, x3, σ => f_X0_fill_35_b K14 (f_X0_fill_35 K14 n) x0 x1 x2 x3 σ
def f_X0_fill_141   (x0 : Nat) (x1 : Int32) (σ : ah_H) : Option (ah_H) :=
  (op_gR 0 9 σ x0).bind fun v1 => (op_aR .long σ v1 x1).bind fun v2 => (op_gR 0 10 σ x0).bind fun v3 => (op_aR .long σ v3 x1).bind fun v4 => (f_X0_spread x0 v2 v4 σ).bind fun r5 => some r5
def f_X0_fill_14_b  (K14 : Nat → Int32 → Int32 → ah_H → Option (ah_H)) (x0 : Nat) (x1 : Int32) (x2 : Int32) (σ : ah_H) : Option (ah_H) :=
  (op_gR 0 17 σ x0).bind fun v1 => (op_gI 9 6 σ v1).bind fun v2 => if v2 ≤ x2 then (f_X0_fill_141 x0 x1 σ) else ((op_gR 0 17 σ x0).bind fun v3 => (op_gR 9 12 σ v3).bind fun v4 => (op_aI σ v4 (0 : Int32)).bind fun v5 => f_X0_fill_35 K14 5000 x0 x1 x2 v5 σ)
def f_X0_fill_14   : Nat → Nat → Int32 → Int32 → ah_H → Option (ah_H)
  | 0, _, _, _, _ => none
  | n + 1, x0, x1, x2, σ => f_X0_fill_14_b (f_X0_fill_14 n) x0 x1 x2 σ
def f_X0_fill_0   (x0 : Nat) (x1 : Int32) (σ : ah_H) : Option (ah_H) :=
  (op_gR 0 9 σ x0).bind fun v1 => (op_aR .long σ v1 x1).bind fun v2 => (f_J7_fill_d0a16 v2 (100000000000000000 : Int64) σ).bind fun r3 => f_X0_fill_14 5000 x0 x1 (0 : Int32) r3
def f_X0_fill  (x0 : Nat) (x1 : Int32) (σ : ah_H) : Option (ah_H) := op_ck 0 σ x0 (f_X0_fill_0 x0 x1 σ)
set_option maxRecDepth 100000 in
set_option maxHeartbeats 4000000 in
theorem c_X0_fill_73 {G : ah_G}  (K14 : Nat → Int32 → Int32 → ah_H → Option (ah_H)) (hK14 : ∀ (x0 : Nat) (x1 : Int32) (x2 : Int32) (σ : ah_H) (r : ah_H), K14 x0 x1 x2 σ = some r → AW G m_X0_fill 3 0 0 14 [(0, .ref x0), (1, .int x1), (2, .int x2)] [] σ (ah_N G (ah_rv r))) (K35 : Nat → Int32 → Int32 → Int32 → ah_H → Option (ah_H)) (hK35 : ∀ (x0 : Nat) (x1 : Int32) (x2 : Int32) (x3 : Int32) (σ : ah_H) (r : ah_H), K35 x0 x1 x2 x3 σ = some r → AW G m_X0_fill 3 0 0 35 [(0, .ref x0), (1, .int x1), (2, .int x2), (3, .int x3)] [] σ (ah_N G (ah_rv r))) : ∀ (x0 : Nat) (x1 : Int32) (x2 : Int32) (x3 : Int32) (s0 : Nat) (s1 : Int32) (s2 : Int32) (σ : ah_H) (r : ah_H), f_X0_fill_73  K14 K35 x0 x1 x2 x3 s0 s1 s2 σ = some r → AW G m_X0_fill 3 0 0 73 [(0, .ref x0), (1, .int x1), (2, .int x2), (3, .int x3)] [.int s2, .int s1, .ref s0] σ (ah_N G (ah_rv r)) := by
  intro x0 x1 x2 x3 s0 s1 s2 σ r h
  unfold f_X0_fill_73 at h
  obtain ⟨r1, e, h⟩ := op_bd h
  refine ow_cVv (pc := 73) [.int s1, .int s2] ((c_X0_joinBranches _ _ _ _ _ e).mono (by decide)) (op_ck_sh e) rfl dX0_fill_73 cw_X0_179 rfl (Nat.le_of_ble_eq_true rfl) ?_
  refine aw_iinc (pc := 76) 3 [(3, .int (x3 + (1 : Int32))), (0, .ref x0), (1, .int x1), (2, .int x2)] (x3 + (1 : Int32)) dX0_fill_76 rfl rfl (by decide) rfl ?_
  refine aw_goto (pc := 79) 35 dX0_fill_79 (by decide) ?_
  refine aw_sub [1, 2, 3, 0] rfl ?_
  exact hK35 _ _ _ _ _ _ h
set_option maxRecDepth 100000 in
set_option maxHeartbeats 4000000 in
theorem c_X0_fill_129 {G : ah_G}  (K14 : Nat → Int32 → Int32 → ah_H → Option (ah_H)) (hK14 : ∀ (x0 : Nat) (x1 : Int32) (x2 : Int32) (σ : ah_H) (r : ah_H), K14 x0 x1 x2 σ = some r → AW G m_X0_fill 3 0 0 14 [(0, .ref x0), (1, .int x1), (2, .int x2)] [] σ (ah_N G (ah_rv r))) (K92 : Nat → Int32 → Int32 → Int32 → ah_H → Option (ah_H)) (hK92 : ∀ (x0 : Nat) (x1 : Int32) (x2 : Int32) (x3 : Int32) (σ : ah_H) (r : ah_H), K92 x0 x1 x2 x3 σ = some r → AW G m_X0_fill 3 0 0 92 [(0, .ref x0), (1, .int x1), (2, .int x2), (3, .int x3)] [] σ (ah_N G (ah_rv r))) : ∀ (x0 : Nat) (x1 : Int32) (x2 : Int32) (x3 : Int32) (σ : ah_H) (r : ah_H), f_X0_fill_129  K14 K92 x0 x1 x2 x3 σ = some r → AW G m_X0_fill 3 0 0 129 [(0, .ref x0), (1, .int x1), (2, .int x2), (3, .int x3)] [] σ (ah_N G (ah_rv r)) := by
  intro x0 x1 x2 x3 σ r h
  unfold f_X0_fill_129 at h
  refine aw_iinc (pc := 129) 3 [(3, .int (x3 + (1 : Int32))), (0, .ref x0), (1, .int x1), (2, .int x2)] (x3 + (1 : Int32)) dX0_fill_129 rfl rfl (by decide) rfl ?_
  refine aw_goto (pc := 132) 92 dX0_fill_132 (by decide) ?_
  refine aw_sub [1, 2, 3, 0] rfl ?_
  exact hK92 _ _ _ _ _ _ h
set_option maxRecDepth 100000 in
set_option maxHeartbeats 4000000 in
theorem c_X0_fill_135 {G : ah_G}  (K14 : Nat → Int32 → Int32 → ah_H → Option (ah_H)) (hK14 : ∀ (x0 : Nat) (x1 : Int32) (x2 : Int32) (σ : ah_H) (r : ah_H), K14 x0 x1 x2 σ = some r → AW G m_X0_fill 3 0 0 14 [(0, .ref x0), (1, .int x1), (2, .int x2)] [] σ (ah_N G (ah_rv r))) : ∀ (x0 : Nat) (x1 : Int32) (x2 : Int32) (σ : ah_H) (r : ah_H), f_X0_fill_135  K14 x0 x1 x2 σ = some r → AW G m_X0_fill 3 0 0 135 [(0, .ref x0), (1, .int x1), (2, .int x2)] [] σ (ah_N G (ah_rv r)) := by
  intro x0 x1 x2 σ r h
  unfold f_X0_fill_135 at h
  refine aw_iinc (pc := 135) 2 [(2, .int (x2 + (1 : Int32))), (0, .ref x0), (1, .int x1)] (x2 + (1 : Int32)) dX0_fill_135 rfl rfl (by decide) rfl ?_
  refine aw_goto (pc := 138) 14 dX0_fill_138 (by decide) ?_
  refine aw_sub [1, 2, 0] rfl ?_
  exact hK14 _ _ _ _ _ h
set_option maxRecDepth 100000 in
set_option maxHeartbeats 4000000 in
theorem c_X0_fill_92_b {G : ah_G}  (K14 : Nat → Int32 → Int32 → ah_H → Option (ah_H)) (hK14 : ∀ (x0 : Nat) (x1 : Int32) (x2 : Int32) (σ : ah_H) (r : ah_H), K14 x0 x1 x2 σ = some r → AW G m_X0_fill 3 0 0 14 [(0, .ref x0), (1, .int x1), (2, .int x2)] [] σ (ah_N G (ah_rv r))) (K92 : Nat → Int32 → Int32 → Int32 → ah_H → Option (ah_H)) (hK92 : ∀ (x0 : Nat) (x1 : Int32) (x2 : Int32) (x3 : Int32) (σ : ah_H) (r : ah_H), K92 x0 x1 x2 x3 σ = some r → AW G m_X0_fill 3 0 0 92 [(0, .ref x0), (1, .int x1), (2, .int x2), (3, .int x3)] [] σ (ah_N G (ah_rv r))) : ∀ (x0 : Nat) (x1 : Int32) (x2 : Int32) (x3 : Int32) (σ : ah_H) (r : ah_H), f_X0_fill_92_b  K14 K92 x0 x1 x2 x3 σ = some r → AW G m_X0_fill 3 0 0 92 [(0, .ref x0), (1, .int x1), (2, .int x2), (3, .int x3)] [] σ (ah_N G (ah_rv r)) := by
  intro x0 x1 x2 x3 σ r h
  unfold f_X0_fill_92_b at h
  refine aw_iload_n (pc := 92) 3 dX0_fill_92 rfl ?_
  refine aw_aload_n (pc := 93) 0 dX0_fill_93 rfl ?_
  obtain ⟨v1, e, h⟩ := op_bd h
  refine ow_gR (pc := 94) e dX0_fill_94 fd_X0_64 rfl ?_
  obtain ⟨v2, e, h⟩ := op_bd h
  refine ow_gR (pc := 97) e dX0_fill_97 fd_X0_142 rfl ?_
  refine aw_iconst (pc := 100) (v := (1 : Int32)) dX0_fill_100 (by decide) ?_
  obtain ⟨v3, e, h⟩ := op_bd h
  refine ow_aI (pc := 101) e dX0_fill_101 ?_
  refine aw_icmp_gt (pc := 102) 135 dX0_fill_102 (by decide) (fun z => ?_) (fun z => ?_)
  · replace h := (if_pos z).symm.trans h
    refine aw_sub [0, 1, 2] rfl ?_
    exact c_X0_fill_135 K14 hK14 _ _ _ _ _ h
  · replace h := (if_neg z).symm.trans h
    refine aw_aload_n (pc := 105) 0 dX0_fill_105 rfl ?_
    refine aw_iload_n (pc := 106) 2 dX0_fill_106 rfl ?_
    refine aw_iload_n (pc := 107) 3 dX0_fill_107 rfl ?_
    obtain ⟨r4, e, h⟩ := op_bd h
    refine ow_cVv (pc := 108) [.int x2, .int x3] ((c_X0_enter _ _ _ _ _ e).mono (by decide)) (op_ck_sh e) rfl dX0_fill_108 cw_X0_183 rfl (Nat.le_of_ble_eq_true rfl) ?_
    refine aw_aload_n (pc := 111) 0 dX0_fill_111 rfl ?_
    obtain ⟨v5, e, h⟩ := op_bd h
    refine ow_gL (pc := 112) e dX0_fill_112 fd_X0_187 ?_
    refine aw_ldc2 (pc := 115) dX0_fill_115 kl_X0_174 ?_
    refine aw_lcmp (pc := 118) dX0_fill_118 ?_
    refine aw_if_ge (pc := 119) 129 dX0_fill_119 (by decide) (fun z => ?_) (fun z => ?_)
    · replace h := (if_pos z).symm.trans h
      exact c_X0_fill_129 K14 hK14 K92 hK92 _ _ _ _ _ _ h
    · replace h := (if_neg z).symm.trans h
      refine aw_aload_n (pc := 122) 0 dX0_fill_122 rfl ?_
      refine aw_iload_n (pc := 123) 1 dX0_fill_123 rfl ?_
      refine aw_iload_n (pc := 124) 2 dX0_fill_124 rfl ?_
      refine aw_iload_n (pc := 125) 3 dX0_fill_125 rfl ?_
      obtain ⟨r6, e, h⟩ := op_bd h
      refine ow_cVv (pc := 126) [.int x1, .int x2, .int x3] ((c_X0_layEnds _ _ _ _ _ _ e).mono (by decide)) (op_ck_sh e) rfl dX0_fill_126 cw_X0_190 rfl (Nat.le_of_ble_eq_true rfl) ?_
      exact c_X0_fill_129 K14 hK14 K92 hK92 _ _ _ _ _ _ h
theorem c_X0_fill_92 {G : ah_G}  (K14 : Nat → Int32 → Int32 → ah_H → Option (ah_H)) (hK14 : ∀ (x0 : Nat) (x1 : Int32) (x2 : Int32) (σ : ah_H) (r : ah_H), K14 x0 x1 x2 σ = some r → AW G m_X0_fill 3 0 0 14 [(0, .ref x0), (1, .int x1), (2, .int x2)] [] σ (ah_N G (ah_rv r))) : ∀ (n : Nat) (x0 : Nat) (x1 : Int32) (x2 : Int32) (x3 : Int32) (σ : ah_H) (r : ah_H), f_X0_fill_92  K14 n x0 x1 x2 x3 σ = some r → AW G m_X0_fill 3 0 0 92 [(0, .ref x0), (1, .int x1), (2, .int x2), (3, .int x3)] [] σ (ah_N G (ah_rv r)) := by
  intro n
  induction n with
  | zero => intro x0 x1 x2 x3 σ r h; cases h
  | succ n ih => intro x0 x1 x2 x3 σ r h; exact c_X0_fill_92_b  K14 hK14 _ ih x0 x1 x2 x3 σ r h
set_option maxRecDepth 100000 in
set_option maxHeartbeats 4000000 in
theorem c_X0_fill_82 {G : ah_G}  (K14 : Nat → Int32 → Int32 → ah_H → Option (ah_H)) (hK14 : ∀ (x0 : Nat) (x1 : Int32) (x2 : Int32) (σ : ah_H) (r : ah_H), K14 x0 x1 x2 σ = some r → AW G m_X0_fill 3 0 0 14 [(0, .ref x0), (1, .int x1), (2, .int x2)] [] σ (ah_N G (ah_rv r))) : ∀ (x0 : Nat) (x1 : Int32) (x2 : Int32) (σ : ah_H) (r : ah_H), f_X0_fill_82  K14 x0 x1 x2 σ = some r → AW G m_X0_fill 3 0 0 82 [(0, .ref x0), (1, .int x1), (2, .int x2)] [] σ (ah_N G (ah_rv r)) := by
  intro x0 x1 x2 σ r h
  unfold f_X0_fill_82 at h
  refine aw_aload_n (pc := 82) 0 dX0_fill_82 rfl ?_
  obtain ⟨v1, e, h⟩ := op_bd h
  refine ow_gR (pc := 83) e dX0_fill_83 fd_X0_64 rfl ?_
  obtain ⟨v2, e, h⟩ := op_bd h
  refine ow_gR (pc := 86) e dX0_fill_86 fd_X0_142 rfl ?_
  refine aw_iconst (pc := 89) (v := (0 : Int32)) dX0_fill_89 (by decide) ?_
  obtain ⟨v3, e, h⟩ := op_bd h
  refine ow_aI (pc := 90) e dX0_fill_90 ?_
  refine aw_istore_n (pc := 91) [(3, .int v3), (0, .ref x0), (1, .int x1), (2, .int x2)] dX0_fill_91 rfl (by decide) rfl ?_
  refine aw_sub [1, 2, 3, 0] rfl ?_
  exact c_X0_fill_92 K14 hK14 _ _ _ _ _ _ _ h
set_option maxRecDepth 100000 in
set_option maxHeartbeats 4000000 in
theorem c_X0_fill_35_b {G : ah_G}  (K14 : Nat → Int32 → Int32 → ah_H → Option (ah_H)) (hK14 : ∀ (x0 : Nat) (x1 : Int32) (x2 : Int32) (σ : ah_H) (r : ah_H), K14 x0 x1 x2 σ = some r → AW G m_X0_fill 3 0 0 14 [(0, .ref x0), (1, .int x1), (2, .int x2)] [] σ (ah_N G (ah_rv r))) (K35 : Nat → Int32 → Int32 → Int32 → ah_H → Option (ah_H)) (hK35 : ∀ (x0 : Nat) (x1 : Int32) (x2 : Int32) (x3 : Int32) (σ : ah_H) (r : ah_H), K35 x0 x1 x2 x3 σ = some r → AW G m_X0_fill 3 0 0 35 [(0, .ref x0), (1, .int x1), (2, .int x2), (3, .int x3)] [] σ (ah_N G (ah_rv r))) : ∀ (x0 : Nat) (x1 : Int32) (x2 : Int32) (x3 : Int32) (σ : ah_H) (r : ah_H), f_X0_fill_35_b  K14 K35 x0 x1 x2 x3 σ = some r → AW G m_X0_fill 3 0 0 35 [(0, .ref x0), (1, .int x1), (2, .int x2), (3, .int x3)] [] σ (ah_N G (ah_rv r)) := by
  intro x0 x1 x2 x3 σ r h
  unfold f_X0_fill_35_b at h
  refine aw_iload_n (pc := 35) 3 dX0_fill_35 rfl ?_
  refine aw_aload_n (pc := 36) 0 dX0_fill_36 rfl ?_
  obtain ⟨v1, e, h⟩ := op_bd h
  refine ow_gR (pc := 37) e dX0_fill_37 fd_X0_64 rfl ?_
  obtain ⟨v2, e, h⟩ := op_bd h
  refine ow_gR (pc := 40) e dX0_fill_40 fd_X0_142 rfl ?_
  refine aw_iconst (pc := 43) (v := (1 : Int32)) dX0_fill_43 (by decide) ?_
  obtain ⟨v3, e, h⟩ := op_bd h
  refine ow_aI (pc := 44) e dX0_fill_44 ?_
  refine aw_icmp_gt (pc := 45) 82 dX0_fill_45 (by decide) (fun z => ?_) (fun z => ?_)
  · replace h := (if_pos z).symm.trans h
    refine aw_sub [0, 1, 2] rfl ?_
    exact c_X0_fill_82 K14 hK14 _ _ _ _ _ h
  · replace h := (if_neg z).symm.trans h
    refine aw_aload_n (pc := 48) 0 dX0_fill_48 rfl ?_
    refine aw_iload_n (pc := 49) 2 dX0_fill_49 rfl ?_
    refine aw_bipush (pc := 50) (v := (13 : Int32)) dX0_fill_50 (by decide) ?_
    refine aw_imul (pc := 52) dX0_fill_52 ?_
    refine aw_iload_n (pc := 53) 3 dX0_fill_53 rfl ?_
    refine aw_iadd (pc := 54) dX0_fill_54 ?_
    refine aw_iload_n (pc := 55) 3 dX0_fill_55 rfl ?_
    refine aw_aload_n (pc := 56) 0 dX0_fill_56 rfl ?_
    obtain ⟨v4, e, h⟩ := op_bd h
    refine ow_gR (pc := 57) e dX0_fill_57 fd_X0_64 rfl ?_
    obtain ⟨v5, e, h⟩ := op_bd h
    refine ow_gR (pc := 60) e dX0_fill_60 fd_X0_142 rfl ?_
    refine aw_iconst (pc := 63) (v := (0 : Int32)) dX0_fill_63 (by decide) ?_
    obtain ⟨v6, e, h⟩ := op_bd h
    refine ow_aI (pc := 64) e dX0_fill_64 ?_
    refine aw_icmp_le (pc := 65) 72 dX0_fill_65 (by decide) (fun z => ?_) (fun z => ?_)
    · replace h := (if_pos z).symm.trans h
      refine aw_iconst (pc := 72) (v := (0 : Int32)) dX0_fill_72 (by decide) ?_
      exact c_X0_fill_73 K14 hK14 K35 hK35 _ _ _ _ _ _ _ _ _ h
    · replace h := (if_neg z).symm.trans h
      refine aw_iconst (pc := 68) (v := (1 : Int32)) dX0_fill_68 (by decide) ?_
      refine aw_goto (pc := 69) 73 dX0_fill_69 (by decide) ?_
      exact c_X0_fill_73 K14 hK14 K35 hK35 _ _ _ _ _ _ _ _ _ h
theorem c_X0_fill_35 {G : ah_G}  (K14 : Nat → Int32 → Int32 → ah_H → Option (ah_H)) (hK14 : ∀ (x0 : Nat) (x1 : Int32) (x2 : Int32) (σ : ah_H) (r : ah_H), K14 x0 x1 x2 σ = some r → AW G m_X0_fill 3 0 0 14 [(0, .ref x0), (1, .int x1), (2, .int x2)] [] σ (ah_N G (ah_rv r))) : ∀ (n : Nat) (x0 : Nat) (x1 : Int32) (x2 : Int32) (x3 : Int32) (σ : ah_H) (r : ah_H), f_X0_fill_35  K14 n x0 x1 x2 x3 σ = some r → AW G m_X0_fill 3 0 0 35 [(0, .ref x0), (1, .int x1), (2, .int x2), (3, .int x3)] [] σ (ah_N G (ah_rv r)) := by
  intro n
  induction n with
  | zero => intro x0 x1 x2 x3 σ r h; cases h
  | succ n ih => intro x0 x1 x2 x3 σ r h; exact c_X0_fill_35_b  K14 hK14 _ ih x0 x1 x2 x3 σ r h
set_option maxRecDepth 100000 in
set_option maxHeartbeats 4000000 in
theorem c_X0_fill_141 {G : ah_G}   : ∀ (x0 : Nat) (x1 : Int32) (σ : ah_H) (r : ah_H), f_X0_fill_141   x0 x1 σ = some r → AW G m_X0_fill 3 0 0 141 [(0, .ref x0), (1, .int x1)] [] σ (ah_N G (ah_rv r)) := by
  intro x0 x1 σ r h
  unfold f_X0_fill_141 at h
  refine aw_aload_n (pc := 141) 0 dX0_fill_141 rfl ?_
  refine aw_aload_n (pc := 142) 0 dX0_fill_142 rfl ?_
  obtain ⟨v1, e, h⟩ := op_bd h
  refine ow_gR (pc := 143) e dX0_fill_143 fd_X0_29 rfl ?_
  refine aw_iload_n (pc := 146) 1 dX0_fill_146 rfl ?_
  obtain ⟨v2, e, h⟩ := op_bd h
  refine ow_aR (pc := 147) e dX0_fill_147 (by decide) ?_
  refine aw_aload_n (pc := 148) 0 dX0_fill_148 rfl ?_
  obtain ⟨v3, e, h⟩ := op_bd h
  refine ow_gR (pc := 149) e dX0_fill_149 fd_X0_32 rfl ?_
  refine aw_iload_n (pc := 152) 1 dX0_fill_152 rfl ?_
  obtain ⟨v4, e, h⟩ := op_bd h
  refine ow_aR (pc := 153) e dX0_fill_153 (by decide) ?_
  obtain ⟨r5, e, h⟩ := op_bd h
  refine ow_cVv (pc := 154) [.ref v2, .ref v4] ((c_X0_spread _ _ _ _ _ e).mono (by decide)) (op_ck_sh e) rfl dX0_fill_154 cw_X0_194 rfl (Nat.le_of_ble_eq_true rfl) ?_
  exact ow_vret (pc := 157) h dX0_fill_157 rfl
set_option maxRecDepth 100000 in
set_option maxHeartbeats 4000000 in
theorem c_X0_fill_14_b {G : ah_G}  (K14 : Nat → Int32 → Int32 → ah_H → Option (ah_H)) (hK14 : ∀ (x0 : Nat) (x1 : Int32) (x2 : Int32) (σ : ah_H) (r : ah_H), K14 x0 x1 x2 σ = some r → AW G m_X0_fill 3 0 0 14 [(0, .ref x0), (1, .int x1), (2, .int x2)] [] σ (ah_N G (ah_rv r))) : ∀ (x0 : Nat) (x1 : Int32) (x2 : Int32) (σ : ah_H) (r : ah_H), f_X0_fill_14_b  K14 x0 x1 x2 σ = some r → AW G m_X0_fill 3 0 0 14 [(0, .ref x0), (1, .int x1), (2, .int x2)] [] σ (ah_N G (ah_rv r)) := by
  intro x0 x1 x2 σ r h
  unfold f_X0_fill_14_b at h
  refine aw_iload_n (pc := 14) 2 dX0_fill_14 rfl ?_
  refine aw_aload_n (pc := 15) 0 dX0_fill_15 rfl ?_
  obtain ⟨v1, e, h⟩ := op_bd h
  refine ow_gR (pc := 16) e dX0_fill_16 fd_X0_64 rfl ?_
  obtain ⟨v2, e, h⟩ := op_bd h
  refine ow_gI (pc := 19) e dX0_fill_19 fd_X0_119 rfl ?_
  refine aw_icmp_ge (pc := 22) 141 dX0_fill_22 (by decide) (fun z => ?_) (fun z => ?_)
  · replace h := (if_pos z).symm.trans h
    refine aw_sub [0, 1] rfl ?_
    exact c_X0_fill_141  _ _ _ _ h
  · replace h := (if_neg z).symm.trans h
    refine aw_aload_n (pc := 25) 0 dX0_fill_25 rfl ?_
    obtain ⟨v3, e, h⟩ := op_bd h
    refine ow_gR (pc := 26) e dX0_fill_26 fd_X0_64 rfl ?_
    obtain ⟨v4, e, h⟩ := op_bd h
    refine ow_gR (pc := 29) e dX0_fill_29 fd_X0_142 rfl ?_
    refine aw_iconst (pc := 32) (v := (0 : Int32)) dX0_fill_32 (by decide) ?_
    obtain ⟨v5, e, h⟩ := op_bd h
    refine ow_aI (pc := 33) e dX0_fill_33 ?_
    refine aw_istore_n (pc := 34) [(3, .int v5), (0, .ref x0), (1, .int x1), (2, .int x2)] dX0_fill_34 rfl (by decide) rfl ?_
    refine aw_sub [1, 2, 3, 0] rfl ?_
    exact c_X0_fill_35 K14 hK14 _ _ _ _ _ _ _ h
theorem c_X0_fill_14 {G : ah_G}   : ∀ (n : Nat) (x0 : Nat) (x1 : Int32) (x2 : Int32) (σ : ah_H) (r : ah_H), f_X0_fill_14   n x0 x1 x2 σ = some r → AW G m_X0_fill 3 0 0 14 [(0, .ref x0), (1, .int x1), (2, .int x2)] [] σ (ah_N G (ah_rv r)) := by
  intro n
  induction n with
  | zero => intro x0 x1 x2 σ r h; cases h
  | succ n ih => intro x0 x1 x2 σ r h; exact c_X0_fill_14_b   _ ih x0 x1 x2 σ r h
set_option maxRecDepth 100000 in
set_option maxHeartbeats 4000000 in
theorem c_X0_fill_0 {G : ah_G}   : ∀ (x0 : Nat) (x1 : Int32) (σ : ah_H) (r : ah_H), f_X0_fill_0   x0 x1 σ = some r → AW G m_X0_fill 3 0 0 0 [(0, .ref x0), (1, .int x1)] [] σ (ah_N G (ah_rv r)) := by
  intro x0 x1 σ r h
  unfold f_X0_fill_0 at h
  refine aw_aload_n (pc := 0) 0 dX0_fill_0 rfl ?_
  obtain ⟨v1, e, h⟩ := op_bd h
  refine ow_gR (pc := 1) e dX0_fill_1 fd_X0_29 rfl ?_
  refine aw_iload_n (pc := 4) 1 dX0_fill_4 rfl ?_
  obtain ⟨v2, e, h⟩ := op_bd h
  refine ow_aR (pc := 5) e dX0_fill_5 (by decide) ?_
  refine aw_ldc2 (pc := 6) dX0_fill_6 kl_X0_174 ?_
  obtain ⟨r3, e, h⟩ := op_bd h
  refine ow_cSv (pc := 9) [.ref v2, .long (100000000000000000 : Int64)] ((c_J7_fill_d0a16 _ _ _ _ e).mono (by decide)) rfl dX0_fill_9 cw_X0_176 rfl (Nat.le_of_ble_eq_true rfl) ?_
  refine aw_iconst (pc := 12) (v := (0 : Int32)) dX0_fill_12 (by decide) ?_
  refine aw_istore_n (pc := 13) [(2, .int (0 : Int32)), (0, .ref x0), (1, .int x1)] dX0_fill_13 rfl (by decide) rfl ?_
  refine aw_sub [1, 2, 0] rfl ?_
  exact c_X0_fill_14  _ _ _ _ _ _ h
theorem c_X0_fill {G : ah_G}   (x0 : Nat) (x1 : Int32) (σ : ah_H) (r : ah_H) (h : f_X0_fill  x0 x1 σ = some r) : AM G m_X0_fill 3 0 0 [.ref x0, .int x1] σ (ah_rv r) := aw_enter (by decide) (Nat.le_of_ble_eq_true rfl) (c_X0_fill_0 _ _ _ _ (op_ck_k h))
def f_X0_gather_66  (K7 : Nat → Int32 → Int32 → ah_H → Option (ah_H)) (x0 : Nat) (x1 : Int32) (x2 : Int32) (σ : ah_H) : Option (ah_H) :=
  K7 x0 x1 (x2 + (1 : Int32)) σ
def f_X0_gather_7_b  (K7 : Nat → Int32 → Int32 → ah_H → Option (ah_H)) (x0 : Nat) (x1 : Int32) (x2 : Int32) (σ : ah_H) : Option (ah_H) :=
  (op_gR 0 17 σ x0).bind fun v1 => (op_gI 9 0 σ v1).bind fun v2 => if v2 ≤ x2 then (some σ) else ((op_gR 0 1 σ x0).bind fun v3 => (op_aI σ v3 x2).bind fun v4 => if v4 = (-1 : Int32) then (f_X0_gather_66 K7 x0 x1 x2 σ) else ((op_gR 0 17 σ x0).bind fun v5 => (op_gR 0 1 σ x0).bind fun v6 => (op_aI σ v6 x2).bind fun v7 => (f_X9_otherEnd v5 v7 x2 σ).bind fun r8 => if r8.1 = x1 then ((op_gR 0 7 r8.2 x0).bind fun v9 => (op_gI 0 8 r8.2 x0).bind fun v10 => (op_sI r8.2 v9 v10 x2).bind fun σ11 => (op_gI 0 8 σ11 x0).bind fun v12 => (op_pI 0 8 σ11 x0 (v12 + (1 : Int32))).bind fun σ13 => f_X0_gather_66 K7 x0 x1 x2 σ13) else (f_X0_gather_66 K7 x0 x1 x2 r8.2)))
def f_X0_gather_7   : Nat → Nat → Int32 → Int32 → ah_H → Option (ah_H)
  | 0, _, _, _, _ => none
  | n + 1, x0, x1, x2, σ => f_X0_gather_7_b (f_X0_gather_7 n) x0 x1 x2 σ
def f_X0_gather_0   (x0 : Nat) (x1 : Int32) (σ : ah_H) : Option (ah_H) :=
  (op_pI 0 8 σ x0 (0 : Int32)).bind fun σ1 => f_X0_gather_7 5000 x0 x1 (0 : Int32) σ1
def f_X0_gather  (x0 : Nat) (x1 : Int32) (σ : ah_H) : Option (ah_H) := op_ck 0 σ x0 (f_X0_gather_0 x0 x1 σ)
set_option maxRecDepth 100000 in
set_option maxHeartbeats 4000000 in
theorem c_X0_gather_66 {G : ah_G}  (K7 : Nat → Int32 → Int32 → ah_H → Option (ah_H)) (hK7 : ∀ (x0 : Nat) (x1 : Int32) (x2 : Int32) (σ : ah_H) (r : ah_H), K7 x0 x1 x2 σ = some r → AW G m_X0_gather 1 0 0 7 [(0, .ref x0), (1, .int x1), (2, .int x2)] [] σ (ah_N G (ah_rv r))) : ∀ (x0 : Nat) (x1 : Int32) (x2 : Int32) (σ : ah_H) (r : ah_H), f_X0_gather_66  K7 x0 x1 x2 σ = some r → AW G m_X0_gather 1 0 0 66 [(0, .ref x0), (1, .int x1), (2, .int x2)] [] σ (ah_N G (ah_rv r)) := by
  intro x0 x1 x2 σ r h
  unfold f_X0_gather_66 at h
  refine aw_iinc (pc := 66) 2 [(2, .int (x2 + (1 : Int32))), (0, .ref x0), (1, .int x1)] (x2 + (1 : Int32)) dX0_gather_66 rfl rfl (by decide) rfl ?_
  refine aw_goto (pc := 69) 7 dX0_gather_69 (by decide) ?_
  refine aw_sub [1, 2, 0] rfl ?_
  exact hK7 _ _ _ _ _ h
set_option maxRecDepth 100000 in
set_option maxHeartbeats 4000000 in
theorem c_X0_gather_7_b {G : ah_G}  (K7 : Nat → Int32 → Int32 → ah_H → Option (ah_H)) (hK7 : ∀ (x0 : Nat) (x1 : Int32) (x2 : Int32) (σ : ah_H) (r : ah_H), K7 x0 x1 x2 σ = some r → AW G m_X0_gather 1 0 0 7 [(0, .ref x0), (1, .int x1), (2, .int x2)] [] σ (ah_N G (ah_rv r))) : ∀ (x0 : Nat) (x1 : Int32) (x2 : Int32) (σ : ah_H) (r : ah_H), f_X0_gather_7_b  K7 x0 x1 x2 σ = some r → AW G m_X0_gather 1 0 0 7 [(0, .ref x0), (1, .int x1), (2, .int x2)] [] σ (ah_N G (ah_rv r)) := by
  intro x0 x1 x2 σ r h
  unfold f_X0_gather_7_b at h
  refine aw_iload_n (pc := 7) 2 dX0_gather_7 rfl ?_
  refine aw_aload_n (pc := 8) 0 dX0_gather_8 rfl ?_
  obtain ⟨v1, e, h⟩ := op_bd h
  refine ow_gR (pc := 9) e dX0_gather_9 fd_X0_64 rfl ?_
  obtain ⟨v2, e, h⟩ := op_bd h
  refine ow_gI (pc := 12) e dX0_gather_12 fd_X0_139 rfl ?_
  refine aw_icmp_ge (pc := 15) 72 dX0_gather_15 (by decide) (fun z => ?_) (fun z => ?_)
  · replace h := (if_pos z).symm.trans h
    exact ow_vret (pc := 72) h dX0_gather_72 rfl
  · replace h := (if_neg z).symm.trans h
    refine aw_aload_n (pc := 18) 0 dX0_gather_18 rfl ?_
    obtain ⟨v3, e, h⟩ := op_bd h
    refine ow_gR (pc := 19) e dX0_gather_19 fd_X0_11 rfl ?_
    refine aw_iload_n (pc := 22) 2 dX0_gather_22 rfl ?_
    obtain ⟨v4, e, h⟩ := op_bd h
    refine ow_aI (pc := 23) e dX0_gather_23 ?_
    refine aw_iconst (pc := 24) (v := (-1 : Int32)) dX0_gather_24 (by decide) ?_
    refine aw_icmp_eq (pc := 25) 66 dX0_gather_25 (by decide) (fun z => ?_) (fun z => ?_)
    · replace h := (if_pos z).symm.trans h
      exact c_X0_gather_66 K7 hK7 _ _ _ _ _ h
    · replace h := (if_neg z).symm.trans h
      refine aw_aload_n (pc := 28) 0 dX0_gather_28 rfl ?_
      obtain ⟨v5, e, h⟩ := op_bd h
      refine ow_gR (pc := 29) e dX0_gather_29 fd_X0_64 rfl ?_
      refine aw_aload_n (pc := 32) 0 dX0_gather_32 rfl ?_
      obtain ⟨v6, e, h⟩ := op_bd h
      refine ow_gR (pc := 33) e dX0_gather_33 fd_X0_11 rfl ?_
      refine aw_iload_n (pc := 36) 2 dX0_gather_36 rfl ?_
      obtain ⟨v7, e, h⟩ := op_bd h
      refine ow_aI (pc := 37) e dX0_gather_37 ?_
      refine aw_iload_n (pc := 38) 2 dX0_gather_38 rfl ?_
      obtain ⟨r8, e, h⟩ := op_bd h
      refine ow_cVi (pc := 39) [.int v7, .int x2] ((c_X9_otherEnd _ _ _ _ _ e).mono (by decide)) (op_ck_sh e) rfl dX0_gather_39 cw_X0_160 rfl (Nat.le_of_ble_eq_true rfl) ?_
      refine aw_iload_n (pc := 42) 1 dX0_gather_42 rfl ?_
      refine aw_icmp_ne (pc := 43) 66 dX0_gather_43 (by decide) (fun z => ?_) (fun z => ?_)
      · replace h := (if_neg z).symm.trans h
        exact c_X0_gather_66 K7 hK7 _ _ _ _ _ h
      · replace h := (if_pos z).symm.trans h
        refine aw_aload_n (pc := 46) 0 dX0_gather_46 rfl ?_
        obtain ⟨v9, e, h⟩ := op_bd h
        refine ow_gR (pc := 47) e dX0_gather_47 fd_X0_24 rfl ?_
        refine aw_aload_n (pc := 50) 0 dX0_gather_50 rfl ?_
        obtain ⟨v10, e, h⟩ := op_bd h
        refine ow_gI (pc := 51) e dX0_gather_51 fd_X0_163 rfl ?_
        refine aw_iload_n (pc := 54) 2 dX0_gather_54 rfl ?_
        obtain ⟨σ11, e, h⟩ := op_bd h
        refine ow_sI (pc := 55) e dX0_gather_55 ?_
        refine aw_aload_n (pc := 56) 0 dX0_gather_56 rfl ?_
        refine aw_dup (pc := 57) dX0_gather_57 rfl ?_
        obtain ⟨v12, e, h⟩ := op_bd h
        refine ow_gI (pc := 58) e dX0_gather_58 fd_X0_163 rfl ?_
        refine aw_iconst (pc := 61) (v := (1 : Int32)) dX0_gather_61 (by decide) ?_
        refine aw_iadd (pc := 62) dX0_gather_62 ?_
        obtain ⟨σ13, e, h⟩ := op_bd h
        refine ow_pI (pc := 63) e dX0_gather_63 fd_X0_163 ?_
        exact c_X0_gather_66 K7 hK7 _ _ _ _ _ h
theorem c_X0_gather_7 {G : ah_G}   : ∀ (n : Nat) (x0 : Nat) (x1 : Int32) (x2 : Int32) (σ : ah_H) (r : ah_H), f_X0_gather_7   n x0 x1 x2 σ = some r → AW G m_X0_gather 1 0 0 7 [(0, .ref x0), (1, .int x1), (2, .int x2)] [] σ (ah_N G (ah_rv r)) := by
  intro n
  induction n with
  | zero => intro x0 x1 x2 σ r h; cases h
  | succ n ih => intro x0 x1 x2 σ r h; exact c_X0_gather_7_b   _ ih x0 x1 x2 σ r h
set_option maxRecDepth 100000 in
set_option maxHeartbeats 4000000 in
theorem c_X0_gather_0 {G : ah_G}   : ∀ (x0 : Nat) (x1 : Int32) (σ : ah_H) (r : ah_H), f_X0_gather_0   x0 x1 σ = some r → AW G m_X0_gather 1 0 0 0 [(0, .ref x0), (1, .int x1)] [] σ (ah_N G (ah_rv r)) := by
  intro x0 x1 σ r h
  unfold f_X0_gather_0 at h
  refine aw_aload_n (pc := 0) 0 dX0_gather_0 rfl ?_
  refine aw_iconst (pc := 1) (v := (0 : Int32)) dX0_gather_1 (by decide) ?_
  obtain ⟨σ1, e, h⟩ := op_bd h
  refine ow_pI (pc := 2) e dX0_gather_2 fd_X0_163 ?_
  refine aw_iconst (pc := 5) (v := (0 : Int32)) dX0_gather_5 (by decide) ?_
  refine aw_istore_n (pc := 6) [(2, .int (0 : Int32)), (0, .ref x0), (1, .int x1)] dX0_gather_6 rfl (by decide) rfl ?_
  refine aw_sub [1, 2, 0] rfl ?_
  exact c_X0_gather_7  _ _ _ _ _ _ h
theorem c_X0_gather {G : ah_G}   (x0 : Nat) (x1 : Int32) (σ : ah_H) (r : ah_H) (h : f_X0_gather  x0 x1 σ = some r) : AM G m_X0_gather 1 0 0 [.ref x0, .int x1] σ (ah_rv r) := aw_enter (by decide) (Nat.le_of_ble_eq_true rfl) (c_X0_gather_0 _ _ _ _ (op_ck_k h))
def f_X0_isNew_39   (x0 : Nat) (x1 : Int32) (x2 : Int32) (σ : ah_H) : Option (Int32 × ah_H) :=
  (op_gR 0 5 σ x0).bind fun v1 => (op_sI σ v1 x1 x2).bind fun σ2 => (op_gR 0 1 σ2 x0).bind fun v3 => (op_aI σ2 v3 x1).bind fun v4 => (op_gR 0 6 σ2 x0).bind fun v5 => (op_aI σ2 v5 x1).bind fun v6 => if v6 = ((v4 <<< ((10 : Int32) &&& 31)) ||| x2) then ((op_rz (0 : Int32)).map fun q => (q, σ2)) else ((op_gR 0 6 σ2 x0).bind fun v7 => (op_sI σ2 v7 x1 ((v4 <<< ((10 : Int32) &&& 31)) ||| x2)).bind fun σ8 => (op_rz (1 : Int32)).map fun q => (q, σ8))
def f_X0_isNew_11_b  (K11 : Nat → Int32 → Int32 → Int32 → ah_H → Option (Int32 × ah_H)) (x0 : Nat) (x1 : Int32) (x2 : Int32) (x3 : Int32) (σ : ah_H) : Option (Int32 × ah_H) :=
  (op_gI 0 8 σ x0).bind fun v1 => if v1 ≤ x3 then (f_X0_isNew_39 x0 x1 x2 σ) else ((op_gR 0 5 σ x0).bind fun v2 => (op_gR 0 7 σ x0).bind fun v3 => (op_aI σ v3 x3).bind fun v4 => (op_aI σ v2 v4).bind fun v5 => K11 x0 x1 (x2 ||| v5) (x3 + (1 : Int32)) σ)
def f_X0_isNew_11   : Nat → Nat → Int32 → Int32 → Int32 → ah_H → Option (Int32 × ah_H)
  | 0, _, _, _, _, _ => none
  | n + 1, x0, x1, x2, x3, σ => f_X0_isNew_11_b (f_X0_isNew_11 n) x0 x1 x2 x3 σ
def f_X0_isNew_0   (x0 : Nat) (x1 : Int32) (σ : ah_H) : Option (Int32 × ah_H) :=
  (op_gR 0 1 σ x0).bind fun v1 => (op_aI σ v1 x1).bind fun v2 => f_X0_isNew_11 5000 x0 x1 ((1 : Int32) <<< (v2 &&& 31)) (0 : Int32) σ
def f_X0_isNew  (x0 : Nat) (x1 : Int32) (σ : ah_H) : Option (Int32 × ah_H) := op_ck 0 σ x0 (f_X0_isNew_0 x0 x1 σ)
set_option maxRecDepth 100000 in
set_option maxHeartbeats 4000000 in
theorem c_X0_isNew_39 {G : ah_G}   : ∀ (x0 : Nat) (x1 : Int32) (x2 : Int32) (σ : ah_H) (r : Int32 × ah_H), f_X0_isNew_39   x0 x1 x2 σ = some r → AW G m_X0_isNew 0 0 0 39 [(0, .ref x0), (1, .int x1), (2, .int x2)] [] σ (ah_N G (ah_ri r)) := by
  intro x0 x1 x2 σ r h
  unfold f_X0_isNew_39 at h
  refine aw_aload_n (pc := 39) 0 dX0_isNew_39 rfl ?_
  obtain ⟨v1, e, h⟩ := op_bd h
  refine ow_gR (pc := 40) e dX0_isNew_40 fd_X0_18 rfl ?_
  refine aw_iload_n (pc := 43) 1 dX0_isNew_43 rfl ?_
  refine aw_iload_n (pc := 44) 2 dX0_isNew_44 rfl ?_
  obtain ⟨σ2, e, h⟩ := op_bd h
  refine ow_sI (pc := 45) e dX0_isNew_45 ?_
  refine aw_aload_n (pc := 46) 0 dX0_isNew_46 rfl ?_
  obtain ⟨v3, e, h⟩ := op_bd h
  refine ow_gR (pc := 47) e dX0_isNew_47 fd_X0_11 rfl ?_
  refine aw_iload_n (pc := 50) 1 dX0_isNew_50 rfl ?_
  obtain ⟨v4, e, h⟩ := op_bd h
  refine ow_aI (pc := 51) e dX0_isNew_51 ?_
  refine aw_bipush (pc := 52) (v := (10 : Int32)) dX0_isNew_52 (by decide) ?_
  refine aw_ishl (pc := 54) dX0_isNew_54 ?_
  refine aw_iload_n (pc := 55) 2 dX0_isNew_55 rfl ?_
  refine aw_ior (pc := 56) dX0_isNew_56 ?_
  refine aw_istore_n (pc := 57) [(3, .int ((v4 <<< ((10 : Int32) &&& 31)) ||| x2)), (0, .ref x0), (1, .int x1), (2, .int x2)] dX0_isNew_57 rfl (by decide) rfl ?_
  refine aw_aload_n (pc := 58) 1 dX0_isNew_58 rfl ?_
  obtain ⟨v5, e, h⟩ := op_bd h
  refine ow_gR (pc := 59) e dX0_isNew_59 fd_X0_21 rfl ?_
  refine aw_iload_n (pc := 62) 2 dX0_isNew_62 rfl ?_
  obtain ⟨v6, e, h⟩ := op_bd h
  refine ow_aI (pc := 63) e dX0_isNew_63 ?_
  refine aw_iload_n (pc := 64) 0 dX0_isNew_64 rfl ?_
  refine aw_icmp_ne (pc := 65) 70 dX0_isNew_65 (by decide) (fun z => ?_) (fun z => ?_)
  · replace h := (if_neg z).symm.trans h
    refine aw_aload_n (pc := 70) 1 dX0_isNew_70 rfl ?_
    obtain ⟨v7, e, h⟩ := op_bd h
    refine ow_gR (pc := 71) e dX0_isNew_71 fd_X0_21 rfl ?_
    refine aw_iload_n (pc := 74) 2 dX0_isNew_74 rfl ?_
    refine aw_iload_n (pc := 75) 0 dX0_isNew_75 rfl ?_
    obtain ⟨σ8, e, h⟩ := op_bd h
    refine ow_sI (pc := 76) e dX0_isNew_76 ?_
    refine aw_iconst (pc := 77) (v := (1 : Int32)) dX0_isNew_77 (by decide) ?_
    exact ow_zret (pc := 78) h dX0_isNew_78 rfl
  · replace h := (if_pos z).symm.trans h
    refine aw_iconst (pc := 68) (v := (0 : Int32)) dX0_isNew_68 (by decide) ?_
    exact ow_zret (pc := 69) h dX0_isNew_69 rfl
set_option maxRecDepth 100000 in
set_option maxHeartbeats 4000000 in
theorem c_X0_isNew_11_b {G : ah_G}  (K11 : Nat → Int32 → Int32 → Int32 → ah_H → Option (Int32 × ah_H)) (hK11 : ∀ (x0 : Nat) (x1 : Int32) (x2 : Int32) (x3 : Int32) (σ : ah_H) (r : Int32 × ah_H), K11 x0 x1 x2 x3 σ = some r → AW G m_X0_isNew 0 0 0 11 [(0, .ref x0), (1, .int x1), (2, .int x2), (3, .int x3)] [] σ (ah_N G (ah_ri r))) : ∀ (x0 : Nat) (x1 : Int32) (x2 : Int32) (x3 : Int32) (σ : ah_H) (r : Int32 × ah_H), f_X0_isNew_11_b  K11 x0 x1 x2 x3 σ = some r → AW G m_X0_isNew 0 0 0 11 [(0, .ref x0), (1, .int x1), (2, .int x2), (3, .int x3)] [] σ (ah_N G (ah_ri r)) := by
  intro x0 x1 x2 x3 σ r h
  unfold f_X0_isNew_11_b at h
  refine aw_iload_n (pc := 11) 3 dX0_isNew_11 rfl ?_
  refine aw_aload_n (pc := 12) 0 dX0_isNew_12 rfl ?_
  obtain ⟨v1, e, h⟩ := op_bd h
  refine ow_gI (pc := 13) e dX0_isNew_13 fd_X0_163 rfl ?_
  refine aw_icmp_ge (pc := 16) 39 dX0_isNew_16 (by decide) (fun z => ?_) (fun z => ?_)
  · replace h := (if_pos z).symm.trans h
    refine aw_sub [0, 1, 2] rfl ?_
    exact c_X0_isNew_39  _ _ _ _ _ h
  · replace h := (if_neg z).symm.trans h
    refine aw_iload_n (pc := 19) 2 dX0_isNew_19 rfl ?_
    refine aw_aload_n (pc := 20) 0 dX0_isNew_20 rfl ?_
    obtain ⟨v2, e, h⟩ := op_bd h
    refine ow_gR (pc := 21) e dX0_isNew_21 fd_X0_18 rfl ?_
    refine aw_aload_n (pc := 24) 0 dX0_isNew_24 rfl ?_
    obtain ⟨v3, e, h⟩ := op_bd h
    refine ow_gR (pc := 25) e dX0_isNew_25 fd_X0_24 rfl ?_
    refine aw_iload_n (pc := 28) 3 dX0_isNew_28 rfl ?_
    obtain ⟨v4, e, h⟩ := op_bd h
    refine ow_aI (pc := 29) e dX0_isNew_29 ?_
    obtain ⟨v5, e, h⟩ := op_bd h
    refine ow_aI (pc := 30) e dX0_isNew_30 ?_
    refine aw_ior (pc := 31) dX0_isNew_31 ?_
    refine aw_istore_n (pc := 32) [(2, .int (x2 ||| v5)), (0, .ref x0), (1, .int x1), (3, .int x3)] dX0_isNew_32 rfl (by decide) rfl ?_
    refine aw_iinc (pc := 33) 3 [(3, .int (x3 + (1 : Int32))), (2, .int (x2 ||| v5)), (0, .ref x0), (1, .int x1)] (x3 + (1 : Int32)) dX0_isNew_33 rfl rfl (by decide) rfl ?_
    refine aw_goto (pc := 36) 11 dX0_isNew_36 (by decide) ?_
    refine aw_sub [2, 3, 1, 0] rfl ?_
    exact hK11 _ _ _ _ _ _ h
theorem c_X0_isNew_11 {G : ah_G}   : ∀ (n : Nat) (x0 : Nat) (x1 : Int32) (x2 : Int32) (x3 : Int32) (σ : ah_H) (r : Int32 × ah_H), f_X0_isNew_11   n x0 x1 x2 x3 σ = some r → AW G m_X0_isNew 0 0 0 11 [(0, .ref x0), (1, .int x1), (2, .int x2), (3, .int x3)] [] σ (ah_N G (ah_ri r)) := by
  intro n
  induction n with
  | zero => intro x0 x1 x2 x3 σ r h; cases h
  | succ n ih => intro x0 x1 x2 x3 σ r h; exact c_X0_isNew_11_b   _ ih x0 x1 x2 x3 σ r h
set_option maxRecDepth 100000 in
set_option maxHeartbeats 4000000 in
theorem c_X0_isNew_0 {G : ah_G}   : ∀ (x0 : Nat) (x1 : Int32) (σ : ah_H) (r : Int32 × ah_H), f_X0_isNew_0   x0 x1 σ = some r → AW G m_X0_isNew 0 0 0 0 [(0, .ref x0), (1, .int x1)] [] σ (ah_N G (ah_ri r)) := by
  intro x0 x1 σ r h
  unfold f_X0_isNew_0 at h
  refine aw_iconst (pc := 0) (v := (1 : Int32)) dX0_isNew_0 (by decide) ?_
  refine aw_aload_n (pc := 1) 0 dX0_isNew_1 rfl ?_
  obtain ⟨v1, e, h⟩ := op_bd h
  refine ow_gR (pc := 2) e dX0_isNew_2 fd_X0_11 rfl ?_
  refine aw_iload_n (pc := 5) 1 dX0_isNew_5 rfl ?_
  obtain ⟨v2, e, h⟩ := op_bd h
  refine ow_aI (pc := 6) e dX0_isNew_6 ?_
  refine aw_ishl (pc := 7) dX0_isNew_7 ?_
  refine aw_istore_n (pc := 8) [(2, .int ((1 : Int32) <<< (v2 &&& 31))), (0, .ref x0), (1, .int x1)] dX0_isNew_8 rfl (by decide) rfl ?_
  refine aw_iconst (pc := 9) (v := (0 : Int32)) dX0_isNew_9 (by decide) ?_
  refine aw_istore_n (pc := 10) [(3, .int (0 : Int32)), (2, .int ((1 : Int32) <<< (v2 &&& 31))), (0, .ref x0), (1, .int x1)] dX0_isNew_10 rfl (by decide) rfl ?_
  refine aw_sub [2, 3, 1, 0] rfl ?_
  exact c_X0_isNew_11  _ _ _ _ _ _ _ h
theorem c_X0_isNew {G : ah_G}   (x0 : Nat) (x1 : Int32) (σ : ah_H) (r : Int32 × ah_H) (h : f_X0_isNew  x0 x1 σ = some r) : AM G m_X0_isNew 0 0 0 [.ref x0, .int x1] σ (ah_ri r) := aw_enter (by decide) (Nat.le_of_ble_eq_true rfl) (c_X0_isNew_0 _ _ _ _ (op_ck_k h))
def f_X9_touches_0   (x0 : Nat) (x1 : Int32) (x2 : Int32) (σ : ah_H) : Option (Int32 × ah_H) :=
  (op_gR 9 5 σ x0).bind fun v1 => (op_aR .int σ v1 x1).bind fun v2 => (op_aI σ v2 (0 : Int32)).bind fun v3 => if v3 = x2 then ((op_rz (1 : Int32)).map fun q => (q, σ)) else ((op_gR 9 5 σ x0).bind fun v4 => (op_aR .int σ v4 x1).bind fun v5 => (op_aI σ v5 (1 : Int32)).bind fun v6 => if v6 = x2 then ((op_rz (1 : Int32)).map fun q => (q, σ)) else ((op_rz (0 : Int32)).map fun q => (q, σ)))
def f_X9_touches  (x0 : Nat) (x1 : Int32) (x2 : Int32) (σ : ah_H) : Option (Int32 × ah_H) := op_ck 9 σ x0 (f_X9_touches_0 x0 x1 x2 σ)
set_option maxRecDepth 100000 in
set_option maxHeartbeats 4000000 in
theorem c_X9_touches_0 {G : ah_G}   : ∀ (x0 : Nat) (x1 : Int32) (x2 : Int32) (σ : ah_H) (r : Int32 × ah_H), f_X9_touches_0   x0 x1 x2 σ = some r → AW G m_X9_touches 0 0 0 0 [(0, .ref x0), (1, .int x1), (2, .int x2)] [] σ (ah_N G (ah_ri r)) := by
  intro x0 x1 x2 σ r h
  unfold f_X9_touches_0 at h
  refine aw_aload_n (pc := 0) 0 dX9_touches_0 rfl ?_
  obtain ⟨v1, e, h⟩ := op_bd h
  refine ow_gR (pc := 1) e dX9_touches_1 fd_X9_16 rfl ?_
  refine aw_iload_n (pc := 4) 1 dX9_touches_4 rfl ?_
  obtain ⟨v2, e, h⟩ := op_bd h
  refine ow_aR (pc := 5) e dX9_touches_5 (by decide) ?_
  refine aw_iconst (pc := 6) (v := (0 : Int32)) dX9_touches_6 (by decide) ?_
  obtain ⟨v3, e, h⟩ := op_bd h
  refine ow_aI (pc := 7) e dX9_touches_7 ?_
  refine aw_iload_n (pc := 8) 2 dX9_touches_8 rfl ?_
  refine aw_icmp_eq (pc := 9) 24 dX9_touches_9 (by decide) (fun z => ?_) (fun z => ?_)
  · replace h := (if_pos z).symm.trans h
    refine aw_iconst (pc := 24) (v := (1 : Int32)) dX9_touches_24 (by decide) ?_
    refine aw_goto (pc := 25) 29 dX9_touches_25 (by decide) ?_
    exact ow_zret (pc := 29) h dX9_touches_29 rfl
  · replace h := (if_neg z).symm.trans h
    refine aw_aload_n (pc := 12) 0 dX9_touches_12 rfl ?_
    obtain ⟨v4, e, h⟩ := op_bd h
    refine ow_gR (pc := 13) e dX9_touches_13 fd_X9_16 rfl ?_
    refine aw_iload_n (pc := 16) 1 dX9_touches_16 rfl ?_
    obtain ⟨v5, e, h⟩ := op_bd h
    refine ow_aR (pc := 17) e dX9_touches_17 (by decide) ?_
    refine aw_iconst (pc := 18) (v := (1 : Int32)) dX9_touches_18 (by decide) ?_
    obtain ⟨v6, e, h⟩ := op_bd h
    refine ow_aI (pc := 19) e dX9_touches_19 ?_
    refine aw_iload_n (pc := 20) 2 dX9_touches_20 rfl ?_
    refine aw_icmp_ne (pc := 21) 28 dX9_touches_21 (by decide) (fun z => ?_) (fun z => ?_)
    · replace h := (if_neg z).symm.trans h
      refine aw_iconst (pc := 28) (v := (0 : Int32)) dX9_touches_28 (by decide) ?_
      exact ow_zret (pc := 29) h dX9_touches_29 rfl
    · replace h := (if_pos z).symm.trans h
      refine aw_iconst (pc := 24) (v := (1 : Int32)) dX9_touches_24 (by decide) ?_
      refine aw_goto (pc := 25) 29 dX9_touches_25 (by decide) ?_
      exact ow_zret (pc := 29) h dX9_touches_29 rfl
theorem c_X9_touches {G : ah_G}   (x0 : Nat) (x1 : Int32) (x2 : Int32) (σ : ah_H) (r : Int32 × ah_H) (h : f_X9_touches  x0 x1 x2 σ = some r) : AM G m_X9_touches 0 0 0 [.ref x0, .int x1, .int x2] σ (ah_ri r) := aw_enter (by decide) (Nat.le_of_ble_eq_true rfl) (c_X9_touches_0 _ _ _ _ _ (op_ck_k h))
def f_X0_orient_163  (K38 : Nat → Int32 → Int32 → Int32 → ah_H → Option (ah_H)) (K49 : Nat → Int32 → Int32 → Int32 → Int32 → ah_H → Option (ah_H)) (x0 : Nat) (x1 : Int32) (x2 : Int32) (x3 : Int32) (x4 : Int32) (σ : ah_H) : Option (ah_H) :=
  K49 x0 x1 x2 x3 (x4 + (1 : Int32)) σ
def f_X0_orient_169  (K38 : Nat → Int32 → Int32 → Int32 → ah_H → Option (ah_H)) (x0 : Nat) (x1 : Int32) (x2 : Int32) (x3 : Int32) (σ : ah_H) : Option (ah_H) :=
  K38 x0 x1 x2 (x3 + (1 : Int32)) σ
def f_X0_orient_49_b  (K38 : Nat → Int32 → Int32 → Int32 → ah_H → Option (ah_H)) (K49 : Nat → Int32 → Int32 → Int32 → Int32 → ah_H → Option (ah_H)) (x0 : Nat) (x1 : Int32) (x2 : Int32) (x3 : Int32) (x4 : Int32) (σ : ah_H) : Option (ah_H) :=
  (op_gR 0 17 σ x0).bind fun v1 => (op_gI 9 4 σ v1).bind fun v2 => if v2 ≤ x4 then (f_X0_orient_169 K38 x0 x1 x2 x3 σ) else (if ((x1 >>> (x4 &&& 31)) &&& (1 : Int32)) = 0 then (f_X0_orient_163 K38 K49 x0 x1 x2 x3 x4 σ) else ((op_gR 0 17 σ x0).bind fun v3 => (op_gR 0 3 σ x0).bind fun v4 => (op_aI σ v4 x3).bind fun v5 => (f_X9_touches v3 x4 v5 σ).bind fun r6 => if r6.1 = 0 then (f_X0_orient_163 K38 K49 x0 x1 x2 x3 x4 r6.2) else ((op_gR 0 17 r6.2 x0).bind fun v7 => (op_gR 0 3 r6.2 x0).bind fun v8 => (op_aI r6.2 v8 x3).bind fun v9 => (f_X9_otherEnd v7 x4 v9 r6.2).bind fun r10 => if ((x2 >>> (r10.1 &&& 31)) &&& (1 : Int32)) = 0 then ((op_gI 0 4 r10.2 x0).bind fun v11 => if (7 : Int32) ≤ v11 then (f_X0_orient_163 K38 K49 x0 x1 x2 x3 x4 r10.2) else ((op_gR 0 1 r10.2 x0).bind fun v12 => (op_sI r10.2 v12 r10.1 x4).bind fun σ13 => (op_gR 0 3 σ13 x0).bind fun v14 => (op_gI 0 4 σ13 x0).bind fun v15 => (op_sI σ13 v14 v15 r10.1).bind fun σ16 => (op_gI 0 4 σ16 x0).bind fun v17 => (op_pI 0 4 σ16 x0 (v17 + (1 : Int32))).bind fun σ18 => f_X0_orient_163 K38 K49 x0 x1 (x2 ||| ((1 : Int32) <<< (r10.1 &&& 31))) x3 x4 σ18)) else (f_X0_orient_163 K38 K49 x0 x1 x2 x3 x4 r10.2))))
def f_X0_orient_49  (K38 : Nat → Int32 → Int32 → Int32 → ah_H → Option (ah_H)) : Nat → Nat → Int32 → Int32 → Int32 → Int32 → ah_H → Option (ah_H)
  | 0, _, _, _, _, _, _ => none
  | n + 1, x0, x1, x2, x3, x4, σ => f_X0_orient_49_b K38 (f_X0_orient_49 K38 n) x0 x1 x2 x3 x4 σ
def f_X0_orient_38_b  (K38 : Nat → Int32 → Int32 → Int32 → ah_H → Option (ah_H)) (x0 : Nat) (x1 : Int32) (x2 : Int32) (x3 : Int32) (σ : ah_H) : Option (ah_H) :=
  (op_gI 0 4 σ x0).bind fun v1 => if v1 ≤ x3 then (some σ) else (f_X0_orient_49 K38 5000 x0 x1 x2 x3 (0 : Int32) σ)
def f_X0_orient_38   : Nat → Nat → Int32 → Int32 → Int32 → ah_H → Option (ah_H)
  | 0, _, _, _, _, _ => none
  | n + 1, x0, x1, x2, x3, σ => f_X0_orient_38_b (f_X0_orient_38 n) x0 x1 x2 x3 σ
def f_X0_orient_0   (x0 : Nat) (x1 : Int32) (σ : ah_H) : Option (ah_H) :=
  (op_gR 0 1 σ x0).bind fun v1 => (f_J7_fill_53178 v1 (-1 : Int32) σ).bind fun r2 => (op_gR 0 3 r2 x0).bind fun v3 => (op_gR 0 17 r2 x0).bind fun v4 => (op_gI 9 2 r2 v4).bind fun v5 => (op_sI r2 v3 (0 : Int32) v5).bind fun σ6 => (op_pI 0 4 σ6 x0 (1 : Int32)).bind fun σ7 => (op_gR 0 17 σ7 x0).bind fun v8 => (op_gI 9 2 σ7 v8).bind fun v9 => f_X0_orient_38 5000 x0 x1 ((1 : Int32) <<< (v9 &&& 31)) (0 : Int32) σ7
def f_X0_orient  (x0 : Nat) (x1 : Int32) (σ : ah_H) : Option (ah_H) := op_ck 0 σ x0 (f_X0_orient_0 x0 x1 σ)
set_option maxRecDepth 100000 in
set_option maxHeartbeats 4000000 in
theorem c_X0_orient_163 {G : ah_G}  (K38 : Nat → Int32 → Int32 → Int32 → ah_H → Option (ah_H)) (hK38 : ∀ (x0 : Nat) (x1 : Int32) (x2 : Int32) (x3 : Int32) (σ : ah_H) (r : ah_H), K38 x0 x1 x2 x3 σ = some r → AW G m_X0_orient 1 0 0 38 [(0, .ref x0), (1, .int x1), (2, .int x2), (3, .int x3)] [] σ (ah_N G (ah_rv r))) (K49 : Nat → Int32 → Int32 → Int32 → Int32 → ah_H → Option (ah_H)) (hK49 : ∀ (x0 : Nat) (x1 : Int32) (x2 : Int32) (x3 : Int32) (x4 : Int32) (σ : ah_H) (r : ah_H), K49 x0 x1 x2 x3 x4 σ = some r → AW G m_X0_orient 1 0 0 49 [(0, .ref x0), (1, .int x1), (2, .int x2), (3, .int x3), (4, .int x4)] [] σ (ah_N G (ah_rv r))) : ∀ (x0 : Nat) (x1 : Int32) (x2 : Int32) (x3 : Int32) (x4 : Int32) (σ : ah_H) (r : ah_H), f_X0_orient_163  K38 K49 x0 x1 x2 x3 x4 σ = some r → AW G m_X0_orient 1 0 0 163 [(0, .ref x0), (1, .int x1), (2, .int x2), (3, .int x3), (4, .int x4)] [] σ (ah_N G (ah_rv r)) := by
  intro x0 x1 x2 x3 x4 σ r h
  unfold f_X0_orient_163 at h
  refine aw_iinc (pc := 163) 4 [(4, .int (x4 + (1 : Int32))), (0, .ref x0), (1, .int x1), (2, .int x2), (3, .int x3)] (x4 + (1 : Int32)) dX0_orient_163 rfl rfl (by decide) rfl ?_
  refine aw_goto (pc := 166) 49 dX0_orient_166 (by decide) ?_
  refine aw_sub [1, 2, 3, 4, 0] rfl ?_
  exact hK49 _ _ _ _ _ _ _ h
set_option maxRecDepth 100000 in
set_option maxHeartbeats 4000000 in
theorem c_X0_orient_169 {G : ah_G}  (K38 : Nat → Int32 → Int32 → Int32 → ah_H → Option (ah_H)) (hK38 : ∀ (x0 : Nat) (x1 : Int32) (x2 : Int32) (x3 : Int32) (σ : ah_H) (r : ah_H), K38 x0 x1 x2 x3 σ = some r → AW G m_X0_orient 1 0 0 38 [(0, .ref x0), (1, .int x1), (2, .int x2), (3, .int x3)] [] σ (ah_N G (ah_rv r))) : ∀ (x0 : Nat) (x1 : Int32) (x2 : Int32) (x3 : Int32) (σ : ah_H) (r : ah_H), f_X0_orient_169  K38 x0 x1 x2 x3 σ = some r → AW G m_X0_orient 1 0 0 169 [(0, .ref x0), (1, .int x1), (2, .int x2), (3, .int x3)] [] σ (ah_N G (ah_rv r)) := by
  intro x0 x1 x2 x3 σ r h
  unfold f_X0_orient_169 at h
  refine aw_iinc (pc := 169) 3 [(3, .int (x3 + (1 : Int32))), (0, .ref x0), (1, .int x1), (2, .int x2)] (x3 + (1 : Int32)) dX0_orient_169 rfl rfl (by decide) rfl ?_
  refine aw_goto (pc := 172) 38 dX0_orient_172 (by decide) ?_
  refine aw_sub [1, 2, 3, 0] rfl ?_
  exact hK38 _ _ _ _ _ _ h
set_option maxRecDepth 100000 in
set_option maxHeartbeats 4000000 in
theorem c_X0_orient_49_b {G : ah_G}  (K38 : Nat → Int32 → Int32 → Int32 → ah_H → Option (ah_H)) (hK38 : ∀ (x0 : Nat) (x1 : Int32) (x2 : Int32) (x3 : Int32) (σ : ah_H) (r : ah_H), K38 x0 x1 x2 x3 σ = some r → AW G m_X0_orient 1 0 0 38 [(0, .ref x0), (1, .int x1), (2, .int x2), (3, .int x3)] [] σ (ah_N G (ah_rv r))) (K49 : Nat → Int32 → Int32 → Int32 → Int32 → ah_H → Option (ah_H)) (hK49 : ∀ (x0 : Nat) (x1 : Int32) (x2 : Int32) (x3 : Int32) (x4 : Int32) (σ : ah_H) (r : ah_H), K49 x0 x1 x2 x3 x4 σ = some r → AW G m_X0_orient 1 0 0 49 [(0, .ref x0), (1, .int x1), (2, .int x2), (3, .int x3), (4, .int x4)] [] σ (ah_N G (ah_rv r))) : ∀ (x0 : Nat) (x1 : Int32) (x2 : Int32) (x3 : Int32) (x4 : Int32) (σ : ah_H) (r : ah_H), f_X0_orient_49_b  K38 K49 x0 x1 x2 x3 x4 σ = some r → AW G m_X0_orient 1 0 0 49 [(0, .ref x0), (1, .int x1), (2, .int x2), (3, .int x3), (4, .int x4)] [] σ (ah_N G (ah_rv r)) := by
  intro x0 x1 x2 x3 x4 σ r h
  unfold f_X0_orient_49_b at h
  refine aw_iload (pc := 49) 4 dX0_orient_49 rfl ?_
  refine aw_aload_n (pc := 51) 0 dX0_orient_51 rfl ?_
  obtain ⟨v1, e, h⟩ := op_bd h
  refine ow_gR (pc := 52) e dX0_orient_52 fd_X0_64 rfl ?_
  obtain ⟨v2, e, h⟩ := op_bd h
  refine ow_gI (pc := 55) e dX0_orient_55 fd_X0_153 rfl ?_
  refine aw_icmp_ge (pc := 58) 169 dX0_orient_58 (by decide) (fun z => ?_) (fun z => ?_)
  · replace h := (if_pos z).symm.trans h
    refine aw_sub [0, 1, 2, 3] rfl ?_
    exact c_X0_orient_169 K38 hK38 _ _ _ _ _ _ h
  · replace h := (if_neg z).symm.trans h
    refine aw_iload_n (pc := 61) 1 dX0_orient_61 rfl ?_
    refine aw_iload (pc := 62) 4 dX0_orient_62 rfl ?_
    refine aw_ishr (pc := 64) dX0_orient_64 ?_
    refine aw_iconst (pc := 65) (v := (1 : Int32)) dX0_orient_65 (by decide) ?_
    refine aw_iand (pc := 66) dX0_orient_66 ?_
    refine aw_if_eq (pc := 67) 163 dX0_orient_67 (by decide) (fun z => ?_) (fun z => ?_)
    · replace h := (if_pos z).symm.trans h
      exact c_X0_orient_163 K38 hK38 K49 hK49 _ _ _ _ _ _ _ h
    · replace h := (if_neg z).symm.trans h
      refine aw_aload_n (pc := 70) 0 dX0_orient_70 rfl ?_
      obtain ⟨v3, e, h⟩ := op_bd h
      refine ow_gR (pc := 71) e dX0_orient_71 fd_X0_64 rfl ?_
      refine aw_iload (pc := 74) 4 dX0_orient_74 rfl ?_
      refine aw_aload_n (pc := 76) 0 dX0_orient_76 rfl ?_
      obtain ⟨v4, e, h⟩ := op_bd h
      refine ow_gR (pc := 77) e dX0_orient_77 fd_X0_15 rfl ?_
      refine aw_iload_n (pc := 80) 3 dX0_orient_80 rfl ?_
      obtain ⟨v5, e, h⟩ := op_bd h
      refine ow_aI (pc := 81) e dX0_orient_81 ?_
      obtain ⟨r6, e, h⟩ := op_bd h
      refine ow_cVi (pc := 82) [.int x4, .int v5] ((c_X9_touches _ _ _ _ _ e).mono (by decide)) (op_ck_sh e) rfl dX0_orient_82 cw_X0_156 rfl (Nat.le_of_ble_eq_true rfl) ?_
      refine aw_if_ne (pc := 85) 91 dX0_orient_85 (by decide) (fun z => ?_) (fun z => ?_)
      · replace h := (if_neg z).symm.trans h
        refine aw_aload_n (pc := 91) 0 dX0_orient_91 rfl ?_
        obtain ⟨v7, e, h⟩ := op_bd h
        refine ow_gR (pc := 92) e dX0_orient_92 fd_X0_64 rfl ?_
        refine aw_iload (pc := 95) 4 dX0_orient_95 rfl ?_
        refine aw_aload_n (pc := 97) 0 dX0_orient_97 rfl ?_
        obtain ⟨v8, e, h⟩ := op_bd h
        refine ow_gR (pc := 98) e dX0_orient_98 fd_X0_15 rfl ?_
        refine aw_iload_n (pc := 101) 3 dX0_orient_101 rfl ?_
        obtain ⟨v9, e, h⟩ := op_bd h
        refine ow_aI (pc := 102) e dX0_orient_102 ?_
        obtain ⟨r10, e, h⟩ := op_bd h
        refine ow_cVi (pc := 103) [.int x4, .int v9] ((c_X9_otherEnd _ _ _ _ _ e).mono (by decide)) (op_ck_sh e) rfl dX0_orient_103 cw_X0_160 rfl (Nat.le_of_ble_eq_true rfl) ?_
        refine aw_istore (pc := 106) [(5, .int r10.1), (0, .ref x0), (1, .int x1), (2, .int x2), (3, .int x3), (4, .int x4)] dX0_orient_106 (by decide) rfl ?_
        refine aw_iload_n (pc := 108) 3 dX0_orient_108 rfl ?_
        refine aw_iload (pc := 109) 0 dX0_orient_109 rfl ?_
        refine aw_ishr (pc := 111) dX0_orient_111 ?_
        refine aw_iconst (pc := 112) (v := (1 : Int32)) dX0_orient_112 (by decide) ?_
        refine aw_iand (pc := 113) dX0_orient_113 ?_
        refine aw_if_ne (pc := 114) 163 dX0_orient_114 (by decide) (fun z => ?_) (fun z => ?_)
        · replace h := (if_neg z).symm.trans h
          refine aw_sub [1, 2, 3, 4, 5] rfl ?_
          exact c_X0_orient_163 K38 hK38 K49 hK49 _ _ _ _ _ _ _ h
        · replace h := (if_pos z).symm.trans h
          refine aw_aload_n (pc := 117) 1 dX0_orient_117 rfl ?_
          obtain ⟨v11, e, h⟩ := op_bd h
          refine ow_gI (pc := 118) e dX0_orient_118 fd_X0_100 rfl ?_
          refine aw_bipush (pc := 121) (v := (7 : Int32)) dX0_orient_121 (by decide) ?_
          refine aw_icmp_ge (pc := 123) 163 dX0_orient_123 (by decide) (fun z => ?_) (fun z => ?_)
          · replace h := (if_pos z).symm.trans h
            refine aw_sub [1, 2, 3, 4, 5] rfl ?_
            exact c_X0_orient_163 K38 hK38 K49 hK49 _ _ _ _ _ _ _ h
          · replace h := (if_neg z).symm.trans h
            refine aw_iload_n (pc := 126) 3 dX0_orient_126 rfl ?_
            refine aw_iconst (pc := 127) (v := (1 : Int32)) dX0_orient_127 (by decide) ?_
            refine aw_iload (pc := 128) 0 dX0_orient_128 rfl ?_
            refine aw_ishl (pc := 130) dX0_orient_130 ?_
            refine aw_ior (pc := 131) dX0_orient_131 ?_
            refine aw_istore_n (pc := 132) [(2, .int (x2 ||| ((1 : Int32) <<< (r10.1 &&& 31)))), (5, .int r10.1), (0, .ref x0), (1, .int x1), (3, .int x3), (4, .int x4)] dX0_orient_132 rfl (by decide) rfl ?_
            refine aw_aload_n (pc := 133) 2 dX0_orient_133 rfl ?_
            obtain ⟨v12, e, h⟩ := op_bd h
            refine ow_gR (pc := 134) e dX0_orient_134 fd_X0_11 rfl ?_
            refine aw_iload (pc := 137) 1 dX0_orient_137 rfl ?_
            refine aw_iload (pc := 139) 5 dX0_orient_139 rfl ?_
            obtain ⟨σ13, e, h⟩ := op_bd h
            refine ow_sI (pc := 141) e dX0_orient_141 ?_
            refine aw_aload_n (pc := 142) 2 dX0_orient_142 rfl ?_
            obtain ⟨v14, e, h⟩ := op_bd h
            refine ow_gR (pc := 143) e dX0_orient_143 fd_X0_15 rfl ?_
            refine aw_aload_n (pc := 146) 2 dX0_orient_146 rfl ?_
            obtain ⟨v15, e, h⟩ := op_bd h
            refine ow_gI (pc := 147) e dX0_orient_147 fd_X0_100 rfl ?_
            refine aw_iload (pc := 150) 1 dX0_orient_150 rfl ?_
            obtain ⟨σ16, e, h⟩ := op_bd h
            refine ow_sI (pc := 152) e dX0_orient_152 ?_
            refine aw_aload_n (pc := 153) 2 dX0_orient_153 rfl ?_
            refine aw_dup (pc := 154) dX0_orient_154 rfl ?_
            obtain ⟨v17, e, h⟩ := op_bd h
            refine ow_gI (pc := 155) e dX0_orient_155 fd_X0_100 rfl ?_
            refine aw_iconst (pc := 158) (v := (1 : Int32)) dX0_orient_158 (by decide) ?_
            refine aw_iadd (pc := 159) dX0_orient_159 ?_
            obtain ⟨σ18, e, h⟩ := op_bd h
            refine ow_pI (pc := 160) e dX0_orient_160 fd_X0_100 ?_
            refine aw_sub [2, 3, 0, 4, 5] rfl ?_
            exact c_X0_orient_163 K38 hK38 K49 hK49 _ _ _ _ _ _ _ h
      · replace h := (if_pos z).symm.trans h
        refine aw_goto (pc := 88) 163 dX0_orient_88 (by decide) ?_
        exact c_X0_orient_163 K38 hK38 K49 hK49 _ _ _ _ _ _ _ h
theorem c_X0_orient_49 {G : ah_G}  (K38 : Nat → Int32 → Int32 → Int32 → ah_H → Option (ah_H)) (hK38 : ∀ (x0 : Nat) (x1 : Int32) (x2 : Int32) (x3 : Int32) (σ : ah_H) (r : ah_H), K38 x0 x1 x2 x3 σ = some r → AW G m_X0_orient 1 0 0 38 [(0, .ref x0), (1, .int x1), (2, .int x2), (3, .int x3)] [] σ (ah_N G (ah_rv r))) : ∀ (n : Nat) (x0 : Nat) (x1 : Int32) (x2 : Int32) (x3 : Int32) (x4 : Int32) (σ : ah_H) (r : ah_H), f_X0_orient_49  K38 n x0 x1 x2 x3 x4 σ = some r → AW G m_X0_orient 1 0 0 49 [(0, .ref x0), (1, .int x1), (2, .int x2), (3, .int x3), (4, .int x4)] [] σ (ah_N G (ah_rv r)) := by
  intro n
  induction n with
  | zero => intro x0 x1 x2 x3 x4 σ r h; cases h
  | succ n ih => intro x0 x1 x2 x3 x4 σ r h; exact c_X0_orient_49_b  K38 hK38 _ ih x0 x1 x2 x3 x4 σ r h
set_option maxRecDepth 100000 in
set_option maxHeartbeats 4000000 in
theorem c_X0_orient_38_b {G : ah_G}  (K38 : Nat → Int32 → Int32 → Int32 → ah_H → Option (ah_H)) (hK38 : ∀ (x0 : Nat) (x1 : Int32) (x2 : Int32) (x3 : Int32) (σ : ah_H) (r : ah_H), K38 x0 x1 x2 x3 σ = some r → AW G m_X0_orient 1 0 0 38 [(0, .ref x0), (1, .int x1), (2, .int x2), (3, .int x3)] [] σ (ah_N G (ah_rv r))) : ∀ (x0 : Nat) (x1 : Int32) (x2 : Int32) (x3 : Int32) (σ : ah_H) (r : ah_H), f_X0_orient_38_b  K38 x0 x1 x2 x3 σ = some r → AW G m_X0_orient 1 0 0 38 [(0, .ref x0), (1, .int x1), (2, .int x2), (3, .int x3)] [] σ (ah_N G (ah_rv r)) := by
  intro x0 x1 x2 x3 σ r h
  unfold f_X0_orient_38_b at h
  refine aw_iload_n (pc := 38) 3 dX0_orient_38 rfl ?_
  refine aw_aload_n (pc := 39) 0 dX0_orient_39 rfl ?_
  obtain ⟨v1, e, h⟩ := op_bd h
  refine ow_gI (pc := 40) e dX0_orient_40 fd_X0_100 rfl ?_
  refine aw_icmp_ge (pc := 43) 175 dX0_orient_43 (by decide) (fun z => ?_) (fun z => ?_)
  · replace h := (if_pos z).symm.trans h
    exact ow_vret (pc := 175) h dX0_orient_175 rfl
  · replace h := (if_neg z).symm.trans h
    refine aw_iconst (pc := 46) (v := (0 : Int32)) dX0_orient_46 (by decide) ?_
    refine aw_istore (pc := 47) [(4, .int (0 : Int32)), (0, .ref x0), (1, .int x1), (2, .int x2), (3, .int x3)] dX0_orient_47 (by decide) rfl ?_
    refine aw_sub [1, 2, 3, 4, 0] rfl ?_
    exact c_X0_orient_49 K38 hK38 _ _ _ _ _ _ _ _ h
theorem c_X0_orient_38 {G : ah_G}   : ∀ (n : Nat) (x0 : Nat) (x1 : Int32) (x2 : Int32) (x3 : Int32) (σ : ah_H) (r : ah_H), f_X0_orient_38   n x0 x1 x2 x3 σ = some r → AW G m_X0_orient 1 0 0 38 [(0, .ref x0), (1, .int x1), (2, .int x2), (3, .int x3)] [] σ (ah_N G (ah_rv r)) := by
  intro n
  induction n with
  | zero => intro x0 x1 x2 x3 σ r h; cases h
  | succ n ih => intro x0 x1 x2 x3 σ r h; exact c_X0_orient_38_b   _ ih x0 x1 x2 x3 σ r h
set_option maxRecDepth 100000 in
set_option maxHeartbeats 4000000 in
theorem c_X0_orient_0 {G : ah_G}   : ∀ (x0 : Nat) (x1 : Int32) (σ : ah_H) (r : ah_H), f_X0_orient_0   x0 x1 σ = some r → AW G m_X0_orient 1 0 0 0 [(0, .ref x0), (1, .int x1)] [] σ (ah_N G (ah_rv r)) := by
  intro x0 x1 σ r h
  unfold f_X0_orient_0 at h
  refine aw_aload_n (pc := 0) 0 dX0_orient_0 rfl ?_
  obtain ⟨v1, e, h⟩ := op_bd h
  refine ow_gR (pc := 1) e dX0_orient_1 fd_X0_11 rfl ?_
  refine aw_iconst (pc := 4) (v := (-1 : Int32)) dX0_orient_4 (by decide) ?_
  obtain ⟨r2, e, h⟩ := op_bd h
  refine ow_cSv (pc := 5) [.ref v1, .int (-1 : Int32)] ((c_J7_fill_53178 _ _ _ _ e).mono (by decide)) rfl dX0_orient_5 cw_X0_72 rfl (Nat.le_of_ble_eq_true rfl) ?_
  refine aw_aload_n (pc := 8) 0 dX0_orient_8 rfl ?_
  obtain ⟨v3, e, h⟩ := op_bd h
  refine ow_gR (pc := 9) e dX0_orient_9 fd_X0_15 rfl ?_
  refine aw_iconst (pc := 12) (v := (0 : Int32)) dX0_orient_12 (by decide) ?_
  refine aw_aload_n (pc := 13) 0 dX0_orient_13 rfl ?_
  obtain ⟨v4, e, h⟩ := op_bd h
  refine ow_gR (pc := 14) e dX0_orient_14 fd_X0_64 rfl ?_
  obtain ⟨v5, e, h⟩ := op_bd h
  refine ow_gI (pc := 17) e dX0_orient_17 fd_X0_82 rfl ?_
  obtain ⟨σ6, e, h⟩ := op_bd h
  refine ow_sI (pc := 20) e dX0_orient_20 ?_
  refine aw_aload_n (pc := 21) 0 dX0_orient_21 rfl ?_
  refine aw_iconst (pc := 22) (v := (1 : Int32)) dX0_orient_22 (by decide) ?_
  obtain ⟨σ7, e, h⟩ := op_bd h
  refine ow_pI (pc := 23) e dX0_orient_23 fd_X0_100 ?_
  refine aw_iconst (pc := 26) (v := (1 : Int32)) dX0_orient_26 (by decide) ?_
  refine aw_aload_n (pc := 27) 0 dX0_orient_27 rfl ?_
  obtain ⟨v8, e, h⟩ := op_bd h
  refine ow_gR (pc := 28) e dX0_orient_28 fd_X0_64 rfl ?_
  obtain ⟨v9, e, h⟩ := op_bd h
  refine ow_gI (pc := 31) e dX0_orient_31 fd_X0_82 rfl ?_
  refine aw_ishl (pc := 34) dX0_orient_34 ?_
  refine aw_istore_n (pc := 35) [(2, .int ((1 : Int32) <<< (v9 &&& 31))), (0, .ref x0), (1, .int x1)] dX0_orient_35 rfl (by decide) rfl ?_
  refine aw_iconst (pc := 36) (v := (0 : Int32)) dX0_orient_36 (by decide) ?_
  refine aw_istore_n (pc := 37) [(3, .int (0 : Int32)), (2, .int ((1 : Int32) <<< (v9 &&& 31))), (0, .ref x0), (1, .int x1)] dX0_orient_37 rfl (by decide) rfl ?_
  refine aw_sub [2, 3, 1, 0] rfl ?_
  exact c_X0_orient_38  _ _ _ _ _ _ _ h
theorem c_X0_orient {G : ah_G}   (x0 : Nat) (x1 : Int32) (σ : ah_H) (r : ah_H) (h : f_X0_orient  x0 x1 σ = some r) : AM G m_X0_orient 1 0 0 [.ref x0, .int x1] σ (ah_rv r) := aw_enter (by decide) (Nat.le_of_ble_eq_true rfl) (c_X0_orient_0 _ _ _ _ (op_ck_k h))
def f_X4_joined_217   (x1 : Int64) (x3 : Int64) (s0 : Int64) (s1 : Int64) (s2 : Int64) (σ : ah_H) : Option (Int64 × ah_H) :=
  (op_ldiv s1 s2).bind fun v1 => if (lg_cmp s0 v1) ≤ 0 then (some ((x1 * x3), σ)) else (some ((-9223372036854775808 : Int64), σ))
def f_X4_joined_202   (x1 : Int64) (x3 : Int64) (s0 : Int64) (σ : ah_H) : Option (Int64 × ah_H) :=
  if 0 ≤ (lg_cmp x3 (0 : Int64)) then (f_X4_joined_217 x1 x3 s0 (1000000000000 : Int64) x3 σ) else (f_X4_joined_217 x1 x3 s0 (1000000000000 : Int64) (-x3) σ)
def f_X4_joined_0   (x0 : Int32) (x1 : Int64) (x3 : Int64) (σ : ah_H) : Option (Int64 × ah_H) :=
  if x0 = (2 : Int32) then (if (lg_cmp x1 (0 : Int64)) = 0 then (if (lg_cmp x3 (0 : Int64)) = 0 then (some ((0 : Int64), σ)) else (some ((1 : Int64), σ))) else (some ((1 : Int64), σ))) else (if x0 = (3 : Int32) then (if (lg_cmp x1 (0 : Int64)) = 0 then (some ((0 : Int64), σ)) else (if (lg_cmp x3 (0 : Int64)) = 0 then (some ((0 : Int64), σ)) else (some ((1 : Int64), σ)))) else (if x0 = (4 : Int32) then (some ((-9223372036854775808 : Int64), σ)) else (if x0 = (5 : Int32) then (if 0 ≤ (lg_cmp x1 x3) then (some ((0 : Int64), σ)) else (some ((1 : Int64), σ))) else (if x0 = (6 : Int32) then (if 0 < (lg_cmp x1 x3) then (some ((0 : Int64), σ)) else (some ((1 : Int64), σ))) else (if x0 = (7 : Int32) then (if (lg_cmp x1 x3) = 0 then (some ((1 : Int64), σ)) else (some ((0 : Int64), σ))) else (if x0 = (8 : Int32) then (if (lg_cmp x1 x3) = 0 then (some ((0 : Int64), σ)) else (some ((1 : Int64), σ))) else (if x0 = (9 : Int32) then (if (lg_cmp x1 x3) < 0 then (some ((0 : Int64), σ)) else (some ((1 : Int64), σ))) else (if x0 = (10 : Int32) then (if (lg_cmp x1 x3) ≤ 0 then (some ((0 : Int64), σ)) else (some ((1 : Int64), σ))) else (if x0 = (11 : Int32) then (some ((x1 + x3), σ)) else (if x0 = (12 : Int32) then (some ((x1 - x3), σ)) else (if x0 = (13 : Int32) then (if (lg_cmp x3 (0 : Int64)) = 0 then (some ((x1 * x3), σ)) else (if 0 ≤ (lg_cmp x1 (0 : Int64)) then (f_X4_joined_202 x1 x3 x1 σ) else (f_X4_joined_202 x1 x3 (-x1) σ))) else (if x0 = (14 : Int32) then (if (lg_cmp x3 (0 : Int64)) = 0 then (some ((-9223372036854775808 : Int64), σ)) else ((op_ldiv x1 x3).bind fun v1 => some (v1, σ))) else (some ((-9223372036854775808 : Int64), σ))))))))))))))
def f_X4_joined  (x0 : Int32) (x1 : Int64) (x3 : Int64) (σ : ah_H) : Option (Int64 × ah_H) := f_X4_joined_0 x0 x1 x3 σ
set_option maxRecDepth 100000 in
set_option maxHeartbeats 4000000 in
theorem c_X4_joined_217 {G : ah_G}   : ∀ (x1 : Int64) (x3 : Int64) (s0 : Int64) (s1 : Int64) (s2 : Int64) (σ : ah_H) (r : Int64 × ah_H), f_X4_joined_217   x1 x3 s0 s1 s2 σ = some r → AW G m_X4_joined 0 0 0 217 [(1, .long x1), (3, .long x3)] [.long s2, .long s1, .long s0] σ (ah_N G (ah_rl r)) := by
  intro x1 x3 s0 s1 s2 σ r h
  unfold f_X4_joined_217 at h
  obtain ⟨v1, e, h⟩ := op_bd h
  refine ow_ldiv (pc := 217) e dX4_joined_217 ?_
  refine aw_lcmp (pc := 218) dX4_joined_218 ?_
  refine aw_if_le (pc := 219) 228 dX4_joined_219 (by decide) (fun z => ?_) (fun z => ?_)
  · replace h := (if_pos z).symm.trans h
    refine aw_lload_n (pc := 228) 0 dX4_joined_228 rfl ?_
    refine aw_lload_n (pc := 229) 1 dX4_joined_229 rfl ?_
    refine aw_lmul (pc := 230) dX4_joined_230 ?_
    exact ow_lret (pc := 231) h dX4_joined_231 rfl
  · replace h := (if_neg z).symm.trans h
    refine aw_ldc2 (pc := 222) dX4_joined_222 kl_X4_61 ?_
    refine aw_goto (pc := 225) 231 dX4_joined_225 (by decide) ?_
    exact ow_lret (pc := 231) h dX4_joined_231 rfl
set_option maxRecDepth 100000 in
set_option maxHeartbeats 4000000 in
theorem c_X4_joined_202 {G : ah_G}   : ∀ (x1 : Int64) (x3 : Int64) (s0 : Int64) (σ : ah_H) (r : Int64 × ah_H), f_X4_joined_202   x1 x3 s0 σ = some r → AW G m_X4_joined 0 0 0 202 [(1, .long x1), (3, .long x3)] [.long s0] σ (ah_N G (ah_rl r)) := by
  intro x1 x3 s0 σ r h
  unfold f_X4_joined_202 at h
  refine aw_ldc2 (pc := 202) dX4_joined_202 kl_X4_73 ?_
  refine aw_lload_n (pc := 205) 1 dX4_joined_205 rfl ?_
  refine aw_lconst (pc := 206) (v := (0 : Int64)) dX4_joined_206 (by decide) ?_
  refine aw_lcmp (pc := 207) dX4_joined_207 ?_
  refine aw_if_ge (pc := 208) 216 dX4_joined_208 (by decide) (fun z => ?_) (fun z => ?_)
  · replace h := (if_pos z).symm.trans h
    refine aw_lload_n (pc := 216) 1 dX4_joined_216 rfl ?_
    exact c_X4_joined_217  _ _ _ _ _ _ _ h
  · replace h := (if_neg z).symm.trans h
    refine aw_lload_n (pc := 211) 1 dX4_joined_211 rfl ?_
    refine aw_lneg (pc := 212) dX4_joined_212 ?_
    refine aw_goto (pc := 213) 217 dX4_joined_213 (by decide) ?_
    exact c_X4_joined_217  _ _ _ _ _ _ _ h
set_option maxRecDepth 100000 in
set_option maxHeartbeats 4000000 in
theorem c_X4_joined_0 {G : ah_G}   : ∀ (x0 : Int32) (x1 : Int64) (x3 : Int64) (σ : ah_H) (r : Int64 × ah_H), f_X4_joined_0   x0 x1 x3 σ = some r → AW G m_X4_joined 0 0 0 0 [(0, .int x0), (1, .long x1), (3, .long x3)] [] σ (ah_N G (ah_rl r)) := by
  intro x0 x1 x3 σ r h
  unfold f_X4_joined_0 at h
  refine aw_iload_n (pc := 0) 0 dX4_joined_0 rfl ?_
  by_cases z0 : x0 = (2 : Int32)
  · replace h := (if_pos z0).symm.trans h
    refine aw_tableIn (pc := 1) (off := 67) 68 dX4_joined_1 (by rw [z0]; decide) (by rw [z0]; decide) (by rw [z0]; decide) (by decide) ?_
    refine aw_lload_n (pc := 68) 1 dX4_joined_68 rfl ?_
    refine aw_lconst (pc := 69) (v := (0 : Int64)) dX4_joined_69 (by decide) ?_
    refine aw_lcmp (pc := 70) dX4_joined_70 ?_
    refine aw_if_ne (pc := 71) 80 dX4_joined_71 (by decide) (fun z => ?_) (fun z => ?_)
    · replace h := (if_neg z).symm.trans h
      refine aw_lconst (pc := 80) (v := (1 : Int64)) dX4_joined_80 (by decide) ?_
      refine aw_goto (pc := 81) 85 dX4_joined_81 (by decide) ?_
      exact ow_lret (pc := 85) h dX4_joined_85 rfl
    · replace h := (if_pos z).symm.trans h
      refine aw_lload_n (pc := 74) 2 dX4_joined_74 rfl ?_
      refine aw_lconst (pc := 75) (v := (0 : Int64)) dX4_joined_75 (by decide) ?_
      refine aw_lcmp (pc := 76) dX4_joined_76 ?_
      refine aw_if_eq (pc := 77) 84 dX4_joined_77 (by decide) (fun z => ?_) (fun z => ?_)
      · replace h := (if_pos z).symm.trans h
        refine aw_lconst (pc := 84) (v := (0 : Int64)) dX4_joined_84 (by decide) ?_
        exact ow_lret (pc := 85) h dX4_joined_85 rfl
      · replace h := (if_neg z).symm.trans h
        refine aw_lconst (pc := 80) (v := (1 : Int64)) dX4_joined_80 (by decide) ?_
        refine aw_goto (pc := 81) 85 dX4_joined_81 (by decide) ?_
        exact ow_lret (pc := 85) h dX4_joined_85 rfl
  · replace h := (if_neg z0).symm.trans h
    by_cases z1 : x0 = (3 : Int32)
    · replace h := (if_pos z1).symm.trans h
      refine aw_tableIn (pc := 1) (off := 85) 86 dX4_joined_1 (by rw [z1]; decide) (by rw [z1]; decide) (by rw [z1]; decide) (by decide) ?_
      refine aw_lload_n (pc := 86) 1 dX4_joined_86 rfl ?_
      refine aw_lconst (pc := 87) (v := (0 : Int64)) dX4_joined_87 (by decide) ?_
      refine aw_lcmp (pc := 88) dX4_joined_88 ?_
      refine aw_if_eq (pc := 89) 102 dX4_joined_89 (by decide) (fun z => ?_) (fun z => ?_)
      · replace h := (if_pos z).symm.trans h
        refine aw_lconst (pc := 102) (v := (0 : Int64)) dX4_joined_102 (by decide) ?_
        exact ow_lret (pc := 103) h dX4_joined_103 rfl
      · replace h := (if_neg z).symm.trans h
        refine aw_lload_n (pc := 92) 2 dX4_joined_92 rfl ?_
        refine aw_lconst (pc := 93) (v := (0 : Int64)) dX4_joined_93 (by decide) ?_
        refine aw_lcmp (pc := 94) dX4_joined_94 ?_
        refine aw_if_eq (pc := 95) 102 dX4_joined_95 (by decide) (fun z => ?_) (fun z => ?_)
        · replace h := (if_pos z).symm.trans h
          refine aw_lconst (pc := 102) (v := (0 : Int64)) dX4_joined_102 (by decide) ?_
          exact ow_lret (pc := 103) h dX4_joined_103 rfl
        · replace h := (if_neg z).symm.trans h
          refine aw_lconst (pc := 98) (v := (1 : Int64)) dX4_joined_98 (by decide) ?_
          refine aw_goto (pc := 99) 103 dX4_joined_99 (by decide) ?_
          exact ow_lret (pc := 103) h dX4_joined_103 rfl
    · replace h := (if_neg z1).symm.trans h
      by_cases z2 : x0 = (4 : Int32)
      · replace h := (if_pos z2).symm.trans h
        refine aw_tableIn (pc := 1) (off := 247) 248 dX4_joined_1 (by rw [z2]; decide) (by rw [z2]; decide) (by rw [z2]; decide) (by decide) ?_
        refine aw_ldc2 (pc := 248) dX4_joined_248 kl_X4_61 ?_
        exact ow_lret (pc := 251) h dX4_joined_251 rfl
      · replace h := (if_neg z2).symm.trans h
        by_cases z3 : x0 = (5 : Int32)
        · replace h := (if_pos z3).symm.trans h
          refine aw_tableIn (pc := 1) (off := 103) 104 dX4_joined_1 (by rw [z3]; decide) (by rw [z3]; decide) (by rw [z3]; decide) (by decide) ?_
          refine aw_lload_n (pc := 104) 1 dX4_joined_104 rfl ?_
          refine aw_lload_n (pc := 105) 2 dX4_joined_105 rfl ?_
          refine aw_lcmp (pc := 106) dX4_joined_106 ?_
          refine aw_if_ge (pc := 107) 114 dX4_joined_107 (by decide) (fun z => ?_) (fun z => ?_)
          · replace h := (if_pos z).symm.trans h
            refine aw_lconst (pc := 114) (v := (0 : Int64)) dX4_joined_114 (by decide) ?_
            exact ow_lret (pc := 115) h dX4_joined_115 rfl
          · replace h := (if_neg z).symm.trans h
            refine aw_lconst (pc := 110) (v := (1 : Int64)) dX4_joined_110 (by decide) ?_
            refine aw_goto (pc := 111) 115 dX4_joined_111 (by decide) ?_
            exact ow_lret (pc := 115) h dX4_joined_115 rfl
        · replace h := (if_neg z3).symm.trans h
          by_cases z4 : x0 = (6 : Int32)
          · replace h := (if_pos z4).symm.trans h
            refine aw_tableIn (pc := 1) (off := 115) 116 dX4_joined_1 (by rw [z4]; decide) (by rw [z4]; decide) (by rw [z4]; decide) (by decide) ?_
            refine aw_lload_n (pc := 116) 1 dX4_joined_116 rfl ?_
            refine aw_lload_n (pc := 117) 2 dX4_joined_117 rfl ?_
            refine aw_lcmp (pc := 118) dX4_joined_118 ?_
            refine aw_if_gt (pc := 119) 126 dX4_joined_119 (by decide) (fun z => ?_) (fun z => ?_)
            · replace h := (if_pos z).symm.trans h
              refine aw_lconst (pc := 126) (v := (0 : Int64)) dX4_joined_126 (by decide) ?_
              exact ow_lret (pc := 127) h dX4_joined_127 rfl
            · replace h := (if_neg z).symm.trans h
              refine aw_lconst (pc := 122) (v := (1 : Int64)) dX4_joined_122 (by decide) ?_
              refine aw_goto (pc := 123) 127 dX4_joined_123 (by decide) ?_
              exact ow_lret (pc := 127) h dX4_joined_127 rfl
          · replace h := (if_neg z4).symm.trans h
            by_cases z5 : x0 = (7 : Int32)
            · replace h := (if_pos z5).symm.trans h
              refine aw_tableIn (pc := 1) (off := 127) 128 dX4_joined_1 (by rw [z5]; decide) (by rw [z5]; decide) (by rw [z5]; decide) (by decide) ?_
              refine aw_lload_n (pc := 128) 1 dX4_joined_128 rfl ?_
              refine aw_lload_n (pc := 129) 2 dX4_joined_129 rfl ?_
              refine aw_lcmp (pc := 130) dX4_joined_130 ?_
              refine aw_if_ne (pc := 131) 138 dX4_joined_131 (by decide) (fun z => ?_) (fun z => ?_)
              · replace h := (if_neg z).symm.trans h
                refine aw_lconst (pc := 138) (v := (0 : Int64)) dX4_joined_138 (by decide) ?_
                exact ow_lret (pc := 139) h dX4_joined_139 rfl
              · replace h := (if_pos z).symm.trans h
                refine aw_lconst (pc := 134) (v := (1 : Int64)) dX4_joined_134 (by decide) ?_
                refine aw_goto (pc := 135) 139 dX4_joined_135 (by decide) ?_
                exact ow_lret (pc := 139) h dX4_joined_139 rfl
            · replace h := (if_neg z5).symm.trans h
              by_cases z6 : x0 = (8 : Int32)
              · replace h := (if_pos z6).symm.trans h
                refine aw_tableIn (pc := 1) (off := 139) 140 dX4_joined_1 (by rw [z6]; decide) (by rw [z6]; decide) (by rw [z6]; decide) (by decide) ?_
                refine aw_lload_n (pc := 140) 1 dX4_joined_140 rfl ?_
                refine aw_lload_n (pc := 141) 2 dX4_joined_141 rfl ?_
                refine aw_lcmp (pc := 142) dX4_joined_142 ?_
                refine aw_if_eq (pc := 143) 150 dX4_joined_143 (by decide) (fun z => ?_) (fun z => ?_)
                · replace h := (if_pos z).symm.trans h
                  refine aw_lconst (pc := 150) (v := (0 : Int64)) dX4_joined_150 (by decide) ?_
                  exact ow_lret (pc := 151) h dX4_joined_151 rfl
                · replace h := (if_neg z).symm.trans h
                  refine aw_lconst (pc := 146) (v := (1 : Int64)) dX4_joined_146 (by decide) ?_
                  refine aw_goto (pc := 147) 151 dX4_joined_147 (by decide) ?_
                  exact ow_lret (pc := 151) h dX4_joined_151 rfl
              · replace h := (if_neg z6).symm.trans h
                by_cases z7 : x0 = (9 : Int32)
                · replace h := (if_pos z7).symm.trans h
                  refine aw_tableIn (pc := 1) (off := 151) 152 dX4_joined_1 (by rw [z7]; decide) (by rw [z7]; decide) (by rw [z7]; decide) (by decide) ?_
                  refine aw_lload_n (pc := 152) 1 dX4_joined_152 rfl ?_
                  refine aw_lload_n (pc := 153) 2 dX4_joined_153 rfl ?_
                  refine aw_lcmp (pc := 154) dX4_joined_154 ?_
                  refine aw_if_lt (pc := 155) 162 dX4_joined_155 (by decide) (fun z => ?_) (fun z => ?_)
                  · replace h := (if_pos z).symm.trans h
                    refine aw_lconst (pc := 162) (v := (0 : Int64)) dX4_joined_162 (by decide) ?_
                    exact ow_lret (pc := 163) h dX4_joined_163 rfl
                  · replace h := (if_neg z).symm.trans h
                    refine aw_lconst (pc := 158) (v := (1 : Int64)) dX4_joined_158 (by decide) ?_
                    refine aw_goto (pc := 159) 163 dX4_joined_159 (by decide) ?_
                    exact ow_lret (pc := 163) h dX4_joined_163 rfl
                · replace h := (if_neg z7).symm.trans h
                  by_cases z8 : x0 = (10 : Int32)
                  · replace h := (if_pos z8).symm.trans h
                    refine aw_tableIn (pc := 1) (off := 163) 164 dX4_joined_1 (by rw [z8]; decide) (by rw [z8]; decide) (by rw [z8]; decide) (by decide) ?_
                    refine aw_lload_n (pc := 164) 1 dX4_joined_164 rfl ?_
                    refine aw_lload_n (pc := 165) 2 dX4_joined_165 rfl ?_
                    refine aw_lcmp (pc := 166) dX4_joined_166 ?_
                    refine aw_if_le (pc := 167) 174 dX4_joined_167 (by decide) (fun z => ?_) (fun z => ?_)
                    · replace h := (if_pos z).symm.trans h
                      refine aw_lconst (pc := 174) (v := (0 : Int64)) dX4_joined_174 (by decide) ?_
                      exact ow_lret (pc := 175) h dX4_joined_175 rfl
                    · replace h := (if_neg z).symm.trans h
                      refine aw_lconst (pc := 170) (v := (1 : Int64)) dX4_joined_170 (by decide) ?_
                      refine aw_goto (pc := 171) 175 dX4_joined_171 (by decide) ?_
                      exact ow_lret (pc := 175) h dX4_joined_175 rfl
                  · replace h := (if_neg z8).symm.trans h
                    by_cases z9 : x0 = (11 : Int32)
                    · replace h := (if_pos z9).symm.trans h
                      refine aw_tableIn (pc := 1) (off := 175) 176 dX4_joined_1 (by rw [z9]; decide) (by rw [z9]; decide) (by rw [z9]; decide) (by decide) ?_
                      refine aw_lload_n (pc := 176) 1 dX4_joined_176 rfl ?_
                      refine aw_lload_n (pc := 177) 2 dX4_joined_177 rfl ?_
                      refine aw_ladd (pc := 178) dX4_joined_178 ?_
                      exact ow_lret (pc := 179) h dX4_joined_179 rfl
                    · replace h := (if_neg z9).symm.trans h
                      by_cases z10 : x0 = (12 : Int32)
                      · replace h := (if_pos z10).symm.trans h
                        refine aw_tableIn (pc := 1) (off := 179) 180 dX4_joined_1 (by rw [z10]; decide) (by rw [z10]; decide) (by rw [z10]; decide) (by decide) ?_
                        refine aw_lload_n (pc := 180) 1 dX4_joined_180 rfl ?_
                        refine aw_lload_n (pc := 181) 2 dX4_joined_181 rfl ?_
                        refine aw_lsub (pc := 182) dX4_joined_182 ?_
                        exact ow_lret (pc := 183) h dX4_joined_183 rfl
                      · replace h := (if_neg z10).symm.trans h
                        by_cases z11 : x0 = (13 : Int32)
                        · replace h := (if_pos z11).symm.trans h
                          refine aw_tableIn (pc := 1) (off := 183) 184 dX4_joined_1 (by rw [z11]; decide) (by rw [z11]; decide) (by rw [z11]; decide) (by decide) ?_
                          refine aw_lload_n (pc := 184) 2 dX4_joined_184 rfl ?_
                          refine aw_lconst (pc := 185) (v := (0 : Int64)) dX4_joined_185 (by decide) ?_
                          refine aw_lcmp (pc := 186) dX4_joined_186 ?_
                          refine aw_if_eq (pc := 187) 228 dX4_joined_187 (by decide) (fun z => ?_) (fun z => ?_)
                          · replace h := (if_pos z).symm.trans h
                            refine aw_lload_n (pc := 228) 1 dX4_joined_228 rfl ?_
                            refine aw_lload_n (pc := 229) 2 dX4_joined_229 rfl ?_
                            refine aw_lmul (pc := 230) dX4_joined_230 ?_
                            exact ow_lret (pc := 231) h dX4_joined_231 rfl
                          · replace h := (if_neg z).symm.trans h
                            refine aw_lload_n (pc := 190) 1 dX4_joined_190 rfl ?_
                            refine aw_lconst (pc := 191) (v := (0 : Int64)) dX4_joined_191 (by decide) ?_
                            refine aw_lcmp (pc := 192) dX4_joined_192 ?_
                            refine aw_if_ge (pc := 193) 201 dX4_joined_193 (by decide) (fun z => ?_) (fun z => ?_)
                            · replace h := (if_pos z).symm.trans h
                              refine aw_lload_n (pc := 201) 1 dX4_joined_201 rfl ?_
                              refine aw_sub [1, 2] rfl ?_
                              exact c_X4_joined_202  _ _ _ _ _ h
                            · replace h := (if_neg z).symm.trans h
                              refine aw_lload_n (pc := 196) 1 dX4_joined_196 rfl ?_
                              refine aw_lneg (pc := 197) dX4_joined_197 ?_
                              refine aw_goto (pc := 198) 202 dX4_joined_198 (by decide) ?_
                              refine aw_sub [1, 2] rfl ?_
                              exact c_X4_joined_202  _ _ _ _ _ h
                        · replace h := (if_neg z11).symm.trans h
                          by_cases z12 : x0 = (14 : Int32)
                          · replace h := (if_pos z12).symm.trans h
                            refine aw_tableIn (pc := 1) (off := 231) 232 dX4_joined_1 (by rw [z12]; decide) (by rw [z12]; decide) (by rw [z12]; decide) (by decide) ?_
                            refine aw_lload_n (pc := 232) 2 dX4_joined_232 rfl ?_
                            refine aw_lconst (pc := 233) (v := (0 : Int64)) dX4_joined_233 (by decide) ?_
                            refine aw_lcmp (pc := 234) dX4_joined_234 ?_
                            refine aw_if_ne (pc := 235) 244 dX4_joined_235 (by decide) (fun z => ?_) (fun z => ?_)
                            · replace h := (if_neg z).symm.trans h
                              refine aw_lload_n (pc := 244) 1 dX4_joined_244 rfl ?_
                              refine aw_lload_n (pc := 245) 2 dX4_joined_245 rfl ?_
                              obtain ⟨v1, e, h⟩ := op_bd h
                              refine ow_ldiv (pc := 246) e dX4_joined_246 ?_
                              exact ow_lret (pc := 247) h dX4_joined_247 rfl
                            · replace h := (if_pos z).symm.trans h
                              refine aw_ldc2 (pc := 238) dX4_joined_238 kl_X4_61 ?_
                              refine aw_goto (pc := 241) 247 dX4_joined_241 (by decide) ?_
                              exact ow_lret (pc := 247) h dX4_joined_247 rfl
                          · replace h := (if_neg z12).symm.trans h
                            have wz0 : ¬ (x0).toInt = 2 := fun q => z0 (Int32.toInt_inj.mp q)
                            have wz1 : ¬ (x0).toInt = 3 := fun q => z1 (Int32.toInt_inj.mp q)
                            have wz2 : ¬ (x0).toInt = 4 := fun q => z2 (Int32.toInt_inj.mp q)
                            have wz3 : ¬ (x0).toInt = 5 := fun q => z3 (Int32.toInt_inj.mp q)
                            have wz4 : ¬ (x0).toInt = 6 := fun q => z4 (Int32.toInt_inj.mp q)
                            have wz5 : ¬ (x0).toInt = 7 := fun q => z5 (Int32.toInt_inj.mp q)
                            have wz6 : ¬ (x0).toInt = 8 := fun q => z6 (Int32.toInt_inj.mp q)
                            have wz7 : ¬ (x0).toInt = 9 := fun q => z7 (Int32.toInt_inj.mp q)
                            have wz8 : ¬ (x0).toInt = 10 := fun q => z8 (Int32.toInt_inj.mp q)
                            have wz9 : ¬ (x0).toInt = 11 := fun q => z9 (Int32.toInt_inj.mp q)
                            have wz10 : ¬ (x0).toInt = 12 := fun q => z10 (Int32.toInt_inj.mp q)
                            have wz11 : ¬ (x0).toInt = 13 := fun q => z11 (Int32.toInt_inj.mp q)
                            have wz12 : ¬ (x0).toInt = 14 := fun q => z12 (Int32.toInt_inj.mp q)
                            refine aw_tableOut (pc := 1) 248 dX4_joined_1 (by omega) (by decide) ?_
                            refine aw_ldc2 (pc := 248) dX4_joined_248 kl_X4_61 ?_
                            exact ow_lret (pc := 251) h dX4_joined_251 rfl
theorem c_X4_joined {G : ah_G}   (x0 : Int32) (x1 : Int64) (x3 : Int64) (σ : ah_H) (r : Int64 × ah_H) (h : f_X4_joined  x0 x1 x3 σ = some r) : AM G m_X4_joined 0 0 0 [.int x0, .long x1, .long x3] σ (ah_rl r) := aw_enter (by decide) (Nat.le_of_ble_eq_true rfl) (c_X4_joined_0 _ _ _ _ _ h)
def f_X4_truth_0   (x0 : Int32) (σ : ah_H) : Option (Int64 × ah_H) :=
  if x0 = 0 then (some ((0 : Int64), σ)) else (some ((1 : Int64), σ))
def f_X4_truth  (x0 : Int32) (σ : ah_H) : Option (Int64 × ah_H) := f_X4_truth_0 x0 σ
set_option maxRecDepth 100000 in
set_option maxHeartbeats 4000000 in
theorem c_X4_truth_0 {G : ah_G}   : ∀ (x0 : Int32) (σ : ah_H) (r : Int64 × ah_H), f_X4_truth_0   x0 σ = some r → AW G m_X4_truth 0 0 0 0 [(0, .int x0)] [] σ (ah_N G (ah_rl r)) := by
  intro x0 σ r h
  unfold f_X4_truth_0 at h
  refine aw_iload_n (pc := 0) 0 dX4_truth_0 rfl ?_
  refine aw_if_eq (pc := 1) 8 dX4_truth_1 (by decide) (fun z => ?_) (fun z => ?_)
  · replace h := (if_pos z).symm.trans h
    refine aw_lconst (pc := 8) (v := (0 : Int64)) dX4_truth_8 (by decide) ?_
    exact ow_lret (pc := 9) h dX4_truth_9 rfl
  · replace h := (if_neg z).symm.trans h
    refine aw_lconst (pc := 4) (v := (1 : Int64)) dX4_truth_4 (by decide) ?_
    refine aw_goto (pc := 5) 9 dX4_truth_5 (by decide) ?_
    exact ow_lret (pc := 9) h dX4_truth_9 rfl
theorem c_X4_truth {G : ah_G}   (x0 : Int32) (σ : ah_H) (r : Int64 × ah_H) (h : f_X4_truth  x0 σ = some r) : AM G m_X4_truth 0 0 0 [.int x0] σ (ah_rl r) := aw_enter (by decide) (Nat.le_of_ble_eq_true rfl) (c_X4_truth_0 _ _ _ h)
def f_X4_work_209  (K9 : Nat → Int32 → Int32 → Int32 → ah_H → Option (Int64 × ah_H)) (x0 : Nat) (x1 : Int32) (x2 : Int32) (x3 : Int32) (σ : ah_H) : Option (Int64 × ah_H) :=
  K9 x0 x1 x2 (x3 + (1 : Int32)) σ
def f_X4_work_83  (K9 : Nat → Int32 → Int32 → Int32 → ah_H → Option (Int64 × ah_H)) (x0 : Nat) (x1 : Int32) (x2 : Int32) (x3 : Int32) (s0 : Nat) (s1 : Int32) (s2 : Int64) (σ : ah_H) : Option (Int64 × ah_H) :=
  (op_sL σ s0 s1 s2).bind fun σ1 => f_X4_work_209 K9 x0 x1 (x2 + (1 : Int32)) x3 σ1
def f_X4_work_38  (K9 : Nat → Int32 → Int32 → Int32 → ah_H → Option (Int64 × ah_H)) (x0 : Nat) (x1 : Int32) (x2 : Int32) (x3 : Int32) (σ : ah_H) : Option (Int64 × ah_H) :=
  if x2 < (64 : Int32) then ((op_gR 4 7 σ x0).bind fun v1 => (op_gR 4 2 σ x0).bind fun v2 => (op_aI σ v2 x3).bind fun v3 => if v3 = 0 then ((op_gR 4 3 σ x0).bind fun v8 => (op_aI σ v8 x3).bind fun v9 => f_X4_work_83 K9 x0 x1 x2 x3 v1 x2 (Int32.toInt64 v9) σ) else ((op_gR 4 6 σ x0).bind fun v4 => (op_gR 4 3 σ x0).bind fun v5 => (op_aI σ v5 x3).bind fun v6 => (op_aL σ v4 v6).bind fun v7 => f_X4_work_83 K9 x0 x1 x2 x3 v1 x2 v7 σ)) else (some ((-9223372036854775808 : Int64), σ))
def f_X4_work_175  (K9 : Nat → Int32 → Int32 → Int32 → ah_H → Option (Int64 × ah_H)) (x0 : Nat) (x1 : Int32) (x2 : Int32) (x3 : Int32) (s0 : Int64) (σ : ah_H) : Option (Int64 × ah_H) :=
  if 0 < (lg_cmp s0 (1000000000000 : Int64)) then (some ((-9223372036854775808 : Int64), σ)) else (if 0 ≤ (lg_cmp s0 (-1000000000000 : Int64)) then ((op_gR 4 7 σ x0).bind fun v1 => (op_sL σ v1 (x2 - (1 : Int32)) s0).bind fun σ2 => f_X4_work_209 K9 x0 x1 x2 x3 σ2) else (some ((-9223372036854775808 : Int64), σ)))
def f_X4_work_152  (K9 : Nat → Int32 → Int32 → Int32 → ah_H → Option (Int64 × ah_H)) (x0 : Nat) (x1 : Int32) (x2 : Int32) (x3 : Int32) (s0 : Int32) (σ : ah_H) : Option (Int64 × ah_H) :=
  (f_X4_truth s0 σ).bind fun r1 => f_X4_work_175 K9 x0 x1 x2 x3 r1.1 r1.2
def f_X4_work_105  (K9 : Nat → Int32 → Int32 → Int32 → ah_H → Option (Int64 × ah_H)) (x0 : Nat) (x1 : Int32) (x2 : Int32) (x3 : Int32) (s0 : Int32) (σ : ah_H) : Option (Int64 × ah_H) :=
  if s0 ≤ x2 then ((op_gR 4 7 σ x0).bind fun v1 => (op_aL σ v1 ((x2 - (s0 - (1 : Int32))) - (1 : Int32))).bind fun v2 => if s0 = (1 : Int32) then (if (lg_cmp v2 (0 : Int64)) = 0 then (f_X4_work_152 K9 x0 x1 (x2 - (s0 - (1 : Int32))) x3 (1 : Int32) σ) else (f_X4_work_152 K9 x0 x1 (x2 - (s0 - (1 : Int32))) x3 (0 : Int32) σ)) else ((op_gR 4 2 σ x0).bind fun v3 => (op_aI σ v3 x3).bind fun v4 => (op_gR 4 7 σ x0).bind fun v5 => (op_aL σ v5 (x2 - (s0 - (1 : Int32)))).bind fun v6 => (f_X4_joined v4 v2 v6 σ).bind fun r7 => f_X4_work_175 K9 x0 x1 (x2 - (s0 - (1 : Int32))) x3 r7.1 r7.2)) else (some ((-9223372036854775808 : Int64), σ))
def f_X4_work_215   (x0 : Nat) (x2 : Int32) (σ : ah_H) : Option (Int64 × ah_H) :=
  if x2 = (1 : Int32) then ((op_gR 4 7 σ x0).bind fun v1 => (op_aL σ v1 (0 : Int32)).bind fun v2 => some (v2, σ)) else (some ((-9223372036854775808 : Int64), σ))
def f_X4_work_9_b  (K9 : Nat → Int32 → Int32 → Int32 → ah_H → Option (Int64 × ah_H)) (x0 : Nat) (x1 : Int32) (x2 : Int32) (x3 : Int32) (σ : ah_H) : Option (Int64 × ah_H) :=
  (op_gR 4 5 σ x0).bind fun v1 => (op_aI σ v1 x1).bind fun v2 => if v2 ≤ x3 then (f_X4_work_215 x0 x2 σ) else ((op_gR 4 2 σ x0).bind fun v3 => (op_aI σ v3 x3).bind fun v4 => if v4 = 0 then (f_X4_work_38 K9 x0 x1 x2 x3 σ) else ((op_gR 4 2 σ x0).bind fun v5 => (op_aI σ v5 x3).bind fun v6 => if v6 = (1 : Int32) then (f_X4_work_38 K9 x0 x1 x2 x3 σ) else ((op_gR 4 2 σ x0).bind fun v7 => (op_aI σ v7 x3).bind fun v8 => if v8 = (4 : Int32) then (f_X4_work_105 K9 x0 x1 x2 x3 (1 : Int32) σ) else (f_X4_work_105 K9 x0 x1 x2 x3 (2 : Int32) σ))))
def f_X4_work_9   : Nat → Nat → Int32 → Int32 → Int32 → ah_H → Option (Int64 × ah_H)
  | 0, _, _, _, _, _ => none
  | n + 1, x0, x1, x2, x3, σ => f_X4_work_9_b (f_X4_work_9 n) x0 x1 x2 x3 σ
def f_X4_work_0   (x0 : Nat) (x1 : Int32) (σ : ah_H) : Option (Int64 × ah_H) :=
  (op_gR 4 4 σ x0).bind fun v1 => (op_aI σ v1 x1).bind fun v2 => f_X4_work_9 5000 x0 x1 (0 : Int32) v2 σ
def f_X4_work  (x0 : Nat) (x1 : Int32) (σ : ah_H) : Option (Int64 × ah_H) := op_ck 4 σ x0 (f_X4_work_0 x0 x1 σ)
set_option maxRecDepth 100000 in
set_option maxHeartbeats 4000000 in
theorem c_X4_work_209 {G : ah_G}  (K9 : Nat → Int32 → Int32 → Int32 → ah_H → Option (Int64 × ah_H)) (hK9 : ∀ (x0 : Nat) (x1 : Int32) (x2 : Int32) (x3 : Int32) (σ : ah_H) (r : Int64 × ah_H), K9 x0 x1 x2 x3 σ = some r → AW G m_X4_work 1 0 0 9 [(0, .ref x0), (1, .int x1), (2, .int x2), (3, .int x3)] [] σ (ah_N G (ah_rl r))) : ∀ (x0 : Nat) (x1 : Int32) (x2 : Int32) (x3 : Int32) (σ : ah_H) (r : Int64 × ah_H), f_X4_work_209  K9 x0 x1 x2 x3 σ = some r → AW G m_X4_work 1 0 0 209 [(0, .ref x0), (1, .int x1), (2, .int x2), (3, .int x3)] [] σ (ah_N G (ah_rl r)) := by
  intro x0 x1 x2 x3 σ r h
  unfold f_X4_work_209 at h
  refine aw_iinc (pc := 209) 3 [(3, .int (x3 + (1 : Int32))), (0, .ref x0), (1, .int x1), (2, .int x2)] (x3 + (1 : Int32)) dX4_work_209 rfl rfl (by decide) rfl ?_
  refine aw_goto (pc := 212) 9 dX4_work_212 (by decide) ?_
  refine aw_sub [1, 2, 3, 0] rfl ?_
  exact hK9 _ _ _ _ _ _ h
set_option maxRecDepth 100000 in
set_option maxHeartbeats 4000000 in
theorem c_X4_work_83 {G : ah_G}  (K9 : Nat → Int32 → Int32 → Int32 → ah_H → Option (Int64 × ah_H)) (hK9 : ∀ (x0 : Nat) (x1 : Int32) (x2 : Int32) (x3 : Int32) (σ : ah_H) (r : Int64 × ah_H), K9 x0 x1 x2 x3 σ = some r → AW G m_X4_work 1 0 0 9 [(0, .ref x0), (1, .int x1), (2, .int x2), (3, .int x3)] [] σ (ah_N G (ah_rl r))) : ∀ (x0 : Nat) (x1 : Int32) (x2 : Int32) (x3 : Int32) (s0 : Nat) (s1 : Int32) (s2 : Int64) (σ : ah_H) (r : Int64 × ah_H), f_X4_work_83  K9 x0 x1 x2 x3 s0 s1 s2 σ = some r → AW G m_X4_work 1 0 0 83 [(0, .ref x0), (1, .int x1), (2, .int x2), (3, .int x3)] [.long s2, .int s1, .ref s0] σ (ah_N G (ah_rl r)) := by
  intro x0 x1 x2 x3 s0 s1 s2 σ r h
  unfold f_X4_work_83 at h
  obtain ⟨σ1, e, h⟩ := op_bd h
  refine ow_sL (pc := 83) e dX4_work_83 ?_
  refine aw_iinc (pc := 84) 2 [(2, .int (x2 + (1 : Int32))), (0, .ref x0), (1, .int x1), (3, .int x3)] (x2 + (1 : Int32)) dX4_work_84 rfl rfl (by decide) rfl ?_
  refine aw_goto (pc := 87) 209 dX4_work_87 (by decide) ?_
  refine aw_sub [1, 2, 0, 3] rfl ?_
  exact c_X4_work_209 K9 hK9 _ _ _ _ _ _ h
set_option maxRecDepth 100000 in
set_option maxHeartbeats 4000000 in
theorem c_X4_work_38 {G : ah_G}  (K9 : Nat → Int32 → Int32 → Int32 → ah_H → Option (Int64 × ah_H)) (hK9 : ∀ (x0 : Nat) (x1 : Int32) (x2 : Int32) (x3 : Int32) (σ : ah_H) (r : Int64 × ah_H), K9 x0 x1 x2 x3 σ = some r → AW G m_X4_work 1 0 0 9 [(0, .ref x0), (1, .int x1), (2, .int x2), (3, .int x3)] [] σ (ah_N G (ah_rl r))) : ∀ (x0 : Nat) (x1 : Int32) (x2 : Int32) (x3 : Int32) (σ : ah_H) (r : Int64 × ah_H), f_X4_work_38  K9 x0 x1 x2 x3 σ = some r → AW G m_X4_work 1 0 0 38 [(0, .ref x0), (1, .int x1), (2, .int x2), (3, .int x3)] [] σ (ah_N G (ah_rl r)) := by
  intro x0 x1 x2 x3 σ r h
  unfold f_X4_work_38 at h
  refine aw_iload_n (pc := 38) 2 dX4_work_38 rfl ?_
  refine aw_bipush (pc := 39) (v := (64 : Int32)) dX4_work_39 (by decide) ?_
  refine aw_icmp_lt (pc := 41) 48 dX4_work_41 (by decide) (fun z => ?_) (fun z => ?_)
  · replace h := (if_pos z).symm.trans h
    refine aw_aload_n (pc := 48) 0 dX4_work_48 rfl ?_
    obtain ⟨v1, e, h⟩ := op_bd h
    refine ow_gR (pc := 49) e dX4_work_49 fd_X4_28 rfl ?_
    refine aw_iload_n (pc := 52) 2 dX4_work_52 rfl ?_
    refine aw_aload_n (pc := 53) 0 dX4_work_53 rfl ?_
    obtain ⟨v2, e, h⟩ := op_bd h
    refine ow_gR (pc := 54) e dX4_work_54 fd_X4_11 rfl ?_
    refine aw_iload_n (pc := 57) 3 dX4_work_57 rfl ?_
    obtain ⟨v3, e, h⟩ := op_bd h
    refine ow_aI (pc := 58) e dX4_work_58 ?_
    refine aw_if_ne (pc := 59) 72 dX4_work_59 (by decide) (fun z => ?_) (fun z => ?_)
    · replace h := (if_neg z).symm.trans h
      refine aw_aload_n (pc := 72) 0 dX4_work_72 rfl ?_
      obtain ⟨v4, e, h⟩ := op_bd h
      refine ow_gR (pc := 73) e dX4_work_73 fd_X4_24 rfl ?_
      refine aw_aload_n (pc := 76) 0 dX4_work_76 rfl ?_
      obtain ⟨v5, e, h⟩ := op_bd h
      refine ow_gR (pc := 77) e dX4_work_77 fd_X4_15 rfl ?_
      refine aw_iload_n (pc := 80) 3 dX4_work_80 rfl ?_
      obtain ⟨v6, e, h⟩ := op_bd h
      refine ow_aI (pc := 81) e dX4_work_81 ?_
      obtain ⟨v7, e, h⟩ := op_bd h
      refine ow_aL (pc := 82) e dX4_work_82 ?_
      exact c_X4_work_83 K9 hK9 _ _ _ _ _ _ _ _ _ h
    · replace h := (if_pos z).symm.trans h
      refine aw_aload_n (pc := 62) 0 dX4_work_62 rfl ?_
      obtain ⟨v8, e, h⟩ := op_bd h
      refine ow_gR (pc := 63) e dX4_work_63 fd_X4_15 rfl ?_
      refine aw_iload_n (pc := 66) 3 dX4_work_66 rfl ?_
      obtain ⟨v9, e, h⟩ := op_bd h
      refine ow_aI (pc := 67) e dX4_work_67 ?_
      refine aw_i2l (pc := 68) dX4_work_68 ?_
      refine aw_goto (pc := 69) 83 dX4_work_69 (by decide) ?_
      exact c_X4_work_83 K9 hK9 _ _ _ _ _ _ _ _ _ h
  · replace h := (if_neg z).symm.trans h
    refine aw_ldc2 (pc := 44) dX4_work_44 kl_X4_61 ?_
    exact ow_lret (pc := 47) h dX4_work_47 rfl
set_option maxRecDepth 100000 in
set_option maxHeartbeats 4000000 in
theorem c_X4_work_175 {G : ah_G}  (K9 : Nat → Int32 → Int32 → Int32 → ah_H → Option (Int64 × ah_H)) (hK9 : ∀ (x0 : Nat) (x1 : Int32) (x2 : Int32) (x3 : Int32) (σ : ah_H) (r : Int64 × ah_H), K9 x0 x1 x2 x3 σ = some r → AW G m_X4_work 1 0 0 9 [(0, .ref x0), (1, .int x1), (2, .int x2), (3, .int x3)] [] σ (ah_N G (ah_rl r))) : ∀ (x0 : Nat) (x1 : Int32) (x2 : Int32) (x3 : Int32) (s0 : Int64) (σ : ah_H) (r : Int64 × ah_H), f_X4_work_175  K9 x0 x1 x2 x3 s0 σ = some r → AW G m_X4_work 1 0 0 175 [(0, .ref x0), (1, .int x1), (2, .int x2), (3, .int x3)] [.long s0] σ (ah_N G (ah_rl r)) := by
  intro x0 x1 x2 x3 s0 σ r h
  unfold f_X4_work_175 at h
  refine aw_lstore (pc := 175) [(7, .long s0), (0, .ref x0), (1, .int x1), (2, .int x2), (3, .int x3)] dX4_work_175 (by decide) rfl ?_
  refine aw_lload (pc := 177) 0 dX4_work_177 rfl ?_
  refine aw_ldc2 (pc := 179) dX4_work_179 kl_X4_73 ?_
  refine aw_lcmp (pc := 182) dX4_work_182 ?_
  refine aw_if_gt (pc := 183) 195 dX4_work_183 (by decide) (fun z => ?_) (fun z => ?_)
  · replace h := (if_pos z).symm.trans h
    refine aw_ldc2 (pc := 195) dX4_work_195 kl_X4_61 ?_
    exact ow_lret (pc := 198) h dX4_work_198 rfl
  · replace h := (if_neg z).symm.trans h
    refine aw_lload (pc := 186) 0 dX4_work_186 rfl ?_
    refine aw_ldc2 (pc := 188) dX4_work_188 kl_X4_75 ?_
    refine aw_lcmp (pc := 191) dX4_work_191 ?_
    refine aw_if_ge (pc := 192) 199 dX4_work_192 (by decide) (fun z => ?_) (fun z => ?_)
    · replace h := (if_pos z).symm.trans h
      refine aw_aload_n (pc := 199) 1 dX4_work_199 rfl ?_
      obtain ⟨v1, e, h⟩ := op_bd h
      refine ow_gR (pc := 200) e dX4_work_200 fd_X4_28 rfl ?_
      refine aw_iload_n (pc := 203) 3 dX4_work_203 rfl ?_
      refine aw_iconst (pc := 204) (v := (1 : Int32)) dX4_work_204 (by decide) ?_
      refine aw_isub (pc := 205) dX4_work_205 ?_
      refine aw_lload (pc := 206) 0 dX4_work_206 rfl ?_
      obtain ⟨σ2, e, h⟩ := op_bd h
      refine ow_sL (pc := 208) e dX4_work_208 ?_
      refine aw_sub [1, 2, 3, 4] rfl ?_
      exact c_X4_work_209 K9 hK9 _ _ _ _ _ _ h
    · replace h := (if_neg z).symm.trans h
      refine aw_ldc2 (pc := 195) dX4_work_195 kl_X4_61 ?_
      exact ow_lret (pc := 198) h dX4_work_198 rfl
set_option maxRecDepth 100000 in
set_option maxHeartbeats 4000000 in
theorem c_X4_work_152 {G : ah_G}  (K9 : Nat → Int32 → Int32 → Int32 → ah_H → Option (Int64 × ah_H)) (hK9 : ∀ (x0 : Nat) (x1 : Int32) (x2 : Int32) (x3 : Int32) (σ : ah_H) (r : Int64 × ah_H), K9 x0 x1 x2 x3 σ = some r → AW G m_X4_work 1 0 0 9 [(0, .ref x0), (1, .int x1), (2, .int x2), (3, .int x3)] [] σ (ah_N G (ah_rl r))) : ∀ (x0 : Nat) (x1 : Int32) (x2 : Int32) (x3 : Int32) (s0 : Int32) (σ : ah_H) (r : Int64 × ah_H), f_X4_work_152  K9 x0 x1 x2 x3 s0 σ = some r → AW G m_X4_work 1 0 0 152 [(0, .ref x0), (1, .int x1), (2, .int x2), (3, .int x3)] [.int s0] σ (ah_N G (ah_rl r)) := by
  intro x0 x1 x2 x3 s0 σ r h
  unfold f_X4_work_152 at h
  obtain ⟨r1, e, h⟩ := op_bd h
  refine ow_cSl (pc := 152) [.int s0] ((c_X4_truth _ _ _ e).mono (by decide)) rfl dX4_work_152 cw_X4_65 rfl (Nat.le_of_ble_eq_true rfl) ?_
  refine aw_goto (pc := 155) 175 dX4_work_155 (by decide) ?_
  exact c_X4_work_175 K9 hK9 _ _ _ _ _ _ _ h
set_option maxRecDepth 100000 in
set_option maxHeartbeats 4000000 in
theorem c_X4_work_105 {G : ah_G}  (K9 : Nat → Int32 → Int32 → Int32 → ah_H → Option (Int64 × ah_H)) (hK9 : ∀ (x0 : Nat) (x1 : Int32) (x2 : Int32) (x3 : Int32) (σ : ah_H) (r : Int64 × ah_H), K9 x0 x1 x2 x3 σ = some r → AW G m_X4_work 1 0 0 9 [(0, .ref x0), (1, .int x1), (2, .int x2), (3, .int x3)] [] σ (ah_N G (ah_rl r))) : ∀ (x0 : Nat) (x1 : Int32) (x2 : Int32) (x3 : Int32) (s0 : Int32) (σ : ah_H) (r : Int64 × ah_H), f_X4_work_105  K9 x0 x1 x2 x3 s0 σ = some r → AW G m_X4_work 1 0 0 105 [(0, .ref x0), (1, .int x1), (2, .int x2), (3, .int x3)] [.int s0] σ (ah_N G (ah_rl r)) := by
  intro x0 x1 x2 x3 s0 σ r h
  unfold f_X4_work_105 at h
  refine aw_istore (pc := 105) [(4, .int s0), (0, .ref x0), (1, .int x1), (2, .int x2), (3, .int x3)] dX4_work_105 (by decide) rfl ?_
  refine aw_iload_n (pc := 107) 3 dX4_work_107 rfl ?_
  refine aw_iload (pc := 108) 0 dX4_work_108 rfl ?_
  refine aw_icmp_ge (pc := 110) 117 dX4_work_110 (by decide) (fun z => ?_) (fun z => ?_)
  · replace h := (if_pos z).symm.trans h
    refine aw_iload_n (pc := 117) 3 dX4_work_117 rfl ?_
    refine aw_iload (pc := 118) 0 dX4_work_118 rfl ?_
    refine aw_iconst (pc := 120) (v := (1 : Int32)) dX4_work_120 (by decide) ?_
    refine aw_isub (pc := 121) dX4_work_121 ?_
    refine aw_isub (pc := 122) dX4_work_122 ?_
    refine aw_istore_n (pc := 123) [(2, .int (x2 - (s0 - (1 : Int32)))), (4, .int s0), (0, .ref x0), (1, .int x1), (3, .int x3)] dX4_work_123 rfl (by decide) rfl ?_
    refine aw_aload_n (pc := 124) 2 dX4_work_124 rfl ?_
    obtain ⟨v1, e, h⟩ := op_bd h
    refine ow_gR (pc := 125) e dX4_work_125 fd_X4_28 rfl ?_
    refine aw_iload_n (pc := 128) 0 dX4_work_128 rfl ?_
    refine aw_iconst (pc := 129) (v := (1 : Int32)) dX4_work_129 (by decide) ?_
    refine aw_isub (pc := 130) dX4_work_130 ?_
    obtain ⟨v2, e, h⟩ := op_bd h
    refine ow_aL (pc := 131) e dX4_work_131 ?_
    refine aw_lstore (pc := 132) [(5, .long v2), (2, .int (x2 - (s0 - (1 : Int32)))), (4, .int s0), (0, .ref x0), (1, .int x1), (3, .int x3)] dX4_work_132 (by decide) rfl ?_
    refine aw_iload (pc := 134) 2 dX4_work_134 rfl ?_
    refine aw_iconst (pc := 136) (v := (1 : Int32)) dX4_work_136 (by decide) ?_
    refine aw_icmp_ne (pc := 137) 158 dX4_work_137 (by decide) (fun z => ?_) (fun z => ?_)
    · replace h := (if_neg z).symm.trans h
      refine aw_aload_n (pc := 158) 3 dX4_work_158 rfl ?_
      obtain ⟨v3, e, h⟩ := op_bd h
      refine ow_gR (pc := 159) e dX4_work_159 fd_X4_11 rfl ?_
      refine aw_iload_n (pc := 162) 5 dX4_work_162 rfl ?_
      obtain ⟨v4, e, h⟩ := op_bd h
      refine ow_aI (pc := 163) e dX4_work_163 ?_
      refine aw_lload (pc := 164) 0 dX4_work_164 rfl ?_
      refine aw_aload_n (pc := 166) 3 dX4_work_166 rfl ?_
      obtain ⟨v5, e, h⟩ := op_bd h
      refine ow_gR (pc := 167) e dX4_work_167 fd_X4_28 rfl ?_
      refine aw_iload_n (pc := 170) 1 dX4_work_170 rfl ?_
      obtain ⟨v6, e, h⟩ := op_bd h
      refine ow_aL (pc := 171) e dX4_work_171 ?_
      obtain ⟨r7, e, h⟩ := op_bd h
      refine ow_cSl (pc := 172) [.int v4, .long v2, .long v6] ((c_X4_joined _ _ _ _ _ e).mono (by decide)) rfl dX4_work_172 cw_X4_69 rfl (Nat.le_of_ble_eq_true rfl) ?_
      refine aw_sub [3, 4, 1, 5] rfl ?_
      exact c_X4_work_175 K9 hK9 _ _ _ _ _ _ _ h
    · replace h := (if_pos z).symm.trans h
      refine aw_lload (pc := 140) 0 dX4_work_140 rfl ?_
      refine aw_lconst (pc := 142) (v := (0 : Int64)) dX4_work_142 (by decide) ?_
      refine aw_lcmp (pc := 143) dX4_work_143 ?_
      refine aw_if_ne (pc := 144) 151 dX4_work_144 (by decide) (fun z => ?_) (fun z => ?_)
      · replace h := (if_neg z).symm.trans h
        refine aw_iconst (pc := 151) (v := (0 : Int32)) dX4_work_151 (by decide) ?_
        refine aw_sub [3, 4, 1, 5] rfl ?_
        exact c_X4_work_152 K9 hK9 _ _ _ _ _ _ _ h
      · replace h := (if_pos z).symm.trans h
        refine aw_iconst (pc := 147) (v := (1 : Int32)) dX4_work_147 (by decide) ?_
        refine aw_goto (pc := 148) 152 dX4_work_148 (by decide) ?_
        refine aw_sub [3, 4, 1, 5] rfl ?_
        exact c_X4_work_152 K9 hK9 _ _ _ _ _ _ _ h
  · replace h := (if_neg z).symm.trans h
    refine aw_ldc2 (pc := 113) dX4_work_113 kl_X4_61 ?_
    exact ow_lret (pc := 116) h dX4_work_116 rfl
set_option maxRecDepth 100000 in
set_option maxHeartbeats 4000000 in
theorem c_X4_work_215 {G : ah_G}   : ∀ (x0 : Nat) (x2 : Int32) (σ : ah_H) (r : Int64 × ah_H), f_X4_work_215   x0 x2 σ = some r → AW G m_X4_work 1 0 0 215 [(0, .ref x0), (2, .int x2)] [] σ (ah_N G (ah_rl r)) := by
  intro x0 x2 σ r h
  unfold f_X4_work_215 at h
  refine aw_iload_n (pc := 215) 1 dX4_work_215 rfl ?_
  refine aw_iconst (pc := 216) (v := (1 : Int32)) dX4_work_216 (by decide) ?_
  refine aw_icmp_ne (pc := 217) 229 dX4_work_217 (by decide) (fun z => ?_) (fun z => ?_)
  · replace h := (if_neg z).symm.trans h
    refine aw_ldc2 (pc := 229) dX4_work_229 kl_X4_61 ?_
    exact ow_lret (pc := 232) h dX4_work_232 rfl
  · replace h := (if_pos z).symm.trans h
    refine aw_aload_n (pc := 220) 0 dX4_work_220 rfl ?_
    obtain ⟨v1, e, h⟩ := op_bd h
    refine ow_gR (pc := 221) e dX4_work_221 fd_X4_28 rfl ?_
    refine aw_iconst (pc := 224) (v := (0 : Int32)) dX4_work_224 (by decide) ?_
    obtain ⟨v2, e, h⟩ := op_bd h
    refine ow_aL (pc := 225) e dX4_work_225 ?_
    refine aw_goto (pc := 226) 232 dX4_work_226 (by decide) ?_
    exact ow_lret (pc := 232) h dX4_work_232 rfl
set_option maxRecDepth 100000 in
set_option maxHeartbeats 4000000 in
theorem c_X4_work_9_b {G : ah_G}  (K9 : Nat → Int32 → Int32 → Int32 → ah_H → Option (Int64 × ah_H)) (hK9 : ∀ (x0 : Nat) (x1 : Int32) (x2 : Int32) (x3 : Int32) (σ : ah_H) (r : Int64 × ah_H), K9 x0 x1 x2 x3 σ = some r → AW G m_X4_work 1 0 0 9 [(0, .ref x0), (1, .int x1), (2, .int x2), (3, .int x3)] [] σ (ah_N G (ah_rl r))) : ∀ (x0 : Nat) (x1 : Int32) (x2 : Int32) (x3 : Int32) (σ : ah_H) (r : Int64 × ah_H), f_X4_work_9_b  K9 x0 x1 x2 x3 σ = some r → AW G m_X4_work 1 0 0 9 [(0, .ref x0), (1, .int x1), (2, .int x2), (3, .int x3)] [] σ (ah_N G (ah_rl r)) := by
  intro x0 x1 x2 x3 σ r h
  unfold f_X4_work_9_b at h
  refine aw_iload_n (pc := 9) 3 dX4_work_9 rfl ?_
  refine aw_aload_n (pc := 10) 0 dX4_work_10 rfl ?_
  obtain ⟨v1, e, h⟩ := op_bd h
  refine ow_gR (pc := 11) e dX4_work_11 fd_X4_21 rfl ?_
  refine aw_iload_n (pc := 14) 1 dX4_work_14 rfl ?_
  obtain ⟨v2, e, h⟩ := op_bd h
  refine ow_aI (pc := 15) e dX4_work_15 ?_
  refine aw_icmp_ge (pc := 16) 215 dX4_work_16 (by decide) (fun z => ?_) (fun z => ?_)
  · replace h := (if_pos z).symm.trans h
    refine aw_sub [0, 2] rfl ?_
    exact c_X4_work_215  _ _ _ _ h
  · replace h := (if_neg z).symm.trans h
    refine aw_aload_n (pc := 19) 0 dX4_work_19 rfl ?_
    obtain ⟨v3, e, h⟩ := op_bd h
    refine ow_gR (pc := 20) e dX4_work_20 fd_X4_11 rfl ?_
    refine aw_iload_n (pc := 23) 3 dX4_work_23 rfl ?_
    obtain ⟨v4, e, h⟩ := op_bd h
    refine ow_aI (pc := 24) e dX4_work_24 ?_
    refine aw_if_eq (pc := 25) 38 dX4_work_25 (by decide) (fun z => ?_) (fun z => ?_)
    · replace h := (if_pos z).symm.trans h
      exact c_X4_work_38 K9 hK9 _ _ _ _ _ _ h
    · replace h := (if_neg z).symm.trans h
      refine aw_aload_n (pc := 28) 0 dX4_work_28 rfl ?_
      obtain ⟨v5, e, h⟩ := op_bd h
      refine ow_gR (pc := 29) e dX4_work_29 fd_X4_11 rfl ?_
      refine aw_iload_n (pc := 32) 3 dX4_work_32 rfl ?_
      obtain ⟨v6, e, h⟩ := op_bd h
      refine ow_aI (pc := 33) e dX4_work_33 ?_
      refine aw_iconst (pc := 34) (v := (1 : Int32)) dX4_work_34 (by decide) ?_
      refine aw_icmp_ne (pc := 35) 90 dX4_work_35 (by decide) (fun z => ?_) (fun z => ?_)
      · replace h := (if_neg z).symm.trans h
        refine aw_aload_n (pc := 90) 0 dX4_work_90 rfl ?_
        obtain ⟨v7, e, h⟩ := op_bd h
        refine ow_gR (pc := 91) e dX4_work_91 fd_X4_11 rfl ?_
        refine aw_iload_n (pc := 94) 3 dX4_work_94 rfl ?_
        obtain ⟨v8, e, h⟩ := op_bd h
        refine ow_aI (pc := 95) e dX4_work_95 ?_
        refine aw_iconst (pc := 96) (v := (4 : Int32)) dX4_work_96 (by decide) ?_
        refine aw_icmp_ne (pc := 97) 104 dX4_work_97 (by decide) (fun z => ?_) (fun z => ?_)
        · replace h := (if_neg z).symm.trans h
          refine aw_iconst (pc := 104) (v := (2 : Int32)) dX4_work_104 (by decide) ?_
          exact c_X4_work_105 K9 hK9 _ _ _ _ _ _ _ h
        · replace h := (if_pos z).symm.trans h
          refine aw_iconst (pc := 100) (v := (1 : Int32)) dX4_work_100 (by decide) ?_
          refine aw_goto (pc := 101) 105 dX4_work_101 (by decide) ?_
          exact c_X4_work_105 K9 hK9 _ _ _ _ _ _ _ h
      · replace h := (if_pos z).symm.trans h
        exact c_X4_work_38 K9 hK9 _ _ _ _ _ _ h
theorem c_X4_work_9 {G : ah_G}   : ∀ (n : Nat) (x0 : Nat) (x1 : Int32) (x2 : Int32) (x3 : Int32) (σ : ah_H) (r : Int64 × ah_H), f_X4_work_9   n x0 x1 x2 x3 σ = some r → AW G m_X4_work 1 0 0 9 [(0, .ref x0), (1, .int x1), (2, .int x2), (3, .int x3)] [] σ (ah_N G (ah_rl r)) := by
  intro n
  induction n with
  | zero => intro x0 x1 x2 x3 σ r h; cases h
  | succ n ih => intro x0 x1 x2 x3 σ r h; exact c_X4_work_9_b   _ ih x0 x1 x2 x3 σ r h
set_option maxRecDepth 100000 in
set_option maxHeartbeats 4000000 in
theorem c_X4_work_0 {G : ah_G}   : ∀ (x0 : Nat) (x1 : Int32) (σ : ah_H) (r : Int64 × ah_H), f_X4_work_0   x0 x1 σ = some r → AW G m_X4_work 1 0 0 0 [(0, .ref x0), (1, .int x1)] [] σ (ah_N G (ah_rl r)) := by
  intro x0 x1 σ r h
  unfold f_X4_work_0 at h
  refine aw_iconst (pc := 0) (v := (0 : Int32)) dX4_work_0 (by decide) ?_
  refine aw_istore_n (pc := 1) [(2, .int (0 : Int32)), (0, .ref x0), (1, .int x1)] dX4_work_1 rfl (by decide) rfl ?_
  refine aw_aload_n (pc := 2) 1 dX4_work_2 rfl ?_
  obtain ⟨v1, e, h⟩ := op_bd h
  refine ow_gR (pc := 3) e dX4_work_3 fd_X4_18 rfl ?_
  refine aw_iload_n (pc := 6) 2 dX4_work_6 rfl ?_
  obtain ⟨v2, e, h⟩ := op_bd h
  refine ow_aI (pc := 7) e dX4_work_7 ?_
  refine aw_istore_n (pc := 8) [(3, .int v2), (2, .int (0 : Int32)), (0, .ref x0), (1, .int x1)] dX4_work_8 rfl (by decide) rfl ?_
  refine aw_sub [2, 3, 1, 0] rfl ?_
  exact c_X4_work_9  _ _ _ _ _ _ _ h
theorem c_X4_work {G : ah_G}   (x0 : Nat) (x1 : Int32) (σ : ah_H) (r : Int64 × ah_H) (h : f_X4_work  x0 x1 σ = some r) : AM G m_X4_work 1 0 0 [.ref x0, .int x1] σ (ah_rl r) := aw_enter (by decide) (Nat.le_of_ble_eq_true rfl) (c_X4_work_0 _ _ _ _ (op_ck_k h))
def f_X4_carried_0   (x0 : Nat) (x1 : Int32) (x2 : Int32) (σ : ah_H) : Option (Int64 × ah_H) :=
  (f_X4_isTold x0 (0 : Int32) σ).bind fun r1 => if r1.1 = 0 then (some ((op_maxl (0 : Int64) ((Int32.toInt64 x1) * (Int32.toInt64 x2))), r1.2)) else ((op_gR 4 6 r1.2 x0).bind fun v2 => (f_J7_fill_d0a16 v2 (0 : Int64) r1.2).bind fun r3 => (op_gR 4 6 r3 x0).bind fun v4 => (op_sL r3 v4 (0 : Int32) (Int32.toInt64 x1)).bind fun σ5 => (op_gR 4 6 σ5 x0).bind fun v6 => (op_sL σ5 v6 (1 : Int32) (Int32.toInt64 x2)).bind fun σ7 => (f_X4_work x0 (0 : Int32) σ7).bind fun r8 => if (lg_cmp r8.1 (-9223372036854775808 : Int64)) = 0 then (some ((0 : Int64), r8.2)) else (some ((op_maxl (0 : Int64) r8.1), r8.2)))
def f_X4_carried  (x0 : Nat) (x1 : Int32) (x2 : Int32) (σ : ah_H) : Option (Int64 × ah_H) := op_ck 4 σ x0 (f_X4_carried_0 x0 x1 x2 σ)
set_option maxRecDepth 100000 in
set_option maxHeartbeats 4000000 in
theorem c_X4_carried_0 {G : ah_G}   : ∀ (x0 : Nat) (x1 : Int32) (x2 : Int32) (σ : ah_H) (r : Int64 × ah_H), f_X4_carried_0   x0 x1 x2 σ = some r → AW G m_X4_carried 2 0 0 0 [(0, .ref x0), (1, .int x1), (2, .int x2)] [] σ (ah_N G (ah_rl r)) := by
  intro x0 x1 x2 σ r h
  unfold f_X4_carried_0 at h
  refine aw_aload_n (pc := 0) 0 dX4_carried_0 rfl ?_
  refine aw_iconst (pc := 1) (v := (0 : Int32)) dX4_carried_1 (by decide) ?_
  obtain ⟨r1, e, h⟩ := op_bd h
  refine ow_cVi (pc := 2) [.int (0 : Int32)] ((c_X4_isTold _ _ _ _ e).mono (by decide)) (op_ck_sh e) rfl dX4_carried_2 cw_X4_44 rfl (Nat.le_of_ble_eq_true rfl) ?_
  refine aw_if_ne (pc := 5) 18 dX4_carried_5 (by decide) (fun z => ?_) (fun z => ?_)
  · replace h := (if_neg z).symm.trans h
    refine aw_aload_n (pc := 18) 0 dX4_carried_18 rfl ?_
    obtain ⟨v2, e, h⟩ := op_bd h
    refine ow_gR (pc := 19) e dX4_carried_19 fd_X4_24 rfl ?_
    refine aw_lconst (pc := 22) (v := (0 : Int64)) dX4_carried_22 (by decide) ?_
    obtain ⟨r3, e, h⟩ := op_bd h
    refine ow_cSv (pc := 23) [.ref v2, .long (0 : Int64)] ((c_J7_fill_d0a16 _ _ _ _ e).mono (by decide)) rfl dX4_carried_23 cw_X4_54 rfl (Nat.le_of_ble_eq_true rfl) ?_
    refine aw_aload_n (pc := 26) 0 dX4_carried_26 rfl ?_
    obtain ⟨v4, e, h⟩ := op_bd h
    refine ow_gR (pc := 27) e dX4_carried_27 fd_X4_24 rfl ?_
    refine aw_iconst (pc := 30) (v := (0 : Int32)) dX4_carried_30 (by decide) ?_
    refine aw_iload_n (pc := 31) 1 dX4_carried_31 rfl ?_
    refine aw_i2l (pc := 32) dX4_carried_32 ?_
    obtain ⟨σ5, e, h⟩ := op_bd h
    refine ow_sL (pc := 33) e dX4_carried_33 ?_
    refine aw_aload_n (pc := 34) 0 dX4_carried_34 rfl ?_
    obtain ⟨v6, e, h⟩ := op_bd h
    refine ow_gR (pc := 35) e dX4_carried_35 fd_X4_24 rfl ?_
    refine aw_iconst (pc := 38) (v := (1 : Int32)) dX4_carried_38 (by decide) ?_
    refine aw_iload_n (pc := 39) 2 dX4_carried_39 rfl ?_
    refine aw_i2l (pc := 40) dX4_carried_40 ?_
    obtain ⟨σ7, e, h⟩ := op_bd h
    refine ow_sL (pc := 41) e dX4_carried_41 ?_
    refine aw_aload_n (pc := 42) 0 dX4_carried_42 rfl ?_
    refine aw_iconst (pc := 43) (v := (0 : Int32)) dX4_carried_43 (by decide) ?_
    obtain ⟨r8, e, h⟩ := op_bd h
    refine ow_cVl (pc := 44) [.int (0 : Int32)] ((c_X4_work _ _ _ _ e).mono (by decide)) (op_ck_sh e) rfl dX4_carried_44 cw_X4_57 rfl (Nat.le_of_ble_eq_true rfl) ?_
    refine aw_lstore_n (pc := 47) [(3, .long r8.1), (0, .ref x0), (1, .int x1), (2, .int x2)] dX4_carried_47 rfl (by decide) rfl ?_
    refine aw_lload_n (pc := 48) 0 dX4_carried_48 rfl ?_
    refine aw_ldc2 (pc := 49) dX4_carried_49 kl_X4_61 ?_
    refine aw_lcmp (pc := 52) dX4_carried_52 ?_
    refine aw_if_ne (pc := 53) 60 dX4_carried_53 (by decide) (fun z => ?_) (fun z => ?_)
    · replace h := (if_neg z).symm.trans h
      refine aw_lconst (pc := 60) (v := (0 : Int64)) dX4_carried_60 (by decide) ?_
      refine aw_lload_n (pc := 61) 0 dX4_carried_61 rfl ?_
      refine ow_maxl (pc := 62) dX4_carried_62 mt_X4_48 (Nat.le_of_ble_eq_true rfl) ?_
      exact ow_lret (pc := 65) h dX4_carried_65 rfl
    · replace h := (if_pos z).symm.trans h
      refine aw_lconst (pc := 56) (v := (0 : Int64)) dX4_carried_56 (by decide) ?_
      refine aw_goto (pc := 57) 65 dX4_carried_57 (by decide) ?_
      exact ow_lret (pc := 65) h dX4_carried_65 rfl
  · replace h := (if_pos z).symm.trans h
    refine aw_lconst (pc := 8) (v := (0 : Int64)) dX4_carried_8 (by decide) ?_
    refine aw_iload_n (pc := 9) 1 dX4_carried_9 rfl ?_
    refine aw_i2l (pc := 10) dX4_carried_10 ?_
    refine aw_iload_n (pc := 11) 2 dX4_carried_11 rfl ?_
    refine aw_i2l (pc := 12) dX4_carried_12 ?_
    refine aw_lmul (pc := 13) dX4_carried_13 ?_
    refine ow_maxl (pc := 14) dX4_carried_14 mt_X4_48 (Nat.le_of_ble_eq_true rfl) ?_
    exact ow_lret (pc := 17) h dX4_carried_17 rfl
theorem c_X4_carried {G : ah_G}   (x0 : Nat) (x1 : Int32) (x2 : Int32) (σ : ah_H) (r : Int64 × ah_H) (h : f_X4_carried  x0 x1 x2 σ = some r) : AM G m_X4_carried 2 0 0 [.ref x0, .int x1, .int x2] σ (ah_rl r) := aw_enter (by decide) (Nat.le_of_ble_eq_true rfl) (c_X4_carried_0 _ _ _ _ _ (op_ck_k h))
def f_X4_digs_0   (x0 : Nat) (x1 : Int32) (x2 : Int32) (x3 : Int32) (σ : ah_H) : Option (Int64 × ah_H) :=
  (f_X4_isTold x0 (1 : Int32) σ).bind fun r1 => if r1.1 = 0 then (some ((Int32.toInt64 x2), r1.2)) else ((op_gR 4 6 r1.2 x0).bind fun v2 => (f_J7_fill_d0a16 v2 (0 : Int64) r1.2).bind fun r3 => (op_gR 4 6 r3 x0).bind fun v4 => (op_sL r3 v4 (0 : Int32) (Int32.toInt64 x1)).bind fun σ5 => (op_gR 4 6 σ5 x0).bind fun v6 => (op_sL σ5 v6 (2 : Int32) (Int32.toInt64 x2)).bind fun σ7 => (op_gR 4 6 σ7 x0).bind fun v8 => (op_sL σ7 v8 (3 : Int32) (Int32.toInt64 x3)).bind fun σ9 => (f_X4_work x0 (1 : Int32) σ9).bind fun r10 => if (lg_cmp r10.1 (-9223372036854775808 : Int64)) = 0 then (some ((9999 : Int64), r10.2)) else (some ((op_maxl (0 : Int64) r10.1), r10.2)))
def f_X4_digs  (x0 : Nat) (x1 : Int32) (x2 : Int32) (x3 : Int32) (σ : ah_H) : Option (Int64 × ah_H) := op_ck 4 σ x0 (f_X4_digs_0 x0 x1 x2 x3 σ)
set_option maxRecDepth 100000 in
set_option maxHeartbeats 4000000 in
theorem c_X4_digs_0 {G : ah_G}   : ∀ (x0 : Nat) (x1 : Int32) (x2 : Int32) (x3 : Int32) (σ : ah_H) (r : Int64 × ah_H), f_X4_digs_0   x0 x1 x2 x3 σ = some r → AW G m_X4_digs 2 0 0 0 [(0, .ref x0), (1, .int x1), (2, .int x2), (3, .int x3)] [] σ (ah_N G (ah_rl r)) := by
  intro x0 x1 x2 x3 σ r h
  unfold f_X4_digs_0 at h
  refine aw_aload_n (pc := 0) 0 dX4_digs_0 rfl ?_
  refine aw_iconst (pc := 1) (v := (1 : Int32)) dX4_digs_1 (by decide) ?_
  obtain ⟨r1, e, h⟩ := op_bd h
  refine ow_cVi (pc := 2) [.int (1 : Int32)] ((c_X4_isTold _ _ _ _ e).mono (by decide)) (op_ck_sh e) rfl dX4_digs_2 cw_X4_44 rfl (Nat.le_of_ble_eq_true rfl) ?_
  refine aw_if_ne (pc := 5) 11 dX4_digs_5 (by decide) (fun z => ?_) (fun z => ?_)
  · replace h := (if_neg z).symm.trans h
    refine aw_aload_n (pc := 11) 0 dX4_digs_11 rfl ?_
    obtain ⟨v2, e, h⟩ := op_bd h
    refine ow_gR (pc := 12) e dX4_digs_12 fd_X4_24 rfl ?_
    refine aw_lconst (pc := 15) (v := (0 : Int64)) dX4_digs_15 (by decide) ?_
    obtain ⟨r3, e, h⟩ := op_bd h
    refine ow_cSv (pc := 16) [.ref v2, .long (0 : Int64)] ((c_J7_fill_d0a16 _ _ _ _ e).mono (by decide)) rfl dX4_digs_16 cw_X4_54 rfl (Nat.le_of_ble_eq_true rfl) ?_
    refine aw_aload_n (pc := 19) 0 dX4_digs_19 rfl ?_
    obtain ⟨v4, e, h⟩ := op_bd h
    refine ow_gR (pc := 20) e dX4_digs_20 fd_X4_24 rfl ?_
    refine aw_iconst (pc := 23) (v := (0 : Int32)) dX4_digs_23 (by decide) ?_
    refine aw_iload_n (pc := 24) 1 dX4_digs_24 rfl ?_
    refine aw_i2l (pc := 25) dX4_digs_25 ?_
    obtain ⟨σ5, e, h⟩ := op_bd h
    refine ow_sL (pc := 26) e dX4_digs_26 ?_
    refine aw_aload_n (pc := 27) 0 dX4_digs_27 rfl ?_
    obtain ⟨v6, e, h⟩ := op_bd h
    refine ow_gR (pc := 28) e dX4_digs_28 fd_X4_24 rfl ?_
    refine aw_iconst (pc := 31) (v := (2 : Int32)) dX4_digs_31 (by decide) ?_
    refine aw_iload_n (pc := 32) 2 dX4_digs_32 rfl ?_
    refine aw_i2l (pc := 33) dX4_digs_33 ?_
    obtain ⟨σ7, e, h⟩ := op_bd h
    refine ow_sL (pc := 34) e dX4_digs_34 ?_
    refine aw_aload_n (pc := 35) 0 dX4_digs_35 rfl ?_
    obtain ⟨v8, e, h⟩ := op_bd h
    refine ow_gR (pc := 36) e dX4_digs_36 fd_X4_24 rfl ?_
    refine aw_iconst (pc := 39) (v := (3 : Int32)) dX4_digs_39 (by decide) ?_
    refine aw_iload_n (pc := 40) 3 dX4_digs_40 rfl ?_
    refine aw_i2l (pc := 41) dX4_digs_41 ?_
    obtain ⟨σ9, e, h⟩ := op_bd h
    refine ow_sL (pc := 42) e dX4_digs_42 ?_
    refine aw_aload_n (pc := 43) 0 dX4_digs_43 rfl ?_
    refine aw_iconst (pc := 44) (v := (1 : Int32)) dX4_digs_44 (by decide) ?_
    obtain ⟨r10, e, h⟩ := op_bd h
    refine ow_cVl (pc := 45) [.int (1 : Int32)] ((c_X4_work _ _ _ _ e).mono (by decide)) (op_ck_sh e) rfl dX4_digs_45 cw_X4_57 rfl (Nat.le_of_ble_eq_true rfl) ?_
    refine aw_lstore (pc := 48) [(4, .long r10.1), (0, .ref x0), (1, .int x1), (2, .int x2), (3, .int x3)] dX4_digs_48 (by decide) rfl ?_
    refine aw_lload (pc := 50) 0 dX4_digs_50 rfl ?_
    refine aw_ldc2 (pc := 52) dX4_digs_52 kl_X4_61 ?_
    refine aw_lcmp (pc := 55) dX4_digs_55 ?_
    refine aw_if_ne (pc := 56) 65 dX4_digs_56 (by decide) (fun z => ?_) (fun z => ?_)
    · replace h := (if_neg z).symm.trans h
      refine aw_lconst (pc := 65) (v := (0 : Int64)) dX4_digs_65 (by decide) ?_
      refine aw_lload (pc := 66) 0 dX4_digs_66 rfl ?_
      refine ow_maxl (pc := 68) dX4_digs_68 mt_X4_48 (Nat.le_of_ble_eq_true rfl) ?_
      exact ow_lret (pc := 71) h dX4_digs_71 rfl
    · replace h := (if_pos z).symm.trans h
      refine aw_ldc2 (pc := 59) dX4_digs_59 kl_X4_63 ?_
      refine aw_goto (pc := 62) 71 dX4_digs_62 (by decide) ?_
      exact ow_lret (pc := 71) h dX4_digs_71 rfl
  · replace h := (if_pos z).symm.trans h
    refine aw_iload_n (pc := 8) 2 dX4_digs_8 rfl ?_
    refine aw_i2l (pc := 9) dX4_digs_9 ?_
    exact ow_lret (pc := 10) h dX4_digs_10 rfl
theorem c_X4_digs {G : ah_G}   (x0 : Nat) (x1 : Int32) (x2 : Int32) (x3 : Int32) (σ : ah_H) (r : Int64 × ah_H) (h : f_X4_digs  x0 x1 x2 x3 σ = some r) : AM G m_X4_digs 2 0 0 [.ref x0, .int x1, .int x2, .int x3] σ (ah_rl r) := aw_enter (by decide) (Nat.le_of_ble_eq_true rfl) (c_X4_digs_0 _ _ _ _ _ _ (op_ck_k h))
def f_X9_rockyAt_0   (x0 : Nat) (x1 : Int32) (x2 : Int32) (σ : ah_H) : Option (Int32 × ah_H) :=
  (op_gR 9 1 σ x0).bind fun v1 => (op_aR .int σ v1 x1).bind fun v2 => (op_aI σ v2 (2 : Int32)).bind fun v3 => some ((op_maxi (0 : Int32) (x2 - v3)), σ)
def f_X9_rockyAt  (x0 : Nat) (x1 : Int32) (x2 : Int32) (σ : ah_H) : Option (Int32 × ah_H) := op_ck 9 σ x0 (f_X9_rockyAt_0 x0 x1 x2 σ)
set_option maxRecDepth 100000 in
set_option maxHeartbeats 4000000 in
theorem c_X9_rockyAt_0 {G : ah_G}   : ∀ (x0 : Nat) (x1 : Int32) (x2 : Int32) (σ : ah_H) (r : Int32 × ah_H), f_X9_rockyAt_0   x0 x1 x2 σ = some r → AW G m_X9_rockyAt 1 0 0 0 [(0, .ref x0), (1, .int x1), (2, .int x2)] [] σ (ah_N G (ah_ri r)) := by
  intro x0 x1 x2 σ r h
  unfold f_X9_rockyAt_0 at h
  refine aw_iconst (pc := 0) (v := (0 : Int32)) dX9_rockyAt_0 (by decide) ?_
  refine aw_iload_n (pc := 1) 2 dX9_rockyAt_1 rfl ?_
  refine aw_aload_n (pc := 2) 0 dX9_rockyAt_2 rfl ?_
  obtain ⟨v1, e, h⟩ := op_bd h
  refine ow_gR (pc := 3) e dX9_rockyAt_3 fd_X9_11 rfl ?_
  refine aw_iload_n (pc := 6) 1 dX9_rockyAt_6 rfl ?_
  obtain ⟨v2, e, h⟩ := op_bd h
  refine ow_aR (pc := 7) e dX9_rockyAt_7 (by decide) ?_
  refine aw_iconst (pc := 8) (v := (2 : Int32)) dX9_rockyAt_8 (by decide) ?_
  obtain ⟨v3, e, h⟩ := op_bd h
  refine ow_aI (pc := 9) e dX9_rockyAt_9 ?_
  refine aw_isub (pc := 10) dX9_rockyAt_10 ?_
  refine ow_maxi (pc := 11) dX9_rockyAt_11 mt_X9_75 (Nat.le_of_ble_eq_true rfl) ?_
  exact ow_iret (pc := 14) h dX9_rockyAt_14 rfl
theorem c_X9_rockyAt {G : ah_G}   (x0 : Nat) (x1 : Int32) (x2 : Int32) (σ : ah_H) (r : Int32 × ah_H) (h : f_X9_rockyAt  x0 x1 x2 σ = some r) : AM G m_X9_rockyAt 1 0 0 [.ref x0, .int x1, .int x2] σ (ah_ri r) := aw_enter (by decide) (Nat.le_of_ble_eq_true rfl) (c_X9_rockyAt_0 _ _ _ _ _ (op_ck_k h))
def f_X0_price_166  (K7 : Nat → Int32 → ah_H → Option (ah_H)) (K87 : Nat → Int32 → Int32 → Int32 → ah_H → Option (ah_H)) (x0 : Nat) (x1 : Int32) (x2 : Int32) (x3 : Int32) (σ : ah_H) : Option (ah_H) :=
  K87 x0 x1 x2 (x3 + (1 : Int32)) σ
def f_X0_price_109_b  (K7 : Nat → Int32 → ah_H → Option (ah_H)) (K87 : Nat → Int32 → Int32 → Int32 → ah_H → Option (ah_H)) (K109 : Nat → Int32 → Int32 → Int32 → Int32 → ah_H → Option (ah_H)) (x0 : Nat) (x1 : Int32) (x2 : Int32) (x3 : Int32) (x4 : Int32) (σ : ah_H) : Option (ah_H) :=
  (op_gR 0 17 σ x0).bind fun v1 => (op_gR 9 12 σ v1).bind fun v2 => (op_aI σ v2 (1 : Int32)).bind fun v3 => if v3 < x4 then (f_X0_price_166 K7 K87 x0 x1 x2 x3 σ) else ((op_gR 0 14 σ x0).bind fun v4 => (op_aR .long σ v4 x3).bind fun v5 => (op_gR 0 17 σ x0).bind fun v6 => (op_gR 9 15 σ v6).bind fun v7 => (op_gR 0 17 σ x0).bind fun v8 => (f_X9_rockyAt v8 x3 x4 σ).bind fun r9 => (f_X4_digs v7 x2 x4 r9.1 r9.2).bind fun r10 => (op_sL r10.2 v5 ((x1 * (13 : Int32)) + x4) r10.1).bind fun σ11 => K109 x0 x1 x2 x3 (x4 + (1 : Int32)) σ11)
def f_X0_price_109  (K7 : Nat → Int32 → ah_H → Option (ah_H)) (K87 : Nat → Int32 → Int32 → Int32 → ah_H → Option (ah_H)) : Nat → Nat → Int32 → Int32 → Int32 → Int32 → ah_H → Option (ah_H)
  | 0, _, _, _, _, _, _ => none
  | n + 1, x0, x1, x2, x3, x4, σ => f_X0_price_109_b K7 K87 (f_X0_price_109 K7 K87 n) x0 x1 x2 x3 x4 σ
def f_X0_price_172  (K7 : Nat → Int32 → ah_H → Option (ah_H)) (x0 : Nat) (x1 : Int32) (σ : ah_H) : Option (ah_H) :=
  K7 x0 (x1 + (1 : Int32)) σ
def f_X0_price_87_b  (K7 : Nat → Int32 → ah_H → Option (ah_H)) (K87 : Nat → Int32 → Int32 → Int32 → ah_H → Option (ah_H)) (x0 : Nat) (x1 : Int32) (x2 : Int32) (x3 : Int32) (σ : ah_H) : Option (ah_H) :=
  (op_gR 0 17 σ x0).bind fun v1 => (op_gI 9 0 σ v1).bind fun v2 => if v2 ≤ x3 then (f_X0_price_172 K7 x0 x1 σ) else ((op_gR 0 17 σ x0).bind fun v3 => (op_gR 9 12 σ v3).bind fun v4 => (op_aI σ v4 (0 : Int32)).bind fun v5 => f_X0_price_109 K7 K87 5000 x0 x1 x2 x3 v5 σ)
def f_X0_price_87  (K7 : Nat → Int32 → ah_H → Option (ah_H)) : Nat → Nat → Int32 → Int32 → Int32 → ah_H → Option (ah_H)
  | 0, _, _, _, _, _ => none
  | n + 1, x0, x1, x2, x3, σ => f_X0_price_87_b K7 (f_X0_price_87 K7 n) x0 x1 x2 x3 σ
def f_X0_price_85  (K7 : Nat → Int32 → ah_H → Option (ah_H)) (x0 : Nat) (x1 : Int32) (x2 : Int32) (σ : ah_H) : Option (ah_H) :=
  f_X0_price_87 K7 5000 x0 x1 x2 (0 : Int32) σ
def f_X0_price_40_b  (K7 : Nat → Int32 → ah_H → Option (ah_H)) (K40 : Nat → Int32 → Int32 → Int32 → ah_H → Option (ah_H)) (x0 : Nat) (x1 : Int32) (x2 : Int32) (x3 : Int32) (σ : ah_H) : Option (ah_H) :=
  (op_gR 0 17 σ x0).bind fun v1 => (op_gR 9 11 σ v1).bind fun v2 => (op_aI σ v2 (1 : Int32)).bind fun v3 => if v3 < x3 then (f_X0_price_85 K7 x0 x1 x2 σ) else (if (100 : Int32) ≤ x3 then (f_X0_price_85 K7 x0 x1 x2 σ) else ((op_gR 0 15 σ x0).bind fun v4 => (op_aR .long σ v4 x1).bind fun v5 => (op_gR 0 17 σ x0).bind fun v6 => (op_gR 9 15 σ v6).bind fun v7 => (f_X4_carried v7 x2 x3 σ).bind fun r8 => (op_sL r8.2 v5 x3 r8.1).bind fun σ9 => K40 x0 x1 x2 (x3 + (1 : Int32)) σ9))
def f_X0_price_40  (K7 : Nat → Int32 → ah_H → Option (ah_H)) : Nat → Nat → Int32 → Int32 → Int32 → ah_H → Option (ah_H)
  | 0, _, _, _, _, _ => none
  | n + 1, x0, x1, x2, x3, σ => f_X0_price_40_b K7 (f_X0_price_40 K7 n) x0 x1 x2 x3 σ
def f_X0_price_7_b  (K7 : Nat → Int32 → ah_H → Option (ah_H)) (x0 : Nat) (x1 : Int32) (σ : ah_H) : Option (ah_H) :=
  (op_gR 0 17 σ x0).bind fun v1 => (op_gI 9 6 σ v1).bind fun v2 => if v2 ≤ x1 then (some σ) else ((op_gR 0 17 σ x0).bind fun v3 => (op_gR 9 7 σ v3).bind fun v4 => (op_aR .int σ v4 x1).bind fun v5 => (op_aI σ v5 (0 : Int32)).bind fun v6 => (op_gR 0 17 σ x0).bind fun v7 => (op_gR 9 11 σ v7).bind fun v8 => (op_aI σ v8 (0 : Int32)).bind fun v9 => f_X0_price_40 K7 5000 x0 x1 v6 v9 σ)
def f_X0_price_7   : Nat → Nat → Int32 → ah_H → Option (ah_H)
  | 0, _, _, _ => none
  | n + 1, x0, x1, σ => f_X0_price_7_b (f_X0_price_7 n) x0 x1 σ
def f_X0_price_0   (x0 : Nat) (σ : ah_H) : Option (ah_H) :=
  (op_pZ 0 16 σ x0 (1 : Int32)).bind fun σ1 => f_X0_price_7 5000 x0 (0 : Int32) σ1
def f_X0_price  (x0 : Nat) (σ : ah_H) : Option (ah_H) := op_ck 0 σ x0 (f_X0_price_0 x0 σ)
set_option maxRecDepth 100000 in
set_option maxHeartbeats 4000000 in
theorem c_X0_price_166 {G : ah_G}  (K7 : Nat → Int32 → ah_H → Option (ah_H)) (hK7 : ∀ (x0 : Nat) (x1 : Int32) (σ : ah_H) (r : ah_H), K7 x0 x1 σ = some r → AW G m_X0_price 3 0 0 7 [(0, .ref x0), (1, .int x1)] [] σ (ah_N G (ah_rv r))) (K87 : Nat → Int32 → Int32 → Int32 → ah_H → Option (ah_H)) (hK87 : ∀ (x0 : Nat) (x1 : Int32) (x2 : Int32) (x3 : Int32) (σ : ah_H) (r : ah_H), K87 x0 x1 x2 x3 σ = some r → AW G m_X0_price 3 0 0 87 [(0, .ref x0), (1, .int x1), (2, .int x2), (3, .int x3)] [] σ (ah_N G (ah_rv r))) : ∀ (x0 : Nat) (x1 : Int32) (x2 : Int32) (x3 : Int32) (σ : ah_H) (r : ah_H), f_X0_price_166  K7 K87 x0 x1 x2 x3 σ = some r → AW G m_X0_price 3 0 0 166 [(0, .ref x0), (1, .int x1), (2, .int x2), (3, .int x3)] [] σ (ah_N G (ah_rv r)) := by
  intro x0 x1 x2 x3 σ r h
  unfold f_X0_price_166 at h
  refine aw_iinc (pc := 166) 3 [(3, .int (x3 + (1 : Int32))), (0, .ref x0), (1, .int x1), (2, .int x2)] (x3 + (1 : Int32)) dX0_price_166 rfl rfl (by decide) rfl ?_
  refine aw_goto (pc := 169) 87 dX0_price_169 (by decide) ?_
  refine aw_sub [1, 2, 3, 0] rfl ?_
  exact hK87 _ _ _ _ _ _ h
set_option maxRecDepth 100000 in
set_option maxHeartbeats 4000000 in
theorem c_X0_price_109_b {G : ah_G}  (K7 : Nat → Int32 → ah_H → Option (ah_H)) (hK7 : ∀ (x0 : Nat) (x1 : Int32) (σ : ah_H) (r : ah_H), K7 x0 x1 σ = some r → AW G m_X0_price 3 0 0 7 [(0, .ref x0), (1, .int x1)] [] σ (ah_N G (ah_rv r))) (K87 : Nat → Int32 → Int32 → Int32 → ah_H → Option (ah_H)) (hK87 : ∀ (x0 : Nat) (x1 : Int32) (x2 : Int32) (x3 : Int32) (σ : ah_H) (r : ah_H), K87 x0 x1 x2 x3 σ = some r → AW G m_X0_price 3 0 0 87 [(0, .ref x0), (1, .int x1), (2, .int x2), (3, .int x3)] [] σ (ah_N G (ah_rv r))) (K109 : Nat → Int32 → Int32 → Int32 → Int32 → ah_H → Option (ah_H)) (hK109 : ∀ (x0 : Nat) (x1 : Int32) (x2 : Int32) (x3 : Int32) (x4 : Int32) (σ : ah_H) (r : ah_H), K109 x0 x1 x2 x3 x4 σ = some r → AW G m_X0_price 3 0 0 109 [(0, .ref x0), (1, .int x1), (2, .int x2), (3, .int x3), (4, .int x4)] [] σ (ah_N G (ah_rv r))) : ∀ (x0 : Nat) (x1 : Int32) (x2 : Int32) (x3 : Int32) (x4 : Int32) (σ : ah_H) (r : ah_H), f_X0_price_109_b  K7 K87 K109 x0 x1 x2 x3 x4 σ = some r → AW G m_X0_price 3 0 0 109 [(0, .ref x0), (1, .int x1), (2, .int x2), (3, .int x3), (4, .int x4)] [] σ (ah_N G (ah_rv r)) := by
  intro x0 x1 x2 x3 x4 σ r h
  unfold f_X0_price_109_b at h
  refine aw_iload (pc := 109) 4 dX0_price_109 rfl ?_
  refine aw_aload_n (pc := 111) 0 dX0_price_111 rfl ?_
  obtain ⟨v1, e, h⟩ := op_bd h
  refine ow_gR (pc := 112) e dX0_price_112 fd_X0_64 rfl ?_
  obtain ⟨v2, e, h⟩ := op_bd h
  refine ow_gR (pc := 115) e dX0_price_115 fd_X0_142 rfl ?_
  refine aw_iconst (pc := 118) (v := (1 : Int32)) dX0_price_118 (by decide) ?_
  obtain ⟨v3, e, h⟩ := op_bd h
  refine ow_aI (pc := 119) e dX0_price_119 ?_
  refine aw_icmp_gt (pc := 120) 166 dX0_price_120 (by decide) (fun z => ?_) (fun z => ?_)
  · replace h := (if_pos z).symm.trans h
    refine aw_sub [0, 1, 2, 3] rfl ?_
    exact c_X0_price_166 K7 hK7 K87 hK87 _ _ _ _ _ _ h
  · replace h := (if_neg z).symm.trans h
    refine aw_aload_n (pc := 123) 0 dX0_price_123 rfl ?_
    obtain ⟨v4, e, h⟩ := op_bd h
    refine ow_gR (pc := 124) e dX0_price_124 fd_X0_45 rfl ?_
    refine aw_iload_n (pc := 127) 3 dX0_price_127 rfl ?_
    obtain ⟨v5, e, h⟩ := op_bd h
    refine ow_aR (pc := 128) e dX0_price_128 (by decide) ?_
    refine aw_iload_n (pc := 129) 1 dX0_price_129 rfl ?_
    refine aw_bipush (pc := 130) (v := (13 : Int32)) dX0_price_130 (by decide) ?_
    refine aw_imul (pc := 132) dX0_price_132 ?_
    refine aw_iload (pc := 133) 4 dX0_price_133 rfl ?_
    refine aw_iadd (pc := 135) dX0_price_135 ?_
    refine aw_aload_n (pc := 136) 0 dX0_price_136 rfl ?_
    obtain ⟨v6, e, h⟩ := op_bd h
    refine ow_gR (pc := 137) e dX0_price_137 fd_X0_64 rfl ?_
    obtain ⟨v7, e, h⟩ := op_bd h
    refine ow_gR (pc := 140) e dX0_price_140 fd_X0_129 rfl ?_
    refine aw_iload_n (pc := 143) 2 dX0_price_143 rfl ?_
    refine aw_iload (pc := 144) 4 dX0_price_144 rfl ?_
    refine aw_aload_n (pc := 146) 0 dX0_price_146 rfl ?_
    obtain ⟨v8, e, h⟩ := op_bd h
    refine ow_gR (pc := 147) e dX0_price_147 fd_X0_64 rfl ?_
    refine aw_iload_n (pc := 150) 3 dX0_price_150 rfl ?_
    refine aw_iload (pc := 151) 4 dX0_price_151 rfl ?_
    obtain ⟨r9, e, h⟩ := op_bd h
    refine ow_cVi (pc := 153) [.int x3, .int x4] ((c_X9_rockyAt _ _ _ _ _ e).mono (by decide)) (op_ck_sh e) rfl dX0_price_153 cw_X0_145 rfl (Nat.le_of_ble_eq_true rfl) ?_
    obtain ⟨r10, e, h⟩ := op_bd h
    refine ow_cVl (pc := 156) [.int x2, .int x4, .int r9.1] ((c_X4_digs _ _ _ _ _ _ e).mono (by decide)) (op_ck_sh e) rfl dX0_price_156 cw_X0_149 rfl (Nat.le_of_ble_eq_true rfl) ?_
    obtain ⟨σ11, e, h⟩ := op_bd h
    refine ow_sL (pc := 159) e dX0_price_159 ?_
    refine aw_iinc (pc := 160) 4 [(4, .int (x4 + (1 : Int32))), (0, .ref x0), (1, .int x1), (2, .int x2), (3, .int x3)] (x4 + (1 : Int32)) dX0_price_160 rfl rfl (by decide) rfl ?_
    refine aw_goto (pc := 163) 109 dX0_price_163 (by decide) ?_
    refine aw_sub [1, 2, 3, 4, 0] rfl ?_
    exact hK109 _ _ _ _ _ _ _ h
theorem c_X0_price_109 {G : ah_G}  (K7 : Nat → Int32 → ah_H → Option (ah_H)) (hK7 : ∀ (x0 : Nat) (x1 : Int32) (σ : ah_H) (r : ah_H), K7 x0 x1 σ = some r → AW G m_X0_price 3 0 0 7 [(0, .ref x0), (1, .int x1)] [] σ (ah_N G (ah_rv r))) (K87 : Nat → Int32 → Int32 → Int32 → ah_H → Option (ah_H)) (hK87 : ∀ (x0 : Nat) (x1 : Int32) (x2 : Int32) (x3 : Int32) (σ : ah_H) (r : ah_H), K87 x0 x1 x2 x3 σ = some r → AW G m_X0_price 3 0 0 87 [(0, .ref x0), (1, .int x1), (2, .int x2), (3, .int x3)] [] σ (ah_N G (ah_rv r))) : ∀ (n : Nat) (x0 : Nat) (x1 : Int32) (x2 : Int32) (x3 : Int32) (x4 : Int32) (σ : ah_H) (r : ah_H), f_X0_price_109  K7 K87 n x0 x1 x2 x3 x4 σ = some r → AW G m_X0_price 3 0 0 109 [(0, .ref x0), (1, .int x1), (2, .int x2), (3, .int x3), (4, .int x4)] [] σ (ah_N G (ah_rv r)) := by
  intro n
  induction n with
  | zero => intro x0 x1 x2 x3 x4 σ r h; cases h
  | succ n ih => intro x0 x1 x2 x3 x4 σ r h; exact c_X0_price_109_b  K7 hK7 K87 hK87 _ ih x0 x1 x2 x3 x4 σ r h
set_option maxRecDepth 100000 in
set_option maxHeartbeats 4000000 in
theorem c_X0_price_172 {G : ah_G}  (K7 : Nat → Int32 → ah_H → Option (ah_H)) (hK7 : ∀ (x0 : Nat) (x1 : Int32) (σ : ah_H) (r : ah_H), K7 x0 x1 σ = some r → AW G m_X0_price 3 0 0 7 [(0, .ref x0), (1, .int x1)] [] σ (ah_N G (ah_rv r))) : ∀ (x0 : Nat) (x1 : Int32) (σ : ah_H) (r : ah_H), f_X0_price_172  K7 x0 x1 σ = some r → AW G m_X0_price 3 0 0 172 [(0, .ref x0), (1, .int x1)] [] σ (ah_N G (ah_rv r)) := by
  intro x0 x1 σ r h
  unfold f_X0_price_172 at h
  refine aw_iinc (pc := 172) 1 [(1, .int (x1 + (1 : Int32))), (0, .ref x0)] (x1 + (1 : Int32)) dX0_price_172 rfl rfl (by decide) rfl ?_
  refine aw_goto (pc := 175) 7 dX0_price_175 (by decide) ?_
  refine aw_sub [1, 0] rfl ?_
  exact hK7 _ _ _ _ h
set_option maxRecDepth 100000 in
set_option maxHeartbeats 4000000 in
theorem c_X0_price_87_b {G : ah_G}  (K7 : Nat → Int32 → ah_H → Option (ah_H)) (hK7 : ∀ (x0 : Nat) (x1 : Int32) (σ : ah_H) (r : ah_H), K7 x0 x1 σ = some r → AW G m_X0_price 3 0 0 7 [(0, .ref x0), (1, .int x1)] [] σ (ah_N G (ah_rv r))) (K87 : Nat → Int32 → Int32 → Int32 → ah_H → Option (ah_H)) (hK87 : ∀ (x0 : Nat) (x1 : Int32) (x2 : Int32) (x3 : Int32) (σ : ah_H) (r : ah_H), K87 x0 x1 x2 x3 σ = some r → AW G m_X0_price 3 0 0 87 [(0, .ref x0), (1, .int x1), (2, .int x2), (3, .int x3)] [] σ (ah_N G (ah_rv r))) : ∀ (x0 : Nat) (x1 : Int32) (x2 : Int32) (x3 : Int32) (σ : ah_H) (r : ah_H), f_X0_price_87_b  K7 K87 x0 x1 x2 x3 σ = some r → AW G m_X0_price 3 0 0 87 [(0, .ref x0), (1, .int x1), (2, .int x2), (3, .int x3)] [] σ (ah_N G (ah_rv r)) := by
  intro x0 x1 x2 x3 σ r h
  unfold f_X0_price_87_b at h
  refine aw_iload_n (pc := 87) 3 dX0_price_87 rfl ?_
  refine aw_aload_n (pc := 88) 0 dX0_price_88 rfl ?_
  obtain ⟨v1, e, h⟩ := op_bd h
  refine ow_gR (pc := 89) e dX0_price_89 fd_X0_64 rfl ?_
  obtain ⟨v2, e, h⟩ := op_bd h
  refine ow_gI (pc := 92) e dX0_price_92 fd_X0_139 rfl ?_
  refine aw_icmp_ge (pc := 95) 172 dX0_price_95 (by decide) (fun z => ?_) (fun z => ?_)
  · replace h := (if_pos z).symm.trans h
    refine aw_sub [0, 1] rfl ?_
    exact c_X0_price_172 K7 hK7 _ _ _ _ h
  · replace h := (if_neg z).symm.trans h
    refine aw_aload_n (pc := 98) 0 dX0_price_98 rfl ?_
    obtain ⟨v3, e, h⟩ := op_bd h
    refine ow_gR (pc := 99) e dX0_price_99 fd_X0_64 rfl ?_
    obtain ⟨v4, e, h⟩ := op_bd h
    refine ow_gR (pc := 102) e dX0_price_102 fd_X0_142 rfl ?_
    refine aw_iconst (pc := 105) (v := (0 : Int32)) dX0_price_105 (by decide) ?_
    obtain ⟨v5, e, h⟩ := op_bd h
    refine ow_aI (pc := 106) e dX0_price_106 ?_
    refine aw_istore (pc := 107) [(4, .int v5), (0, .ref x0), (1, .int x1), (2, .int x2), (3, .int x3)] dX0_price_107 (by decide) rfl ?_
    refine aw_sub [1, 2, 3, 4, 0] rfl ?_
    exact c_X0_price_109 K7 hK7 K87 hK87 _ _ _ _ _ _ _ _ h
theorem c_X0_price_87 {G : ah_G}  (K7 : Nat → Int32 → ah_H → Option (ah_H)) (hK7 : ∀ (x0 : Nat) (x1 : Int32) (σ : ah_H) (r : ah_H), K7 x0 x1 σ = some r → AW G m_X0_price 3 0 0 7 [(0, .ref x0), (1, .int x1)] [] σ (ah_N G (ah_rv r))) : ∀ (n : Nat) (x0 : Nat) (x1 : Int32) (x2 : Int32) (x3 : Int32) (σ : ah_H) (r : ah_H), f_X0_price_87  K7 n x0 x1 x2 x3 σ = some r → AW G m_X0_price 3 0 0 87 [(0, .ref x0), (1, .int x1), (2, .int x2), (3, .int x3)] [] σ (ah_N G (ah_rv r)) := by
  intro n
  induction n with
  | zero => intro x0 x1 x2 x3 σ r h; cases h
  | succ n ih => intro x0 x1 x2 x3 σ r h; exact c_X0_price_87_b  K7 hK7 _ ih x0 x1 x2 x3 σ r h
set_option maxRecDepth 100000 in
set_option maxHeartbeats 4000000 in
theorem c_X0_price_85 {G : ah_G}  (K7 : Nat → Int32 → ah_H → Option (ah_H)) (hK7 : ∀ (x0 : Nat) (x1 : Int32) (σ : ah_H) (r : ah_H), K7 x0 x1 σ = some r → AW G m_X0_price 3 0 0 7 [(0, .ref x0), (1, .int x1)] [] σ (ah_N G (ah_rv r))) : ∀ (x0 : Nat) (x1 : Int32) (x2 : Int32) (σ : ah_H) (r : ah_H), f_X0_price_85  K7 x0 x1 x2 σ = some r → AW G m_X0_price 3 0 0 85 [(0, .ref x0), (1, .int x1), (2, .int x2)] [] σ (ah_N G (ah_rv r)) := by
  intro x0 x1 x2 σ r h
  unfold f_X0_price_85 at h
  refine aw_iconst (pc := 85) (v := (0 : Int32)) dX0_price_85 (by decide) ?_
  refine aw_istore_n (pc := 86) [(3, .int (0 : Int32)), (0, .ref x0), (1, .int x1), (2, .int x2)] dX0_price_86 rfl (by decide) rfl ?_
  refine aw_sub [1, 2, 3, 0] rfl ?_
  exact c_X0_price_87 K7 hK7 _ _ _ _ _ _ _ h
set_option maxRecDepth 100000 in
set_option maxHeartbeats 4000000 in
theorem c_X0_price_40_b {G : ah_G}  (K7 : Nat → Int32 → ah_H → Option (ah_H)) (hK7 : ∀ (x0 : Nat) (x1 : Int32) (σ : ah_H) (r : ah_H), K7 x0 x1 σ = some r → AW G m_X0_price 3 0 0 7 [(0, .ref x0), (1, .int x1)] [] σ (ah_N G (ah_rv r))) (K40 : Nat → Int32 → Int32 → Int32 → ah_H → Option (ah_H)) (hK40 : ∀ (x0 : Nat) (x1 : Int32) (x2 : Int32) (x3 : Int32) (σ : ah_H) (r : ah_H), K40 x0 x1 x2 x3 σ = some r → AW G m_X0_price 3 0 0 40 [(0, .ref x0), (1, .int x1), (2, .int x2), (3, .int x3)] [] σ (ah_N G (ah_rv r))) : ∀ (x0 : Nat) (x1 : Int32) (x2 : Int32) (x3 : Int32) (σ : ah_H) (r : ah_H), f_X0_price_40_b  K7 K40 x0 x1 x2 x3 σ = some r → AW G m_X0_price 3 0 0 40 [(0, .ref x0), (1, .int x1), (2, .int x2), (3, .int x3)] [] σ (ah_N G (ah_rv r)) := by
  intro x0 x1 x2 x3 σ r h
  unfold f_X0_price_40_b at h
  refine aw_iload_n (pc := 40) 3 dX0_price_40 rfl ?_
  refine aw_aload_n (pc := 41) 0 dX0_price_41 rfl ?_
  obtain ⟨v1, e, h⟩ := op_bd h
  refine ow_gR (pc := 42) e dX0_price_42 fd_X0_64 rfl ?_
  obtain ⟨v2, e, h⟩ := op_bd h
  refine ow_gR (pc := 45) e dX0_price_45 fd_X0_126 rfl ?_
  refine aw_iconst (pc := 48) (v := (1 : Int32)) dX0_price_48 (by decide) ?_
  obtain ⟨v3, e, h⟩ := op_bd h
  refine ow_aI (pc := 49) e dX0_price_49 ?_
  refine aw_icmp_gt (pc := 50) 85 dX0_price_50 (by decide) (fun z => ?_) (fun z => ?_)
  · replace h := (if_pos z).symm.trans h
    refine aw_sub [0, 1, 2] rfl ?_
    exact c_X0_price_85 K7 hK7 _ _ _ _ _ h
  · replace h := (if_neg z).symm.trans h
    refine aw_iload_n (pc := 53) 3 dX0_price_53 rfl ?_
    refine aw_bipush (pc := 54) (v := (100 : Int32)) dX0_price_54 (by decide) ?_
    refine aw_icmp_ge (pc := 56) 85 dX0_price_56 (by decide) (fun z => ?_) (fun z => ?_)
    · replace h := (if_pos z).symm.trans h
      refine aw_sub [0, 1, 2] rfl ?_
      exact c_X0_price_85 K7 hK7 _ _ _ _ _ h
    · replace h := (if_neg z).symm.trans h
      refine aw_aload_n (pc := 59) 0 dX0_price_59 rfl ?_
      obtain ⟨v4, e, h⟩ := op_bd h
      refine ow_gR (pc := 60) e dX0_price_60 fd_X0_48 rfl ?_
      refine aw_iload_n (pc := 63) 1 dX0_price_63 rfl ?_
      obtain ⟨v5, e, h⟩ := op_bd h
      refine ow_aR (pc := 64) e dX0_price_64 (by decide) ?_
      refine aw_iload_n (pc := 65) 3 dX0_price_65 rfl ?_
      refine aw_aload_n (pc := 66) 0 dX0_price_66 rfl ?_
      obtain ⟨v6, e, h⟩ := op_bd h
      refine ow_gR (pc := 67) e dX0_price_67 fd_X0_64 rfl ?_
      obtain ⟨v7, e, h⟩ := op_bd h
      refine ow_gR (pc := 70) e dX0_price_70 fd_X0_129 rfl ?_
      refine aw_iload_n (pc := 73) 2 dX0_price_73 rfl ?_
      refine aw_iload_n (pc := 74) 3 dX0_price_74 rfl ?_
      obtain ⟨r8, e, h⟩ := op_bd h
      refine ow_cVl (pc := 75) [.int x2, .int x3] ((c_X4_carried _ _ _ _ _ e).mono (by decide)) (op_ck_sh e) rfl dX0_price_75 cw_X0_133 rfl (Nat.le_of_ble_eq_true rfl) ?_
      obtain ⟨σ9, e, h⟩ := op_bd h
      refine ow_sL (pc := 78) e dX0_price_78 ?_
      refine aw_iinc (pc := 79) 3 [(3, .int (x3 + (1 : Int32))), (0, .ref x0), (1, .int x1), (2, .int x2)] (x3 + (1 : Int32)) dX0_price_79 rfl rfl (by decide) rfl ?_
      refine aw_goto (pc := 82) 40 dX0_price_82 (by decide) ?_
      refine aw_sub [1, 2, 3, 0] rfl ?_
      exact hK40 _ _ _ _ _ _ h
theorem c_X0_price_40 {G : ah_G}  (K7 : Nat → Int32 → ah_H → Option (ah_H)) (hK7 : ∀ (x0 : Nat) (x1 : Int32) (σ : ah_H) (r : ah_H), K7 x0 x1 σ = some r → AW G m_X0_price 3 0 0 7 [(0, .ref x0), (1, .int x1)] [] σ (ah_N G (ah_rv r))) : ∀ (n : Nat) (x0 : Nat) (x1 : Int32) (x2 : Int32) (x3 : Int32) (σ : ah_H) (r : ah_H), f_X0_price_40  K7 n x0 x1 x2 x3 σ = some r → AW G m_X0_price 3 0 0 40 [(0, .ref x0), (1, .int x1), (2, .int x2), (3, .int x3)] [] σ (ah_N G (ah_rv r)) := by
  intro n
  induction n with
  | zero => intro x0 x1 x2 x3 σ r h; cases h
  | succ n ih => intro x0 x1 x2 x3 σ r h; exact c_X0_price_40_b  K7 hK7 _ ih x0 x1 x2 x3 σ r h
set_option maxRecDepth 100000 in
set_option maxHeartbeats 4000000 in
theorem c_X0_price_7_b {G : ah_G}  (K7 : Nat → Int32 → ah_H → Option (ah_H)) (hK7 : ∀ (x0 : Nat) (x1 : Int32) (σ : ah_H) (r : ah_H), K7 x0 x1 σ = some r → AW G m_X0_price 3 0 0 7 [(0, .ref x0), (1, .int x1)] [] σ (ah_N G (ah_rv r))) : ∀ (x0 : Nat) (x1 : Int32) (σ : ah_H) (r : ah_H), f_X0_price_7_b  K7 x0 x1 σ = some r → AW G m_X0_price 3 0 0 7 [(0, .ref x0), (1, .int x1)] [] σ (ah_N G (ah_rv r)) := by
  intro x0 x1 σ r h
  unfold f_X0_price_7_b at h
  refine aw_iload_n (pc := 7) 1 dX0_price_7 rfl ?_
  refine aw_aload_n (pc := 8) 0 dX0_price_8 rfl ?_
  obtain ⟨v1, e, h⟩ := op_bd h
  refine ow_gR (pc := 9) e dX0_price_9 fd_X0_64 rfl ?_
  obtain ⟨v2, e, h⟩ := op_bd h
  refine ow_gI (pc := 12) e dX0_price_12 fd_X0_119 rfl ?_
  refine aw_icmp_ge (pc := 15) 178 dX0_price_15 (by decide) (fun z => ?_) (fun z => ?_)
  · replace h := (if_pos z).symm.trans h
    exact ow_vret (pc := 178) h dX0_price_178 rfl
  · replace h := (if_neg z).symm.trans h
    refine aw_aload_n (pc := 18) 0 dX0_price_18 rfl ?_
    obtain ⟨v3, e, h⟩ := op_bd h
    refine ow_gR (pc := 19) e dX0_price_19 fd_X0_64 rfl ?_
    obtain ⟨v4, e, h⟩ := op_bd h
    refine ow_gR (pc := 22) e dX0_price_22 fd_X0_122 rfl ?_
    refine aw_iload_n (pc := 25) 1 dX0_price_25 rfl ?_
    obtain ⟨v5, e, h⟩ := op_bd h
    refine ow_aR (pc := 26) e dX0_price_26 (by decide) ?_
    refine aw_iconst (pc := 27) (v := (0 : Int32)) dX0_price_27 (by decide) ?_
    obtain ⟨v6, e, h⟩ := op_bd h
    refine ow_aI (pc := 28) e dX0_price_28 ?_
    refine aw_istore_n (pc := 29) [(2, .int v6), (0, .ref x0), (1, .int x1)] dX0_price_29 rfl (by decide) rfl ?_
    refine aw_aload_n (pc := 30) 1 dX0_price_30 rfl ?_
    obtain ⟨v7, e, h⟩ := op_bd h
    refine ow_gR (pc := 31) e dX0_price_31 fd_X0_64 rfl ?_
    obtain ⟨v8, e, h⟩ := op_bd h
    refine ow_gR (pc := 34) e dX0_price_34 fd_X0_126 rfl ?_
    refine aw_iconst (pc := 37) (v := (0 : Int32)) dX0_price_37 (by decide) ?_
    obtain ⟨v9, e, h⟩ := op_bd h
    refine ow_aI (pc := 38) e dX0_price_38 ?_
    refine aw_istore_n (pc := 39) [(3, .int v9), (2, .int v6), (0, .ref x0), (1, .int x1)] dX0_price_39 rfl (by decide) rfl ?_
    refine aw_sub [2, 3, 1, 0] rfl ?_
    exact c_X0_price_40 K7 hK7 _ _ _ _ _ _ _ h
theorem c_X0_price_7 {G : ah_G}   : ∀ (n : Nat) (x0 : Nat) (x1 : Int32) (σ : ah_H) (r : ah_H), f_X0_price_7   n x0 x1 σ = some r → AW G m_X0_price 3 0 0 7 [(0, .ref x0), (1, .int x1)] [] σ (ah_N G (ah_rv r)) := by
  intro n
  induction n with
  | zero => intro x0 x1 σ r h; cases h
  | succ n ih => intro x0 x1 σ r h; exact c_X0_price_7_b   _ ih x0 x1 σ r h
set_option maxRecDepth 100000 in
set_option maxHeartbeats 4000000 in
theorem c_X0_price_0 {G : ah_G}   : ∀ (x0 : Nat) (σ : ah_H) (r : ah_H), f_X0_price_0   x0 σ = some r → AW G m_X0_price 3 0 0 0 [(0, .ref x0)] [] σ (ah_N G (ah_rv r)) := by
  intro x0 σ r h
  unfold f_X0_price_0 at h
  refine aw_aload_n (pc := 0) 0 dX0_price_0 rfl ?_
  refine aw_iconst (pc := 1) (v := (1 : Int32)) dX0_price_1 (by decide) ?_
  obtain ⟨σ1, e, h⟩ := op_bd h
  refine ow_pZ (pc := 2) e dX0_price_2 fd_X0_68 ?_
  refine aw_iconst (pc := 5) (v := (0 : Int32)) dX0_price_5 (by decide) ?_
  refine aw_istore_n (pc := 6) [(1, .int (0 : Int32)), (0, .ref x0)] dX0_price_6 rfl (by decide) rfl ?_
  refine aw_sub [1, 0] rfl ?_
  exact c_X0_price_7  _ _ _ _ _ h
theorem c_X0_price {G : ah_G}   (x0 : Nat) (σ : ah_H) (r : ah_H) (h : f_X0_price  x0 σ = some r) : AM G m_X0_price 3 0 0 [.ref x0] σ (ah_rv r) := aw_enter (by decide) (Nat.le_of_ble_eq_true rfl) (c_X0_price_0 _ _ _ (op_ck_k h))
def f_X4_pumps_0   (x0 : Nat) (x1 : Int32) (x2 : Int64) (σ : ah_H) : Option (Int64 × ah_H) :=
  (f_X4_isTold x0 (2 : Int32) σ).bind fun r1 => if r1.1 = 0 then (some ((0 : Int64), r1.2)) else ((op_gR 4 6 r1.2 x0).bind fun v2 => (f_J7_fill_d0a16 v2 (0 : Int64) r1.2).bind fun r3 => (op_gR 4 6 r3 x0).bind fun v4 => (op_sL r3 v4 (4 : Int32) (Int32.toInt64 x1)).bind fun σ5 => (op_gR 4 6 σ5 x0).bind fun v6 => (op_sL σ5 v6 (5 : Int32) x2).bind fun σ7 => (f_X4_work x0 (2 : Int32) σ7).bind fun r8 => if (lg_cmp r8.1 (-9223372036854775808 : Int64)) = 0 then (some ((9999 : Int64), r8.2)) else (some ((op_maxl (0 : Int64) r8.1), r8.2)))
def f_X4_pumps  (x0 : Nat) (x1 : Int32) (x2 : Int64) (σ : ah_H) : Option (Int64 × ah_H) := op_ck 4 σ x0 (f_X4_pumps_0 x0 x1 x2 σ)
set_option maxRecDepth 100000 in
set_option maxHeartbeats 4000000 in
theorem c_X4_pumps_0 {G : ah_G}   : ∀ (x0 : Nat) (x1 : Int32) (x2 : Int64) (σ : ah_H) (r : Int64 × ah_H), f_X4_pumps_0   x0 x1 x2 σ = some r → AW G m_X4_pumps 2 0 0 0 [(0, .ref x0), (1, .int x1), (2, .long x2)] [] σ (ah_N G (ah_rl r)) := by
  intro x0 x1 x2 σ r h
  unfold f_X4_pumps_0 at h
  refine aw_aload_n (pc := 0) 0 dX4_pumps_0 rfl ?_
  refine aw_iconst (pc := 1) (v := (2 : Int32)) dX4_pumps_1 (by decide) ?_
  obtain ⟨r1, e, h⟩ := op_bd h
  refine ow_cVi (pc := 2) [.int (2 : Int32)] ((c_X4_isTold _ _ _ _ e).mono (by decide)) (op_ck_sh e) rfl dX4_pumps_2 cw_X4_44 rfl (Nat.le_of_ble_eq_true rfl) ?_
  refine aw_if_ne (pc := 5) 10 dX4_pumps_5 (by decide) (fun z => ?_) (fun z => ?_)
  · replace h := (if_neg z).symm.trans h
    refine aw_aload_n (pc := 10) 0 dX4_pumps_10 rfl ?_
    obtain ⟨v2, e, h⟩ := op_bd h
    refine ow_gR (pc := 11) e dX4_pumps_11 fd_X4_24 rfl ?_
    refine aw_lconst (pc := 14) (v := (0 : Int64)) dX4_pumps_14 (by decide) ?_
    obtain ⟨r3, e, h⟩ := op_bd h
    refine ow_cSv (pc := 15) [.ref v2, .long (0 : Int64)] ((c_J7_fill_d0a16 _ _ _ _ e).mono (by decide)) rfl dX4_pumps_15 cw_X4_54 rfl (Nat.le_of_ble_eq_true rfl) ?_
    refine aw_aload_n (pc := 18) 0 dX4_pumps_18 rfl ?_
    obtain ⟨v4, e, h⟩ := op_bd h
    refine ow_gR (pc := 19) e dX4_pumps_19 fd_X4_24 rfl ?_
    refine aw_iconst (pc := 22) (v := (4 : Int32)) dX4_pumps_22 (by decide) ?_
    refine aw_iload_n (pc := 23) 1 dX4_pumps_23 rfl ?_
    refine aw_i2l (pc := 24) dX4_pumps_24 ?_
    obtain ⟨σ5, e, h⟩ := op_bd h
    refine ow_sL (pc := 25) e dX4_pumps_25 ?_
    refine aw_aload_n (pc := 26) 0 dX4_pumps_26 rfl ?_
    obtain ⟨v6, e, h⟩ := op_bd h
    refine ow_gR (pc := 27) e dX4_pumps_27 fd_X4_24 rfl ?_
    refine aw_iconst (pc := 30) (v := (5 : Int32)) dX4_pumps_30 (by decide) ?_
    refine aw_lload_n (pc := 31) 2 dX4_pumps_31 rfl ?_
    obtain ⟨σ7, e, h⟩ := op_bd h
    refine ow_sL (pc := 32) e dX4_pumps_32 ?_
    refine aw_aload_n (pc := 33) 0 dX4_pumps_33 rfl ?_
    refine aw_iconst (pc := 34) (v := (2 : Int32)) dX4_pumps_34 (by decide) ?_
    obtain ⟨r8, e, h⟩ := op_bd h
    refine ow_cVl (pc := 35) [.int (2 : Int32)] ((c_X4_work _ _ _ _ e).mono (by decide)) (op_ck_sh e) rfl dX4_pumps_35 cw_X4_57 rfl (Nat.le_of_ble_eq_true rfl) ?_
    refine aw_lstore (pc := 38) [(4, .long r8.1), (0, .ref x0), (1, .int x1), (2, .long x2)] dX4_pumps_38 (by decide) rfl ?_
    refine aw_lload (pc := 40) 0 dX4_pumps_40 rfl ?_
    refine aw_ldc2 (pc := 42) dX4_pumps_42 kl_X4_61 ?_
    refine aw_lcmp (pc := 45) dX4_pumps_45 ?_
    refine aw_if_ne (pc := 46) 55 dX4_pumps_46 (by decide) (fun z => ?_) (fun z => ?_)
    · replace h := (if_neg z).symm.trans h
      refine aw_lconst (pc := 55) (v := (0 : Int64)) dX4_pumps_55 (by decide) ?_
      refine aw_lload (pc := 56) 0 dX4_pumps_56 rfl ?_
      refine ow_maxl (pc := 58) dX4_pumps_58 mt_X4_48 (Nat.le_of_ble_eq_true rfl) ?_
      exact ow_lret (pc := 61) h dX4_pumps_61 rfl
    · replace h := (if_pos z).symm.trans h
      refine aw_ldc2 (pc := 49) dX4_pumps_49 kl_X4_63 ?_
      refine aw_goto (pc := 52) 61 dX4_pumps_52 (by decide) ?_
      exact ow_lret (pc := 61) h dX4_pumps_61 rfl
  · replace h := (if_pos z).symm.trans h
    refine aw_lconst (pc := 8) (v := (0 : Int64)) dX4_pumps_8 (by decide) ?_
    exact ow_lret (pc := 9) h dX4_pumps_9 rfl
theorem c_X4_pumps {G : ah_G}   (x0 : Nat) (x1 : Int32) (x2 : Int64) (σ : ah_H) (r : Int64 × ah_H) (h : f_X4_pumps  x0 x1 x2 σ = some r) : AM G m_X4_pumps 2 0 0 [.ref x0, .int x1, .long x2] σ (ah_rl r) := aw_enter (by decide) (Nat.le_of_ble_eq_true rfl) (c_X4_pumps_0 _ _ _ _ _ (op_ck_k h))
def f_X0_priceLifts_2_b  (K2 : Nat → Int32 → Int32 → ah_H → Option (ah_H)) (x0 : Nat) (x1 : Int32) (x2 : Int32) (σ : ah_H) : Option (ah_H) :=
  if (13 : Int32) ≤ x2 then (some σ) else ((op_gI 0 8 σ x0).bind fun v1 => if v1 ≤ 0 then (some σ) else ((op_gR 0 13 σ x0).bind fun v2 => (op_gR 0 17 σ x0).bind fun v3 => (op_gR 9 15 σ v3).bind fun v4 => (op_gR 0 2 σ x0).bind fun v5 => (f_X1_greatest v5 x1 σ).bind fun r6 => (f_X4_pumps v4 x2 r6.1 r6.2).bind fun r7 => (op_sL r7.2 v2 x2 r7.1).bind fun σ8 => K2 x0 x1 (x2 + (1 : Int32)) σ8))
def f_X0_priceLifts_2   : Nat → Nat → Int32 → Int32 → ah_H → Option (ah_H)
  | 0, _, _, _, _ => none
  | n + 1, x0, x1, x2, σ => f_X0_priceLifts_2_b (f_X0_priceLifts_2 n) x0 x1 x2 σ
def f_X0_priceLifts_0   (x0 : Nat) (x1 : Int32) (σ : ah_H) : Option (ah_H) :=
  f_X0_priceLifts_2 5000 x0 x1 (1 : Int32) σ
def f_X0_priceLifts  (x0 : Nat) (x1 : Int32) (σ : ah_H) : Option (ah_H) := op_ck 0 σ x0 (f_X0_priceLifts_0 x0 x1 σ)
set_option maxRecDepth 100000 in
set_option maxHeartbeats 4000000 in
theorem c_X0_priceLifts_2_b {G : ah_G}  (K2 : Nat → Int32 → Int32 → ah_H → Option (ah_H)) (hK2 : ∀ (x0 : Nat) (x1 : Int32) (x2 : Int32) (σ : ah_H) (r : ah_H), K2 x0 x1 x2 σ = some r → AW G m_X0_priceLifts 3 0 0 2 [(0, .ref x0), (1, .int x1), (2, .int x2)] [] σ (ah_N G (ah_rv r))) : ∀ (x0 : Nat) (x1 : Int32) (x2 : Int32) (σ : ah_H) (r : ah_H), f_X0_priceLifts_2_b  K2 x0 x1 x2 σ = some r → AW G m_X0_priceLifts 3 0 0 2 [(0, .ref x0), (1, .int x1), (2, .int x2)] [] σ (ah_N G (ah_rv r)) := by
  intro x0 x1 x2 σ r h
  unfold f_X0_priceLifts_2_b at h
  refine aw_iload_n (pc := 2) 2 dX0_priceLifts_2 rfl ?_
  refine aw_bipush (pc := 3) (v := (13 : Int32)) dX0_priceLifts_3 (by decide) ?_
  refine aw_icmp_ge (pc := 5) 46 dX0_priceLifts_5 (by decide) (fun z => ?_) (fun z => ?_)
  · replace h := (if_pos z).symm.trans h
    exact ow_vret (pc := 46) h dX0_priceLifts_46 rfl
  · replace h := (if_neg z).symm.trans h
    refine aw_aload_n (pc := 8) 0 dX0_priceLifts_8 rfl ?_
    obtain ⟨v1, e, h⟩ := op_bd h
    refine ow_gI (pc := 9) e dX0_priceLifts_9 fd_X0_163 rfl ?_
    refine aw_if_le (pc := 12) 46 dX0_priceLifts_12 (by decide) (fun z => ?_) (fun z => ?_)
    · replace h := (if_pos z).symm.trans h
      exact ow_vret (pc := 46) h dX0_priceLifts_46 rfl
    · replace h := (if_neg z).symm.trans h
      refine aw_aload_n (pc := 15) 0 dX0_priceLifts_15 rfl ?_
      obtain ⟨v2, e, h⟩ := op_bd h
      refine ow_gR (pc := 16) e dX0_priceLifts_16 fd_X0_42 rfl ?_
      refine aw_iload_n (pc := 19) 2 dX0_priceLifts_19 rfl ?_
      refine aw_aload_n (pc := 20) 0 dX0_priceLifts_20 rfl ?_
      obtain ⟨v3, e, h⟩ := op_bd h
      refine ow_gR (pc := 21) e dX0_priceLifts_21 fd_X0_64 rfl ?_
      obtain ⟨v4, e, h⟩ := op_bd h
      refine ow_gR (pc := 24) e dX0_priceLifts_24 fd_X0_129 rfl ?_
      refine aw_iload_n (pc := 27) 2 dX0_priceLifts_27 rfl ?_
      refine aw_aload_n (pc := 28) 0 dX0_priceLifts_28 rfl ?_
      obtain ⟨v5, e, h⟩ := op_bd h
      refine ow_gR (pc := 29) e dX0_priceLifts_29 fd_X0_56 rfl ?_
      refine aw_iload_n (pc := 32) 1 dX0_priceLifts_32 rfl ?_
      obtain ⟨r6, e, h⟩ := op_bd h
      refine ow_cVl (pc := 33) [.int x1] ((c_X1_greatest _ _ _ _ e).mono (by decide)) (op_ck_sh e) rfl dX0_priceLifts_33 cw_X0_166 rfl (Nat.le_of_ble_eq_true rfl) ?_
      obtain ⟨r7, e, h⟩ := op_bd h
      refine ow_cVl (pc := 36) [.int x2, .long r6.1] ((c_X4_pumps _ _ _ _ _ e).mono (by decide)) (op_ck_sh e) rfl dX0_priceLifts_36 cw_X0_170 rfl (Nat.le_of_ble_eq_true rfl) ?_
      obtain ⟨σ8, e, h⟩ := op_bd h
      refine ow_sL (pc := 39) e dX0_priceLifts_39 ?_
      refine aw_iinc (pc := 40) 2 [(2, .int (x2 + (1 : Int32))), (0, .ref x0), (1, .int x1)] (x2 + (1 : Int32)) dX0_priceLifts_40 rfl rfl (by decide) rfl ?_
      refine aw_goto (pc := 43) 2 dX0_priceLifts_43 (by decide) ?_
      refine aw_sub [1, 2, 0] rfl ?_
      exact hK2 _ _ _ _ _ h
theorem c_X0_priceLifts_2 {G : ah_G}   : ∀ (n : Nat) (x0 : Nat) (x1 : Int32) (x2 : Int32) (σ : ah_H) (r : ah_H), f_X0_priceLifts_2   n x0 x1 x2 σ = some r → AW G m_X0_priceLifts 3 0 0 2 [(0, .ref x0), (1, .int x1), (2, .int x2)] [] σ (ah_N G (ah_rv r)) := by
  intro n
  induction n with
  | zero => intro x0 x1 x2 σ r h; cases h
  | succ n ih => intro x0 x1 x2 σ r h; exact c_X0_priceLifts_2_b   _ ih x0 x1 x2 σ r h
set_option maxRecDepth 100000 in
set_option maxHeartbeats 4000000 in
theorem c_X0_priceLifts_0 {G : ah_G}   : ∀ (x0 : Nat) (x1 : Int32) (σ : ah_H) (r : ah_H), f_X0_priceLifts_0   x0 x1 σ = some r → AW G m_X0_priceLifts 3 0 0 0 [(0, .ref x0), (1, .int x1)] [] σ (ah_N G (ah_rv r)) := by
  intro x0 x1 σ r h
  unfold f_X0_priceLifts_0 at h
  refine aw_iconst (pc := 0) (v := (1 : Int32)) dX0_priceLifts_0 (by decide) ?_
  refine aw_istore_n (pc := 1) [(2, .int (1 : Int32)), (0, .ref x0), (1, .int x1)] dX0_priceLifts_1 rfl (by decide) rfl ?_
  refine aw_sub [1, 2, 0] rfl ?_
  exact c_X0_priceLifts_2  _ _ _ _ _ _ h
theorem c_X0_priceLifts {G : ah_G}   (x0 : Nat) (x1 : Int32) (σ : ah_H) (r : ah_H) (h : f_X0_priceLifts  x0 x1 σ = some r) : AM G m_X0_priceLifts 3 0 0 [.ref x0, .int x1] σ (ah_rv r) := aw_enter (by decide) (Nat.le_of_ble_eq_true rfl) (c_X0_priceLifts_0 _ _ _ _ (op_ck_k h))
