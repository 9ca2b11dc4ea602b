def f_X12_streetLine_151   (x0 : Nat) (σ : ah_H) : Option (ah_H) :=
  (f_X12_fresher x0 (1 : Int32) σ).bind fun r1 => (f_X12_reads x0 (1 : Int32) (r1.1 + (1 : Int32)) r1.2).bind fun r2 => some r2
def f_X12_streetLine_125   (x0 : Nat) (x1 : Int32) (σ : ah_H) : Option (ah_H) :=
  (f_X12_isWord x0 (11 : Int32) σ).bind fun r1 => if r1.1 = 0 then (f_X12_streetLine_151 x0 r1.2) else ((f_X12_token x0 r1.2).bind fun r2 => (op_gR 12 12 r2 x0).bind fun v3 => (f_X12_numeral x0 (0 : Int32) (99 : Int32) r2).bind fun r4 => (op_sI r4.2 v3 x1 r4.1).bind fun σ5 => f_X12_streetLine_151 x0 σ5)
def f_X12_streetLine_55   (x0 : Nat) (x1 : Int32) (x2 : Int32) (x3 : Int32) (σ : ah_H) : Option (ah_H) :=
  (f_X12_goOn x0 σ).bind fun r1 => (op_gR 12 8 r1 x0).bind fun v2 => (op_sI r1 v2 x1 x2).bind fun σ3 => (op_gR 12 9 σ3 x0).bind fun v4 => (op_sI σ3 v4 x1 x3).bind fun σ5 => (op_gR 12 10 σ5 x0).bind fun v6 => (f_X12_numeral x0 (1 : Int32) (99 : Int32) σ5).bind fun r7 => (op_sI r7.2 v6 x1 r7.1).bind fun σ8 => (op_gR 12 11 σ8 x0).bind fun v9 => (op_sI σ8 v9 x1 (0 : Int32)).bind fun σ10 => (op_gR 12 12 σ10 x0).bind fun v11 => (op_sI σ10 v11 x1 (1 : Int32)).bind fun σ12 => (f_X12_isWord x0 (10 : Int32) σ12).bind fun r13 => if r13.1 = 0 then (f_X12_streetLine_125 x0 x1 r13.2) else ((f_X12_token x0 r13.2).bind fun r14 => (op_gR 12 11 r14 x0).bind fun v15 => (f_X12_numeral x0 (0 : Int32) (3 : Int32) r14).bind fun r16 => (op_sI r16.2 v15 x1 r16.1).bind fun σ17 => f_X12_streetLine_125 x0 x1 σ17)
def f_X12_streetLine_38   (x0 : Nat) (x1 : Int32) (x2 : Int32) (x3 : Int32) (σ : ah_H) : Option (ah_H) :=
  (op_gI 12 29 σ x0).bind fun v1 => if v1 = 0 then (if x2 = x3 then ((f_X12_wrong x0 (5 : Int32) σ).bind fun r2 => f_X12_streetLine_55 x0 x1 x2 x3 r2) else (f_X12_streetLine_55 x0 x1 x2 x3 σ)) else (f_X12_streetLine_55 x0 x1 x2 x3 σ)
def f_X12_streetLine_0   (x0 : Nat) (x1 : Int32) (σ : ah_H) : Option (ah_H) :=
  (f_X12_corner x0 σ).bind fun r1 => (f_X12_goOn x0 r1.2).bind fun r2 => (f_X12_corner x0 r2).bind fun r3 => (op_gI 12 29 r3.2 x0).bind fun v4 => if v4 = 0 then ((f_X12_hasStreet x0 r1.1 r3.1 r3.2).bind fun r5 => if r5.1 = 0 then (f_X12_streetLine_38 x0 x1 r1.1 r3.1 r5.2) else ((f_X12_wrong x0 (3 : Int32) r5.2).bind fun r6 => f_X12_streetLine_55 x0 x1 r1.1 r3.1 r6)) else (f_X12_streetLine_38 x0 x1 r1.1 r3.1 r3.2)
def f_X12_streetLine  (x0 : Nat) (x1 : Int32) (σ : ah_H) : Option (ah_H) := op_ck 12 σ x0 (f_X12_streetLine_0 x0 x1 σ)
set_option maxRecDepth 100000 in
set_option maxHeartbeats 4000000 in
theorem c_X12_streetLine_151 {G : ah_G}   : ∀ (x0 : Nat) (σ : ah_H) (r : ah_H), f_X12_streetLine_151   x0 σ = some r → AW G m_X12_streetLine 7 0 0 151 [(0, .ref x0)] [] σ (ah_N G (ah_rv r)) := by
  intro x0 σ r h
  unfold f_X12_streetLine_151 at h
  refine aw_aload_n (pc := 151) 0 dX12_streetLine_151 rfl ?_
  refine aw_iconst (pc := 152) (v := (1 : Int32)) dX12_streetLine_152 (by decide) ?_
  refine aw_aload_n (pc := 153) 0 dX12_streetLine_153 rfl ?_
  refine aw_iconst (pc := 154) (v := (1 : Int32)) dX12_streetLine_154 (by decide) ?_
  obtain ⟨r1, e, h⟩ := op_bd h
  refine ow_cVi (pc := 155) [.int (1 : Int32)] ((c_X12_fresher _ _ _ _ e).mono (by decide)) (op_ck_sh e) rfl dX12_streetLine_155 cw_X12_221 rfl (Nat.le_of_ble_eq_true rfl) ?_
  refine aw_iconst (pc := 158) (v := (1 : Int32)) dX12_streetLine_158 (by decide) ?_
  refine aw_iadd (pc := 159) dX12_streetLine_159 ?_
  obtain ⟨r2, e, h⟩ := op_bd h
  refine ow_cVv (pc := 160) [.int (1 : Int32), .int (r1.1 + (1 : Int32))] ((c_X12_reads _ _ _ _ _ e).mono (by decide)) (op_ck_sh e) rfl dX12_streetLine_160 cw_X12_240 rfl (Nat.le_of_ble_eq_true rfl) ?_
  exact ow_vret (pc := 163) h dX12_streetLine_163 rfl
set_option maxRecDepth 100000 in
set_option maxHeartbeats 4000000 in
theorem c_X12_streetLine_125 {G : ah_G}   : ∀ (x0 : Nat) (x1 : Int32) (σ : ah_H) (r : ah_H), f_X12_streetLine_125   x0 x1 σ = some r → AW G m_X12_streetLine 7 0 0 125 [(0, .ref x0), (1, .int x1)] [] σ (ah_N G (ah_rv r)) := by
  intro x0 x1 σ r h
  unfold f_X12_streetLine_125 at h
  refine aw_aload_n (pc := 125) 0 dX12_streetLine_125 rfl ?_
  refine aw_bipush (pc := 126) (v := (11 : Int32)) dX12_streetLine_126 (by decide) ?_
  obtain ⟨r1, e, h⟩ := op_bd h
  refine ow_cVi (pc := 128) [.int (11 : Int32)] ((c_X12_isWord _ _ _ _ e).mono (by decide)) (op_ck_sh e) rfl dX12_streetLine_128 cw_X12_273 rfl (Nat.le_of_ble_eq_true rfl) ?_
  refine aw_if_eq (pc := 131) 151 dX12_streetLine_131 (by decide) (fun z => ?_) (fun z => ?_)
  · replace h := (if_pos z).symm.trans h
    refine aw_sub [0] rfl ?_
    exact c_X12_streetLine_151  _ _ _ h
  · replace h := (if_neg z).symm.trans h
    refine aw_aload_n (pc := 134) 0 dX12_streetLine_134 rfl ?_
    obtain ⟨r2, e, h⟩ := op_bd h
    refine ow_cVv (pc := 135) [] ((c_X12_token _ _ _ e).mono (by decide)) (op_ck_sh e) rfl dX12_streetLine_135 cw_X12_211 rfl (Nat.le_of_ble_eq_true rfl) ?_
    refine aw_aload_n (pc := 138) 0 dX12_streetLine_138 rfl ?_
    obtain ⟨v3, e, h⟩ := op_bd h
    refine ow_gR (pc := 139) e dX12_streetLine_139 fd_X12_42 rfl ?_
    refine aw_iload_n (pc := 142) 1 dX12_streetLine_142 rfl ?_
    refine aw_aload_n (pc := 143) 0 dX12_streetLine_143 rfl ?_
    refine aw_iconst (pc := 144) (v := (0 : Int32)) dX12_streetLine_144 (by decide) ?_
    refine aw_bipush (pc := 145) (v := (99 : Int32)) dX12_streetLine_145 (by decide) ?_
    obtain ⟨r4, e, h⟩ := op_bd h
    refine ow_cVi (pc := 147) [.int (0 : Int32), .int (99 : Int32)] ((c_X12_numeral _ _ _ _ _ e).mono (by decide)) (op_ck_sh e) rfl dX12_streetLine_147 cw_X12_247 rfl (Nat.le_of_ble_eq_true rfl) ?_
    obtain ⟨σ5, e, h⟩ := op_bd h
    refine ow_sI (pc := 150) e dX12_streetLine_150 ?_
    refine aw_sub [0] rfl ?_
    exact c_X12_streetLine_151  _ _ _ h
set_option maxRecDepth 100000 in
set_option maxHeartbeats 4000000 in
theorem c_X12_streetLine_55 {G : ah_G}   : ∀ (x0 : Nat) (x1 : Int32) (x2 : Int32) (x3 : Int32) (σ : ah_H) (r : ah_H), f_X12_streetLine_55   x0 x1 x2 x3 σ = some r → AW G m_X12_streetLine 7 0 0 55 [(0, .ref x0), (1, .int x1), (2, .int x2), (3, .int x3)] [] σ (ah_N G (ah_rv r)) := by
  intro x0 x1 x2 x3 σ r h
  unfold f_X12_streetLine_55 at h
  refine aw_aload_n (pc := 55) 0 dX12_streetLine_55 rfl ?_
  obtain ⟨r1, e, h⟩ := op_bd h
  refine ow_cVv (pc := 56) [] ((c_X12_goOn _ _ _ e).mono (by decide)) (op_ck_sh e) rfl dX12_streetLine_56 cw_X12_244 rfl (Nat.le_of_ble_eq_true rfl) ?_
  refine aw_aload_n (pc := 59) 0 dX12_streetLine_59 rfl ?_
  obtain ⟨v2, e, h⟩ := op_bd h
  refine ow_gR (pc := 60) e dX12_streetLine_60 fd_X12_30 rfl ?_
  refine aw_iload_n (pc := 63) 1 dX12_streetLine_63 rfl ?_
  refine aw_iload_n (pc := 64) 2 dX12_streetLine_64 rfl ?_
  obtain ⟨σ3, e, h⟩ := op_bd h
  refine ow_sI (pc := 65) e dX12_streetLine_65 ?_
  refine aw_aload_n (pc := 66) 0 dX12_streetLine_66 rfl ?_
  obtain ⟨v4, e, h⟩ := op_bd h
  refine ow_gR (pc := 67) e dX12_streetLine_67 fd_X12_33 rfl ?_
  refine aw_iload_n (pc := 70) 1 dX12_streetLine_70 rfl ?_
  refine aw_iload_n (pc := 71) 3 dX12_streetLine_71 rfl ?_
  obtain ⟨σ5, e, h⟩ := op_bd h
  refine ow_sI (pc := 72) e dX12_streetLine_72 ?_
  refine aw_aload_n (pc := 73) 0 dX12_streetLine_73 rfl ?_
  obtain ⟨v6, e, h⟩ := op_bd h
  refine ow_gR (pc := 74) e dX12_streetLine_74 fd_X12_36 rfl ?_
  refine aw_iload_n (pc := 77) 1 dX12_streetLine_77 rfl ?_
  refine aw_aload_n (pc := 78) 0 dX12_streetLine_78 rfl ?_
  refine aw_iconst (pc := 79) (v := (1 : Int32)) dX12_streetLine_79 (by decide) ?_
  refine aw_bipush (pc := 80) (v := (99 : Int32)) dX12_streetLine_80 (by decide) ?_
  obtain ⟨r7, e, h⟩ := op_bd h
  refine ow_cVi (pc := 82) [.int (1 : Int32), .int (99 : Int32)] ((c_X12_numeral _ _ _ _ _ e).mono (by decide)) (op_ck_sh e) rfl dX12_streetLine_82 cw_X12_247 rfl (Nat.le_of_ble_eq_true rfl) ?_
  obtain ⟨σ8, e, h⟩ := op_bd h
  refine ow_sI (pc := 85) e dX12_streetLine_85 ?_
  refine aw_aload_n (pc := 86) 0 dX12_streetLine_86 rfl ?_
  obtain ⟨v9, e, h⟩ := op_bd h
  refine ow_gR (pc := 87) e dX12_streetLine_87 fd_X12_39 rfl ?_
  refine aw_iload_n (pc := 90) 1 dX12_streetLine_90 rfl ?_
  refine aw_iconst (pc := 91) (v := (0 : Int32)) dX12_streetLine_91 (by decide) ?_
  obtain ⟨σ10, e, h⟩ := op_bd h
  refine ow_sI (pc := 92) e dX12_streetLine_92 ?_
  refine aw_aload_n (pc := 93) 0 dX12_streetLine_93 rfl ?_
  obtain ⟨v11, e, h⟩ := op_bd h
  refine ow_gR (pc := 94) e dX12_streetLine_94 fd_X12_42 rfl ?_
  refine aw_iload_n (pc := 97) 1 dX12_streetLine_97 rfl ?_
  refine aw_iconst (pc := 98) (v := (1 : Int32)) dX12_streetLine_98 (by decide) ?_
  obtain ⟨σ12, e, h⟩ := op_bd h
  refine ow_sI (pc := 99) e dX12_streetLine_99 ?_
  refine aw_aload_n (pc := 100) 0 dX12_streetLine_100 rfl ?_
  refine aw_bipush (pc := 101) (v := (10 : Int32)) dX12_streetLine_101 (by decide) ?_
  obtain ⟨r13, e, h⟩ := op_bd h
  refine ow_cVi (pc := 103) [.int (10 : Int32)] ((c_X12_isWord _ _ _ _ e).mono (by decide)) (op_ck_sh e) rfl dX12_streetLine_103 cw_X12_273 rfl (Nat.le_of_ble_eq_true rfl) ?_
  refine aw_if_eq (pc := 106) 125 dX12_streetLine_106 (by decide) (fun z => ?_) (fun z => ?_)
  · replace h := (if_pos z).symm.trans h
    refine aw_sub [0, 1] rfl ?_
    exact c_X12_streetLine_125  _ _ _ _ h
  · replace h := (if_neg z).symm.trans h
    refine aw_aload_n (pc := 109) 0 dX12_streetLine_109 rfl ?_
    obtain ⟨r14, e, h⟩ := op_bd h
    refine ow_cVv (pc := 110) [] ((c_X12_token _ _ _ e).mono (by decide)) (op_ck_sh e) rfl dX12_streetLine_110 cw_X12_211 rfl (Nat.le_of_ble_eq_true rfl) ?_
    refine aw_aload_n (pc := 113) 0 dX12_streetLine_113 rfl ?_
    obtain ⟨v15, e, h⟩ := op_bd h
    refine ow_gR (pc := 114) e dX12_streetLine_114 fd_X12_39 rfl ?_
    refine aw_iload_n (pc := 117) 1 dX12_streetLine_117 rfl ?_
    refine aw_aload_n (pc := 118) 0 dX12_streetLine_118 rfl ?_
    refine aw_iconst (pc := 119) (v := (0 : Int32)) dX12_streetLine_119 (by decide) ?_
    refine aw_iconst (pc := 120) (v := (3 : Int32)) dX12_streetLine_120 (by decide) ?_
    obtain ⟨r16, e, h⟩ := op_bd h
    refine ow_cVi (pc := 121) [.int (0 : Int32), .int (3 : Int32)] ((c_X12_numeral _ _ _ _ _ e).mono (by decide)) (op_ck_sh e) rfl dX12_streetLine_121 cw_X12_247 rfl (Nat.le_of_ble_eq_true rfl) ?_
    obtain ⟨σ17, e, h⟩ := op_bd h
    refine ow_sI (pc := 124) e dX12_streetLine_124 ?_
    refine aw_sub [0, 1] rfl ?_
    exact c_X12_streetLine_125  _ _ _ _ h
set_option maxRecDepth 100000 in
set_option maxHeartbeats 4000000 in
theorem c_X12_streetLine_38 {G : ah_G}   : ∀ (x0 : Nat) (x1 : Int32) (x2 : Int32) (x3 : Int32) (σ : ah_H) (r : ah_H), f_X12_streetLine_38   x0 x1 x2 x3 σ = some r → AW G m_X12_streetLine 7 0 0 38 [(0, .ref x0), (1, .int x1), (2, .int x2), (3, .int x3)] [] σ (ah_N G (ah_rv r)) := by
  intro x0 x1 x2 x3 σ r h
  unfold f_X12_streetLine_38 at h
  refine aw_aload_n (pc := 38) 0 dX12_streetLine_38 rfl ?_
  obtain ⟨v1, e, h⟩ := op_bd h
  refine ow_gI (pc := 39) e dX12_streetLine_39 fd_X12_205 rfl ?_
  refine aw_if_ne (pc := 42) 55 dX12_streetLine_42 (by decide) (fun z => ?_) (fun z => ?_)
  · replace h := (if_neg z).symm.trans h
    exact c_X12_streetLine_55  _ _ _ _ _ _ h
  · replace h := (if_pos z).symm.trans h
    refine aw_iload_n (pc := 45) 2 dX12_streetLine_45 rfl ?_
    refine aw_iload_n (pc := 46) 3 dX12_streetLine_46 rfl ?_
    refine aw_icmp_ne (pc := 47) 55 dX12_streetLine_47 (by decide) (fun z => ?_) (fun z => ?_)
    · replace h := (if_neg z).symm.trans h
      exact c_X12_streetLine_55  _ _ _ _ _ _ h
    · replace h := (if_pos z).symm.trans h
      refine aw_aload_n (pc := 50) 0 dX12_streetLine_50 rfl ?_
      refine aw_iconst (pc := 51) (v := (5 : Int32)) dX12_streetLine_51 (by decide) ?_
      obtain ⟨r2, e, h⟩ := op_bd h
      refine ow_cVv (pc := 52) [.int (5 : Int32)] ((c_X12_wrong _ _ _ _ e).mono (by decide)) (op_ck_sh e) rfl dX12_streetLine_52 cw_X12_214 rfl (Nat.le_of_ble_eq_true rfl) ?_
      exact c_X12_streetLine_55  _ _ _ _ _ _ h
set_option maxRecDepth 100000 in
set_option maxHeartbeats 4000000 in
theorem c_X12_streetLine_0 {G : ah_G}   : ∀ (x0 : Nat) (x1 : Int32) (σ : ah_H) (r : ah_H), f_X12_streetLine_0   x0 x1 σ = some r → AW G m_X12_streetLine 7 0 0 0 [(0, .ref x0), (1, .int x1)] [] σ (ah_N G (ah_rv r)) := by
  intro x0 x1 σ r h
  unfold f_X12_streetLine_0 at h
  refine aw_aload_n (pc := 0) 0 dX12_streetLine_0 rfl ?_
  obtain ⟨r1, e, h⟩ := op_bd h
  refine ow_cVi (pc := 1) [] ((c_X12_corner _ _ _ e).mono (by decide)) (op_ck_sh e) rfl dX12_streetLine_1 cw_X12_237 rfl (Nat.le_of_ble_eq_true rfl) ?_
  refine aw_istore_n (pc := 4) [(2, .int r1.1), (0, .ref x0), (1, .int x1)] dX12_streetLine_4 rfl (by decide) rfl ?_
  refine aw_aload_n (pc := 5) 1 dX12_streetLine_5 rfl ?_
  obtain ⟨r2, e, h⟩ := op_bd h
  refine ow_cVv (pc := 6) [] ((c_X12_goOn _ _ _ e).mono (by decide)) (op_ck_sh e) rfl dX12_streetLine_6 cw_X12_244 rfl (Nat.le_of_ble_eq_true rfl) ?_
  refine aw_aload_n (pc := 9) 1 dX12_streetLine_9 rfl ?_
  obtain ⟨r3, e, h⟩ := op_bd h
  refine ow_cVi (pc := 10) [] ((c_X12_corner _ _ _ e).mono (by decide)) (op_ck_sh e) rfl dX12_streetLine_10 cw_X12_237 rfl (Nat.le_of_ble_eq_true rfl) ?_
  refine aw_istore_n (pc := 13) [(3, .int r3.1), (2, .int r1.1), (0, .ref x0), (1, .int x1)] dX12_streetLine_13 rfl (by decide) rfl ?_
  refine aw_aload_n (pc := 14) 2 dX12_streetLine_14 rfl ?_
  obtain ⟨v4, e, h⟩ := op_bd h
  refine ow_gI (pc := 15) e dX12_streetLine_15 fd_X12_205 rfl ?_
  refine aw_if_ne (pc := 18) 38 dX12_streetLine_18 (by decide) (fun z => ?_) (fun z => ?_)
  · replace h := (if_neg z).symm.trans h
    refine aw_sub [2, 3, 1, 0] rfl ?_
    exact c_X12_streetLine_38  _ _ _ _ _ _ h
  · replace h := (if_pos z).symm.trans h
    refine aw_aload_n (pc := 21) 2 dX12_streetLine_21 rfl ?_
    refine aw_iload_n (pc := 22) 1 dX12_streetLine_22 rfl ?_
    refine aw_iload_n (pc := 23) 0 dX12_streetLine_23 rfl ?_
    obtain ⟨r5, e, h⟩ := op_bd h
    refine ow_cVi (pc := 24) [.int r1.1, .int r3.1] ((c_X12_hasStreet _ _ _ _ _ e).mono (by decide)) (op_ck_sh e) rfl dX12_streetLine_24 cw_X12_276 rfl (Nat.le_of_ble_eq_true rfl) ?_
    refine aw_if_eq (pc := 27) 38 dX12_streetLine_27 (by decide) (fun z => ?_) (fun z => ?_)
    · replace h := (if_pos z).symm.trans h
      refine aw_sub [2, 3, 1, 0] rfl ?_
      exact c_X12_streetLine_38  _ _ _ _ _ _ h
    · replace h := (if_neg z).symm.trans h
      refine aw_aload_n (pc := 30) 2 dX12_streetLine_30 rfl ?_
      refine aw_iconst (pc := 31) (v := (3 : Int32)) dX12_streetLine_31 (by decide) ?_
      obtain ⟨r6, e, h⟩ := op_bd h
      refine ow_cVv (pc := 32) [.int (3 : Int32)] ((c_X12_wrong _ _ _ _ e).mono (by decide)) (op_ck_sh e) rfl dX12_streetLine_32 cw_X12_214 rfl (Nat.le_of_ble_eq_true rfl) ?_
      refine aw_goto (pc := 35) 55 dX12_streetLine_35 (by decide) ?_
      refine aw_sub [2, 3, 1, 0] rfl ?_
      exact c_X12_streetLine_55  _ _ _ _ _ _ h
theorem c_X12_streetLine {G : ah_G}   (x0 : Nat) (x1 : Int32) (σ : ah_H) (r : ah_H) (h : f_X12_streetLine  x0 x1 σ = some r) : AM G m_X12_streetLine 7 0 0 [.ref x0, .int x1] σ (ah_rv r) := aw_enter (by decide) (Nat.le_of_ble_eq_true rfl) (c_X12_streetLine_0 _ _ _ _ (op_ck_k h))
def f_X12_line_16   (x0 : Nat) (σ : ah_H) : Option (ah_H) :=
  (f_X12_wrong x0 (1 : Int32) σ).bind fun r1 => some r1
def f_X12_line_344   (x0 : Nat) (σ : ah_H) : Option (ah_H) :=
  (op_gI 12 23 σ x0).bind fun v1 => (op_pI 12 23 σ x0 (v1 + (1 : Int32))).bind fun σ2 => some σ2
def f_X12_line_315   (x0 : Nat) (σ : ah_H) : Option (ah_H) :=
  (op_gI 12 29 σ x0).bind fun v1 => if v1 = 0 then ((f_X12_isSign x0 (59 : Int32) σ).bind fun r2 => if r2.1 = 0 then ((f_X12_wrong x0 (1 : Int32) r2.2).bind fun r4 => f_X12_line_344 x0 r4) else ((f_X12_token x0 r2.2).bind fun r3 => f_X12_line_344 x0 r3)) else (some σ)
def f_X12_line_67   (x0 : Nat) (x1 : Int32) (σ : ah_H) : Option (ah_H) :=
  (op_gI 12 29 σ x0).bind fun v1 => if v1 = 0 then ((op_gI 12 22 σ x0).bind fun v2 => (op_pI 12 22 σ x0 (v2 ||| ((1 : Int32) <<< (x1 &&& 31)))).bind fun σ3 => (f_X12_token x0 σ3).bind fun r4 => if x1 = (0 : Int32) then ((f_X12_fresher x0 (0 : Int32) r4).bind fun r5 => (f_X12_cornerLine x0 ((7 : Int32) + r5.1) r5.2).bind fun r6 => f_X12_line_315 x0 r6) else (if x1 = (1 : Int32) then ((f_X12_corner x0 r4).bind fun r7 => (f_X12_reads x0 (4 : Int32) r7.1 r7.2).bind fun r8 => (f_X12_goOn x0 r8).bind fun r9 => (f_X12_numeral x0 (0 : Int32) (999 : Int32) r9).bind fun r10 => (f_X12_reads x0 (5 : Int32) r10.1 r10.2).bind fun r11 => f_X12_line_315 x0 r11) else (if x1 = (2 : Int32) then ((f_X12_fresher x0 (1 : Int32) r4).bind fun r12 => (f_X12_streetLine x0 ((10 : Int32) + r12.1) r12.2).bind fun r13 => f_X12_line_315 x0 r13) else (if x1 = (3 : Int32) then ((f_X12_fresher x0 (2 : Int32) r4).bind fun r14 => (f_X12_pipeLine x0 ((4 : Int32) + r14.1) r14.2).bind fun r15 => f_X12_line_315 x0 r15) else (if x1 = (4 : Int32) then ((f_X12_numeral x0 (0 : Int32) (99 : Int32) r4).bind fun r16 => (f_X12_reads x0 (6 : Int32) r16.1 r16.2).bind fun r17 => (f_X12_fresher x0 (6 : Int32) r17).bind fun r18 => (f_X12_numeral x0 r18.1 (99 : Int32) r18.2).bind fun r19 => (f_X12_reads x0 (7 : Int32) r19.1 r19.2).bind fun r20 => f_X12_line_315 x0 r20) else (if x1 = (5 : Int32) then ((f_X12_numeral x0 (0 : Int32) (12 : Int32) r4).bind fun r21 => (f_X12_reads x0 (8 : Int32) r21.1 r21.2).bind fun r22 => (f_X12_fresher x0 (8 : Int32) r22).bind fun r23 => (f_X12_numeral x0 r23.1 (12 : Int32) r23.2).bind fun r24 => (f_X12_reads x0 (9 : Int32) r24.1 r24.2).bind fun r25 => f_X12_line_315 x0 r25) else (if x1 = (6 : Int32) then ((f_X12_fresher x0 (3 : Int32) r4).bind fun r26 => (f_X12_rainLine x0 ((4 : Int32) + r26.1) r26.2).bind fun r27 => f_X12_line_315 x0 r27) else (if x1 = (7 : Int32) then ((f_X12_lawLine x0 r4).bind fun r28 => f_X12_line_315 x0 r28) else ((f_X12_numeral x0 (0 : Int32) (99 : Int32) r4).bind fun r29 => (f_X12_reads x0 (10 : Int32) r29.1 r29.2).bind fun r30 => f_X12_line_315 x0 r30))))))))) else (some σ)
def f_X12_line_0   (x0 : Nat) (σ : ah_H) : Option (ah_H) :=
  (op_gI 12 27 σ x0).bind fun v1 => if v1 = 0 then ((op_gI 12 28 σ x0).bind fun v2 => if v2 ≤ (8 : Int32) then ((op_gI 12 28 σ x0).bind fun v3 => (f_X12_isFull x0 v3 σ).bind fun r4 => if r4.1 = 0 then ((f_X12_isOnce v3 r4.2).bind fun r5 => if r5.1 = 0 then (f_X12_line_67 x0 v3 r5.2) else ((op_gI 12 22 r5.2 x0).bind fun v6 => if ((v6 >>> (v3 &&& 31)) &&& (1 : Int32)) = (1 : Int32) then ((f_X12_wrong x0 (3 : Int32) r5.2).bind fun r7 => f_X12_line_67 x0 v3 r7) else (f_X12_line_67 x0 v3 r5.2))) else ((f_X12_wrong x0 (2 : Int32) r4.2).bind fun r8 => f_X12_line_67 x0 v3 r8)) else (f_X12_line_16 x0 σ)) else (f_X12_line_16 x0 σ)
def f_X12_line  (x0 : Nat) (σ : ah_H) : Option (ah_H) := op_ck 12 σ x0 (f_X12_line_0 x0 σ)
set_option maxRecDepth 100000 in
set_option maxHeartbeats 4000000 in
theorem c_X12_line_16 {G : ah_G}   : ∀ (x0 : Nat) (σ : ah_H) (r : ah_H), f_X12_line_16   x0 σ = some r → AW G m_X12_line 208 0 0 16 [(0, .ref x0)] [] σ (ah_N G (ah_rv r)) := by
  intro x0 σ r h
  unfold f_X12_line_16 at h
  refine aw_aload_n (pc := 16) 0 dX12_line_16 rfl ?_
  refine aw_iconst (pc := 17) (v := (1 : Int32)) dX12_line_17 (by decide) ?_
  obtain ⟨r1, e, h⟩ := op_bd h
  refine ow_cVv (pc := 18) [.int (1 : Int32)] ((c_X12_wrong _ _ _ _ e).mono (by decide)) (op_ck_sh e) rfl dX12_line_18 cw_X12_214 rfl (Nat.le_of_ble_eq_true rfl) ?_
  exact ow_vret (pc := 21) h dX12_line_21 rfl
set_option maxRecDepth 100000 in
set_option maxHeartbeats 4000000 in
theorem c_X12_line_344 {G : ah_G}   : ∀ (x0 : Nat) (σ : ah_H) (r : ah_H), f_X12_line_344   x0 σ = some r → AW G m_X12_line 208 0 0 344 [(0, .ref x0)] [] σ (ah_N G (ah_rv r)) := by
  intro x0 σ r h
  unfold f_X12_line_344 at h
  refine aw_aload_n (pc := 344) 0 dX12_line_344 rfl ?_
  refine aw_dup (pc := 345) dX12_line_345 rfl ?_
  obtain ⟨v1, e, h⟩ := op_bd h
  refine ow_gI (pc := 346) e dX12_line_346 fd_X12_266 rfl ?_
  refine aw_iconst (pc := 349) (v := (1 : Int32)) dX12_line_349 (by decide) ?_
  refine aw_iadd (pc := 350) dX12_line_350 ?_
  obtain ⟨σ2, e, h⟩ := op_bd h
  refine ow_pI (pc := 351) e dX12_line_351 fd_X12_266 ?_
  exact ow_vret (pc := 354) h dX12_line_354 rfl
set_option maxRecDepth 100000 in
set_option maxHeartbeats 4000000 in
theorem c_X12_line_315 {G : ah_G}   : ∀ (x0 : Nat) (σ : ah_H) (r : ah_H), f_X12_line_315   x0 σ = some r → AW G m_X12_line 208 0 0 315 [(0, .ref x0)] [] σ (ah_N G (ah_rv r)) := by
  intro x0 σ r h
  unfold f_X12_line_315 at h
  refine aw_aload_n (pc := 315) 0 dX12_line_315 rfl ?_
  obtain ⟨v1, e, h⟩ := op_bd h
  refine ow_gI (pc := 316) e dX12_line_316 fd_X12_205 rfl ?_
  refine aw_if_eq (pc := 319) 323 dX12_line_319 (by decide) (fun z => ?_) (fun z => ?_)
  · replace h := (if_pos z).symm.trans h
    refine aw_aload_n (pc := 323) 0 dX12_line_323 rfl ?_
    refine aw_bipush (pc := 324) (v := (59 : Int32)) dX12_line_324 (by decide) ?_
    obtain ⟨r2, e, h⟩ := op_bd h
    refine ow_cVi (pc := 326) [.int (59 : Int32)] ((c_X12_isSign _ _ _ _ e).mono (by decide)) (op_ck_sh e) rfl dX12_line_326 cw_X12_263 rfl (Nat.le_of_ble_eq_true rfl) ?_
    refine aw_if_ne (pc := 329) 340 dX12_line_329 (by decide) (fun z => ?_) (fun z => ?_)
    · replace h := (if_neg z).symm.trans h
      refine aw_aload_n (pc := 340) 0 dX12_line_340 rfl ?_
      obtain ⟨r3, e, h⟩ := op_bd h
      refine ow_cVv (pc := 341) [] ((c_X12_token _ _ _ e).mono (by decide)) (op_ck_sh e) rfl dX12_line_341 cw_X12_211 rfl (Nat.le_of_ble_eq_true rfl) ?_
      exact c_X12_line_344  _ _ _ h
    · replace h := (if_pos z).symm.trans h
      refine aw_aload_n (pc := 332) 0 dX12_line_332 rfl ?_
      refine aw_iconst (pc := 333) (v := (1 : Int32)) dX12_line_333 (by decide) ?_
      obtain ⟨r4, e, h⟩ := op_bd h
      refine ow_cVv (pc := 334) [.int (1 : Int32)] ((c_X12_wrong _ _ _ _ e).mono (by decide)) (op_ck_sh e) rfl dX12_line_334 cw_X12_214 rfl (Nat.le_of_ble_eq_true rfl) ?_
      refine aw_goto (pc := 337) 344 dX12_line_337 (by decide) ?_
      exact c_X12_line_344  _ _ _ h
  · replace h := (if_neg z).symm.trans h
    exact ow_vret (pc := 322) h dX12_line_322 rfl
set_option maxRecDepth 100000 in
set_option maxHeartbeats 4000000 in
theorem c_X12_line_67 {G : ah_G}   : ∀ (x0 : Nat) (x1 : Int32) (σ : ah_H) (r : ah_H), f_X12_line_67   x0 x1 σ = some r → AW G m_X12_line 208 0 0 67 [(0, .ref x0), (1, .int x1)] [] σ (ah_N G (ah_rv r)) := by
  intro x0 x1 σ r h
  unfold f_X12_line_67 at h
  refine aw_aload_n (pc := 67) 0 dX12_line_67 rfl ?_
  obtain ⟨v1, e, h⟩ := op_bd h
  refine ow_gI (pc := 68) e dX12_line_68 fd_X12_205 rfl ?_
  refine aw_if_eq (pc := 71) 75 dX12_line_71 (by decide) (fun z => ?_) (fun z => ?_)
  · replace h := (if_pos z).symm.trans h
    refine aw_aload_n (pc := 75) 0 dX12_line_75 rfl ?_
    refine aw_dup (pc := 76) dX12_line_76 rfl ?_
    obtain ⟨v2, e, h⟩ := op_bd h
    refine ow_gI (pc := 77) e dX12_line_77 fd_X12_231 rfl ?_
    refine aw_iconst (pc := 80) (v := (1 : Int32)) dX12_line_80 (by decide) ?_
    refine aw_iload_n (pc := 81) 1 dX12_line_81 rfl ?_
    refine aw_ishl (pc := 82) dX12_line_82 ?_
    refine aw_ior (pc := 83) dX12_line_83 ?_
    obtain ⟨σ3, e, h⟩ := op_bd h
    refine ow_pI (pc := 84) e dX12_line_84 fd_X12_231 ?_
    refine aw_aload_n (pc := 87) 0 dX12_line_87 rfl ?_
    obtain ⟨r4, e, h⟩ := op_bd h
    refine ow_cVv (pc := 88) [] ((c_X12_token _ _ _ e).mono (by decide)) (op_ck_sh e) rfl dX12_line_88 cw_X12_211 rfl (Nat.le_of_ble_eq_true rfl) ?_
    refine aw_iload_n (pc := 91) 1 dX12_line_91 rfl ?_
    by_cases z0 : x1 = (0 : Int32)
    · replace h := (if_pos z0).symm.trans h
      refine aw_tableIn (pc := 92) (off := 48) 140 dX12_line_92 (by rw [z0]; decide) (by rw [z0]; decide) (by rw [z0]; decide) (by decide) ?_
      refine aw_aload_n (pc := 140) 0 dX12_line_140 rfl ?_
      refine aw_bipush (pc := 141) (v := (7 : Int32)) dX12_line_141 (by decide) ?_
      refine aw_aload_n (pc := 143) 0 dX12_line_143 rfl ?_
      refine aw_iconst (pc := 144) (v := (0 : Int32)) dX12_line_144 (by decide) ?_
      obtain ⟨r5, e, h⟩ := op_bd h
      refine ow_cVi (pc := 145) [.int (0 : Int32)] ((c_X12_fresher _ _ _ _ e).mono (by decide)) (op_ck_sh e) rfl dX12_line_145 cw_X12_221 rfl (Nat.le_of_ble_eq_true rfl) ?_
      refine aw_iadd (pc := 148) dX12_line_148 ?_
      obtain ⟨r6, e, h⟩ := op_bd h
      refine ow_cVv (pc := 149) [.int ((7 : Int32) + r5.1)] ((c_X12_cornerLine _ _ _ _ e).mono (by decide)) (op_ck_sh e) rfl dX12_line_149 cw_X12_234 rfl (Nat.le_of_ble_eq_true rfl) ?_
      refine aw_goto (pc := 152) 315 dX12_line_152 (by decide) ?_
      refine aw_sub [0] rfl ?_
      exact c_X12_line_315  _ _ _ h
    · replace h := (if_neg z0).symm.trans h
      by_cases z1 : x1 = (1 : Int32)
      · replace h := (if_pos z1).symm.trans h
        refine aw_tableIn (pc := 92) (off := 63) 155 dX12_line_92 (by rw [z1]; decide) (by rw [z1]; decide) (by rw [z1]; decide) (by decide) ?_
        refine aw_aload_n (pc := 155) 0 dX12_line_155 rfl ?_
        refine aw_iconst (pc := 156) (v := (4 : Int32)) dX12_line_156 (by decide) ?_
        refine aw_aload_n (pc := 157) 0 dX12_line_157 rfl ?_
        obtain ⟨r7, e, h⟩ := op_bd h
        refine ow_cVi (pc := 158) [] ((c_X12_corner _ _ _ e).mono (by decide)) (op_ck_sh e) rfl dX12_line_158 cw_X12_237 rfl (Nat.le_of_ble_eq_true rfl) ?_
        obtain ⟨r8, e, h⟩ := op_bd h
        refine ow_cVv (pc := 161) [.int (4 : Int32), .int r7.1] ((c_X12_reads _ _ _ _ _ e).mono (by decide)) (op_ck_sh e) rfl dX12_line_161 cw_X12_240 rfl (Nat.le_of_ble_eq_true rfl) ?_
        refine aw_aload_n (pc := 164) 0 dX12_line_164 rfl ?_
        obtain ⟨r9, e, h⟩ := op_bd h
        refine ow_cVv (pc := 165) [] ((c_X12_goOn _ _ _ e).mono (by decide)) (op_ck_sh e) rfl dX12_line_165 cw_X12_244 rfl (Nat.le_of_ble_eq_true rfl) ?_
        refine aw_aload_n (pc := 168) 0 dX12_line_168 rfl ?_
        refine aw_iconst (pc := 169) (v := (5 : Int32)) dX12_line_169 (by decide) ?_
        refine aw_aload_n (pc := 170) 0 dX12_line_170 rfl ?_
        refine aw_iconst (pc := 171) (v := (0 : Int32)) dX12_line_171 (by decide) ?_
        refine aw_sipush (pc := 172) (v := (999 : Int32)) dX12_line_172 (by decide) ?_
        obtain ⟨r10, e, h⟩ := op_bd h
        refine ow_cVi (pc := 175) [.int (0 : Int32), .int (999 : Int32)] ((c_X12_numeral _ _ _ _ _ e).mono (by decide)) (op_ck_sh e) rfl dX12_line_175 cw_X12_247 rfl (Nat.le_of_ble_eq_true rfl) ?_
        obtain ⟨r11, e, h⟩ := op_bd h
        refine ow_cVv (pc := 178) [.int (5 : Int32), .int r10.1] ((c_X12_reads _ _ _ _ _ e).mono (by decide)) (op_ck_sh e) rfl dX12_line_178 cw_X12_240 rfl (Nat.le_of_ble_eq_true rfl) ?_
        refine aw_goto (pc := 181) 315 dX12_line_181 (by decide) ?_
        refine aw_sub [0] rfl ?_
        exact c_X12_line_315  _ _ _ h
      · replace h := (if_neg z1).symm.trans h
        by_cases z2 : x1 = (2 : Int32)
        · replace h := (if_pos z2).symm.trans h
          refine aw_tableIn (pc := 92) (off := 92) 184 dX12_line_92 (by rw [z2]; decide) (by rw [z2]; decide) (by rw [z2]; decide) (by decide) ?_
          refine aw_aload_n (pc := 184) 0 dX12_line_184 rfl ?_
          refine aw_bipush (pc := 185) (v := (10 : Int32)) dX12_line_185 (by decide) ?_
          refine aw_aload_n (pc := 187) 0 dX12_line_187 rfl ?_
          refine aw_iconst (pc := 188) (v := (1 : Int32)) dX12_line_188 (by decide) ?_
          obtain ⟨r12, e, h⟩ := op_bd h
          refine ow_cVi (pc := 189) [.int (1 : Int32)] ((c_X12_fresher _ _ _ _ e).mono (by decide)) (op_ck_sh e) rfl dX12_line_189 cw_X12_221 rfl (Nat.le_of_ble_eq_true rfl) ?_
          refine aw_iadd (pc := 192) dX12_line_192 ?_
          obtain ⟨r13, e, h⟩ := op_bd h
          refine ow_cVv (pc := 193) [.int ((10 : Int32) + r12.1)] ((c_X12_streetLine _ _ _ _ e).mono (by decide)) (op_ck_sh e) rfl dX12_line_193 cw_X12_251 rfl (Nat.le_of_ble_eq_true rfl) ?_
          refine aw_goto (pc := 196) 315 dX12_line_196 (by decide) ?_
          refine aw_sub [0] rfl ?_
          exact c_X12_line_315  _ _ _ h
        · replace h := (if_neg z2).symm.trans h
          by_cases z3 : x1 = (3 : Int32)
          · replace h := (if_pos z3).symm.trans h
            refine aw_tableIn (pc := 92) (off := 107) 199 dX12_line_92 (by rw [z3]; decide) (by rw [z3]; decide) (by rw [z3]; decide) (by decide) ?_
            refine aw_aload_n (pc := 199) 0 dX12_line_199 rfl ?_
            refine aw_iconst (pc := 200) (v := (4 : Int32)) dX12_line_200 (by decide) ?_
            refine aw_aload_n (pc := 201) 0 dX12_line_201 rfl ?_
            refine aw_iconst (pc := 202) (v := (2 : Int32)) dX12_line_202 (by decide) ?_
            obtain ⟨r14, e, h⟩ := op_bd h
            refine ow_cVi (pc := 203) [.int (2 : Int32)] ((c_X12_fresher _ _ _ _ e).mono (by decide)) (op_ck_sh e) rfl dX12_line_203 cw_X12_221 rfl (Nat.le_of_ble_eq_true rfl) ?_
            refine aw_iadd (pc := 206) dX12_line_206 ?_
            obtain ⟨r15, e, h⟩ := op_bd h
            refine ow_cVv (pc := 207) [.int ((4 : Int32) + r14.1)] ((c_X12_pipeLine _ _ _ _ e).mono (by decide)) (op_ck_sh e) rfl dX12_line_207 cw_X12_254 rfl (Nat.le_of_ble_eq_true rfl) ?_
            refine aw_goto (pc := 210) 315 dX12_line_210 (by decide) ?_
            refine aw_sub [0] rfl ?_
            exact c_X12_line_315  _ _ _ h
          · replace h := (if_neg z3).symm.trans h
            by_cases z4 : x1 = (4 : Int32)
            · replace h := (if_pos z4).symm.trans h
              refine aw_tableIn (pc := 92) (off := 121) 213 dX12_line_92 (by rw [z4]; decide) (by rw [z4]; decide) (by rw [z4]; decide) (by decide) ?_
              refine aw_aload_n (pc := 213) 0 dX12_line_213 rfl ?_
              refine aw_bipush (pc := 214) (v := (6 : Int32)) dX12_line_214 (by decide) ?_
              refine aw_aload_n (pc := 216) 0 dX12_line_216 rfl ?_
              refine aw_iconst (pc := 217) (v := (0 : Int32)) dX12_line_217 (by decide) ?_
              refine aw_bipush (pc := 218) (v := (99 : Int32)) dX12_line_218 (by decide) ?_
              obtain ⟨r16, e, h⟩ := op_bd h
              refine ow_cVi (pc := 220) [.int (0 : Int32), .int (99 : Int32)] ((c_X12_numeral _ _ _ _ _ e).mono (by decide)) (op_ck_sh e) rfl dX12_line_220 cw_X12_247 rfl (Nat.le_of_ble_eq_true rfl) ?_
              obtain ⟨r17, e, h⟩ := op_bd h
              refine ow_cVv (pc := 223) [.int (6 : Int32), .int r16.1] ((c_X12_reads _ _ _ _ _ e).mono (by decide)) (op_ck_sh e) rfl dX12_line_223 cw_X12_240 rfl (Nat.le_of_ble_eq_true rfl) ?_
              refine aw_aload_n (pc := 226) 0 dX12_line_226 rfl ?_
              refine aw_bipush (pc := 227) (v := (7 : Int32)) dX12_line_227 (by decide) ?_
              refine aw_aload_n (pc := 229) 0 dX12_line_229 rfl ?_
              refine aw_aload_n (pc := 230) 0 dX12_line_230 rfl ?_
              refine aw_bipush (pc := 231) (v := (6 : Int32)) dX12_line_231 (by decide) ?_
              obtain ⟨r18, e, h⟩ := op_bd h
              refine ow_cVi (pc := 233) [.int (6 : Int32)] ((c_X12_fresher _ _ _ _ e).mono (by decide)) (op_ck_sh e) rfl dX12_line_233 cw_X12_221 rfl (Nat.le_of_ble_eq_true rfl) ?_
              refine aw_bipush (pc := 236) (v := (99 : Int32)) dX12_line_236 (by decide) ?_
              obtain ⟨r19, e, h⟩ := op_bd h
              refine ow_cVi (pc := 238) [.int r18.1, .int (99 : Int32)] ((c_X12_numeral _ _ _ _ _ e).mono (by decide)) (op_ck_sh e) rfl dX12_line_238 cw_X12_247 rfl (Nat.le_of_ble_eq_true rfl) ?_
              obtain ⟨r20, e, h⟩ := op_bd h
              refine ow_cVv (pc := 241) [.int (7 : Int32), .int r19.1] ((c_X12_reads _ _ _ _ _ e).mono (by decide)) (op_ck_sh e) rfl dX12_line_241 cw_X12_240 rfl (Nat.le_of_ble_eq_true rfl) ?_
              refine aw_goto (pc := 244) 315 dX12_line_244 (by decide) ?_
              refine aw_sub [0] rfl ?_
              exact c_X12_line_315  _ _ _ h
            · replace h := (if_neg z4).symm.trans h
              by_cases z5 : x1 = (5 : Int32)
              · replace h := (if_pos z5).symm.trans h
                refine aw_tableIn (pc := 92) (off := 155) 247 dX12_line_92 (by rw [z5]; decide) (by rw [z5]; decide) (by rw [z5]; decide) (by decide) ?_
                refine aw_aload_n (pc := 247) 0 dX12_line_247 rfl ?_
                refine aw_bipush (pc := 248) (v := (8 : Int32)) dX12_line_248 (by decide) ?_
                refine aw_aload_n (pc := 250) 0 dX12_line_250 rfl ?_
                refine aw_iconst (pc := 251) (v := (0 : Int32)) dX12_line_251 (by decide) ?_
                refine aw_bipush (pc := 252) (v := (12 : Int32)) dX12_line_252 (by decide) ?_
                obtain ⟨r21, e, h⟩ := op_bd h
                refine ow_cVi (pc := 254) [.int (0 : Int32), .int (12 : Int32)] ((c_X12_numeral _ _ _ _ _ e).mono (by decide)) (op_ck_sh e) rfl dX12_line_254 cw_X12_247 rfl (Nat.le_of_ble_eq_true rfl) ?_
                obtain ⟨r22, e, h⟩ := op_bd h
                refine ow_cVv (pc := 257) [.int (8 : Int32), .int r21.1] ((c_X12_reads _ _ _ _ _ e).mono (by decide)) (op_ck_sh e) rfl dX12_line_257 cw_X12_240 rfl (Nat.le_of_ble_eq_true rfl) ?_
                refine aw_aload_n (pc := 260) 0 dX12_line_260 rfl ?_
                refine aw_bipush (pc := 261) (v := (9 : Int32)) dX12_line_261 (by decide) ?_
                refine aw_aload_n (pc := 263) 0 dX12_line_263 rfl ?_
                refine aw_aload_n (pc := 264) 0 dX12_line_264 rfl ?_
                refine aw_bipush (pc := 265) (v := (8 : Int32)) dX12_line_265 (by decide) ?_
                obtain ⟨r23, e, h⟩ := op_bd h
                refine ow_cVi (pc := 267) [.int (8 : Int32)] ((c_X12_fresher _ _ _ _ e).mono (by decide)) (op_ck_sh e) rfl dX12_line_267 cw_X12_221 rfl (Nat.le_of_ble_eq_true rfl) ?_
                refine aw_bipush (pc := 270) (v := (12 : Int32)) dX12_line_270 (by decide) ?_
                obtain ⟨r24, e, h⟩ := op_bd h
                refine ow_cVi (pc := 272) [.int r23.1, .int (12 : Int32)] ((c_X12_numeral _ _ _ _ _ e).mono (by decide)) (op_ck_sh e) rfl dX12_line_272 cw_X12_247 rfl (Nat.le_of_ble_eq_true rfl) ?_
                obtain ⟨r25, e, h⟩ := op_bd h
                refine ow_cVv (pc := 275) [.int (9 : Int32), .int r24.1] ((c_X12_reads _ _ _ _ _ e).mono (by decide)) (op_ck_sh e) rfl dX12_line_275 cw_X12_240 rfl (Nat.le_of_ble_eq_true rfl) ?_
                refine aw_goto (pc := 278) 315 dX12_line_278 (by decide) ?_
                refine aw_sub [0] rfl ?_
                exact c_X12_line_315  _ _ _ h
              · replace h := (if_neg z5).symm.trans h
                by_cases z6 : x1 = (6 : Int32)
                · replace h := (if_pos z6).symm.trans h
                  refine aw_tableIn (pc := 92) (off := 189) 281 dX12_line_92 (by rw [z6]; decide) (by rw [z6]; decide) (by rw [z6]; decide) (by decide) ?_
                  refine aw_aload_n (pc := 281) 0 dX12_line_281 rfl ?_
                  refine aw_iconst (pc := 282) (v := (4 : Int32)) dX12_line_282 (by decide) ?_
                  refine aw_aload_n (pc := 283) 0 dX12_line_283 rfl ?_
                  refine aw_iconst (pc := 284) (v := (3 : Int32)) dX12_line_284 (by decide) ?_
                  obtain ⟨r26, e, h⟩ := op_bd h
                  refine ow_cVi (pc := 285) [.int (3 : Int32)] ((c_X12_fresher _ _ _ _ e).mono (by decide)) (op_ck_sh e) rfl dX12_line_285 cw_X12_221 rfl (Nat.le_of_ble_eq_true rfl) ?_
                  refine aw_iadd (pc := 288) dX12_line_288 ?_
                  obtain ⟨r27, e, h⟩ := op_bd h
                  refine ow_cVv (pc := 289) [.int ((4 : Int32) + r26.1)] ((c_X12_rainLine _ _ _ _ e).mono (by decide)) (op_ck_sh e) rfl dX12_line_289 cw_X12_257 rfl (Nat.le_of_ble_eq_true rfl) ?_
                  refine aw_goto (pc := 292) 315 dX12_line_292 (by decide) ?_
                  refine aw_sub [0] rfl ?_
                  exact c_X12_line_315  _ _ _ h
                · replace h := (if_neg z6).symm.trans h
                  by_cases z7 : x1 = (7 : Int32)
                  · replace h := (if_pos z7).symm.trans h
                    refine aw_tableIn (pc := 92) (off := 203) 295 dX12_line_92 (by rw [z7]; decide) (by rw [z7]; decide) (by rw [z7]; decide) (by decide) ?_
                    refine aw_aload_n (pc := 295) 0 dX12_line_295 rfl ?_
                    obtain ⟨r28, e, h⟩ := op_bd h
                    refine ow_cVv (pc := 296) [] ((c_X12_lawLine _ _ _ e).mono (by decide)) (op_ck_sh e) rfl dX12_line_296 cw_X12_260 rfl (Nat.le_of_ble_eq_true rfl) ?_
                    refine aw_goto (pc := 299) 315 dX12_line_299 (by decide) ?_
                    refine aw_sub [0] rfl ?_
                    exact c_X12_line_315  _ _ _ h
                  · replace h := (if_neg z7).symm.trans h
                    have wz0 : ¬ (x1).toInt = 0 := fun q => z0 (Int32.toInt_inj.mp q)
                    have wz1 : ¬ (x1).toInt = 1 := fun q => z1 (Int32.toInt_inj.mp q)
                    have wz2 : ¬ (x1).toInt = 2 := fun q => z2 (Int32.toInt_inj.mp q)
                    have wz3 : ¬ (x1).toInt = 3 := fun q => z3 (Int32.toInt_inj.mp q)
                    have wz4 : ¬ (x1).toInt = 4 := fun q => z4 (Int32.toInt_inj.mp q)
                    have wz5 : ¬ (x1).toInt = 5 := fun q => z5 (Int32.toInt_inj.mp q)
                    have wz6 : ¬ (x1).toInt = 6 := fun q => z6 (Int32.toInt_inj.mp q)
                    have wz7 : ¬ (x1).toInt = 7 := fun q => z7 (Int32.toInt_inj.mp q)
                    refine aw_tableOut (pc := 92) 302 dX12_line_92 (by omega) (by decide) ?_
                    refine aw_aload_n (pc := 302) 0 dX12_line_302 rfl ?_
                    refine aw_bipush (pc := 303) (v := (10 : Int32)) dX12_line_303 (by decide) ?_
                    refine aw_aload_n (pc := 305) 0 dX12_line_305 rfl ?_
                    refine aw_iconst (pc := 306) (v := (0 : Int32)) dX12_line_306 (by decide) ?_
                    refine aw_bipush (pc := 307) (v := (99 : Int32)) dX12_line_307 (by decide) ?_
                    obtain ⟨r29, e, h⟩ := op_bd h
                    refine ow_cVi (pc := 309) [.int (0 : Int32), .int (99 : Int32)] ((c_X12_numeral _ _ _ _ _ e).mono (by decide)) (op_ck_sh e) rfl dX12_line_309 cw_X12_247 rfl (Nat.le_of_ble_eq_true rfl) ?_
                    obtain ⟨r30, e, h⟩ := op_bd h
                    refine ow_cVv (pc := 312) [.int (10 : Int32), .int r29.1] ((c_X12_reads _ _ _ _ _ e).mono (by decide)) (op_ck_sh e) rfl dX12_line_312 cw_X12_240 rfl (Nat.le_of_ble_eq_true rfl) ?_
                    refine aw_sub [0] rfl ?_
                    exact c_X12_line_315  _ _ _ h
  · replace h := (if_neg z).symm.trans h
    exact ow_vret (pc := 74) h dX12_line_74 rfl
set_option maxRecDepth 100000 in
set_option maxHeartbeats 4000000 in
theorem c_X12_line_0 {G : ah_G}   : ∀ (x0 : Nat) (σ : ah_H) (r : ah_H), f_X12_line_0   x0 σ = some r → AW G m_X12_line 208 0 0 0 [(0, .ref x0)] [] σ (ah_N G (ah_rv r)) := by
  intro x0 σ r h
  unfold f_X12_line_0 at h
  refine aw_aload_n (pc := 0) 0 dX12_line_0 rfl ?_
  obtain ⟨v1, e, h⟩ := op_bd h
  refine ow_gI (pc := 1) e dX12_line_1 fd_X12_172 rfl ?_
  refine aw_if_ne (pc := 4) 16 dX12_line_4 (by decide) (fun z => ?_) (fun z => ?_)
  · replace h := (if_neg z).symm.trans h
    exact c_X12_line_16  _ _ _ h
  · replace h := (if_pos z).symm.trans h
    refine aw_aload_n (pc := 7) 0 dX12_line_7 rfl ?_
    obtain ⟨v2, e, h⟩ := op_bd h
    refine ow_gI (pc := 8) e dX12_line_8 fd_X12_182 rfl ?_
    refine aw_bipush (pc := 11) (v := (8 : Int32)) dX12_line_11 (by decide) ?_
    refine aw_icmp_le (pc := 13) 22 dX12_line_13 (by decide) (fun z => ?_) (fun z => ?_)
    · replace h := (if_pos z).symm.trans h
      refine aw_aload_n (pc := 22) 0 dX12_line_22 rfl ?_
      obtain ⟨v3, e, h⟩ := op_bd h
      refine ow_gI (pc := 23) e dX12_line_23 fd_X12_182 rfl ?_
      refine aw_istore_n (pc := 26) [(1, .int v3), (0, .ref x0)] dX12_line_26 rfl (by decide) rfl ?_
      refine aw_aload_n (pc := 27) 1 dX12_line_27 rfl ?_
      refine aw_iload_n (pc := 28) 0 dX12_line_28 rfl ?_
      obtain ⟨r4, e, h⟩ := op_bd h
      refine ow_cVi (pc := 29) [.int v3] ((c_X12_isFull _ _ _ _ e).mono (by decide)) (op_ck_sh e) rfl dX12_line_29 cw_X12_225 rfl (Nat.le_of_ble_eq_true rfl) ?_
      refine aw_if_eq (pc := 32) 43 dX12_line_32 (by decide) (fun z => ?_) (fun z => ?_)
      · replace h := (if_pos z).symm.trans h
        refine aw_iload_n (pc := 43) 0 dX12_line_43 rfl ?_
        obtain ⟨r5, e, h⟩ := op_bd h
        refine ow_cSi (pc := 44) [.int v3] ((c_X12_isOnce _ _ _ e).mono (by decide)) rfl dX12_line_44 cw_X12_228 rfl (Nat.le_of_ble_eq_true rfl) ?_
        refine aw_if_eq (pc := 47) 67 dX12_line_47 (by decide) (fun z => ?_) (fun z => ?_)
        · replace h := (if_pos z).symm.trans h
          refine aw_sub [1, 0] rfl ?_
          exact c_X12_line_67  _ _ _ _ h
        · replace h := (if_neg z).symm.trans h
          refine aw_aload_n (pc := 50) 1 dX12_line_50 rfl ?_
          obtain ⟨v6, e, h⟩ := op_bd h
          refine ow_gI (pc := 51) e dX12_line_51 fd_X12_231 rfl ?_
          refine aw_iload_n (pc := 54) 0 dX12_line_54 rfl ?_
          refine aw_ishr (pc := 55) dX12_line_55 ?_
          refine aw_iconst (pc := 56) (v := (1 : Int32)) dX12_line_56 (by decide) ?_
          refine aw_iand (pc := 57) dX12_line_57 ?_
          refine aw_iconst (pc := 58) (v := (1 : Int32)) dX12_line_58 (by decide) ?_
          refine aw_icmp_ne (pc := 59) 67 dX12_line_59 (by decide) (fun z => ?_) (fun z => ?_)
          · replace h := (if_neg z).symm.trans h
            refine aw_sub [1, 0] rfl ?_
            exact c_X12_line_67  _ _ _ _ h
          · replace h := (if_pos z).symm.trans h
            refine aw_aload_n (pc := 62) 1 dX12_line_62 rfl ?_
            refine aw_iconst (pc := 63) (v := (3 : Int32)) dX12_line_63 (by decide) ?_
            obtain ⟨r7, e, h⟩ := op_bd h
            refine ow_cVv (pc := 64) [.int (3 : Int32)] ((c_X12_wrong _ _ _ _ e).mono (by decide)) (op_ck_sh e) rfl dX12_line_64 cw_X12_214 rfl (Nat.le_of_ble_eq_true rfl) ?_
            refine aw_sub [1, 0] rfl ?_
            exact c_X12_line_67  _ _ _ _ h
      · replace h := (if_neg z).symm.trans h
        refine aw_aload_n (pc := 35) 1 dX12_line_35 rfl ?_
        refine aw_iconst (pc := 36) (v := (2 : Int32)) dX12_line_36 (by decide) ?_
        obtain ⟨r8, e, h⟩ := op_bd h
        refine ow_cVv (pc := 37) [.int (2 : Int32)] ((c_X12_wrong _ _ _ _ e).mono (by decide)) (op_ck_sh e) rfl dX12_line_37 cw_X12_214 rfl (Nat.le_of_ble_eq_true rfl) ?_
        refine aw_goto (pc := 40) 67 dX12_line_40 (by decide) ?_
        refine aw_sub [1, 0] rfl ?_
        exact c_X12_line_67  _ _ _ _ h
    · replace h := (if_neg z).symm.trans h
      exact c_X12_line_16  _ _ _ h
theorem c_X12_line {G : ah_G}   (x0 : Nat) (σ : ah_H) (r : ah_H) (h : f_X12_line  x0 σ = some r) : AM G m_X12_line 208 0 0 [.ref x0] σ (ah_rv r) := aw_enter (by decide) (Nat.le_of_ble_eq_true rfl) (c_X12_line_0 _ _ _ (op_ck_k h))
def f_X12_half_7_b  (K7 : Nat → Int32 → Int32 → ah_H → Option (ah_H)) (x0 : Nat) (x1 : Int32) (x2 : Int32) (σ : ah_H) : Option (ah_H) :=
  if x1 ≤ x2 then (some σ) else ((op_aI σ x0 (x1 + x2)).bind fun v1 => (op_sI σ x0 x2 v1).bind fun σ2 => K7 x0 x1 (x2 + (1 : Int32)) σ2)
def f_X12_half_7   : Nat → Nat → Int32 → Int32 → ah_H → Option (ah_H)
  | 0, _, _, _, _ => none
  | n + 1, x0, x1, x2, σ => f_X12_half_7_b (f_X12_half_7 n) x0 x1 x2 σ
def f_X12_half_0   (x0 : Nat) (σ : ah_H) : Option (ah_H) :=
  (op_len .int σ x0).bind fun n1 => (op_div (Int32.ofNat n1) (2 : Int32)).bind fun v2 => f_X12_half_7 5000 x0 v2 (0 : Int32) σ
def f_X12_half  (x0 : Nat) (σ : ah_H) : Option (ah_H) := f_X12_half_0 x0 σ
set_option maxRecDepth 100000 in
set_option maxHeartbeats 4000000 in
theorem c_X12_half_7_b {G : ah_G}  (K7 : Nat → Int32 → Int32 → ah_H → Option (ah_H)) (hK7 : ∀ (x0 : Nat) (x1 : Int32) (x2 : Int32) (σ : ah_H) (r : ah_H), K7 x0 x1 x2 σ = some r → AW G m_X12_half 0 0 0 7 [(0, .ref x0), (1, .int x1), (2, .int x2)] [] σ (ah_N G (ah_rv r))) : ∀ (x0 : Nat) (x1 : Int32) (x2 : Int32) (σ : ah_H) (r : ah_H), f_X12_half_7_b  K7 x0 x1 x2 σ = some r → AW G m_X12_half 0 0 0 7 [(0, .ref x0), (1, .int x1), (2, .int x2)] [] σ (ah_N G (ah_rv r)) := by
  intro x0 x1 x2 σ r h
  unfold f_X12_half_7_b at h
  refine aw_iload_n (pc := 7) 2 dX12_half_7 rfl ?_
  refine aw_iload_n (pc := 8) 1 dX12_half_8 rfl ?_
  refine aw_icmp_ge (pc := 9) 26 dX12_half_9 (by decide) (fun z => ?_) (fun z => ?_)
  · replace h := (if_pos z).symm.trans h
    exact ow_vret (pc := 26) h dX12_half_26 rfl
  · replace h := (if_neg z).symm.trans h
    refine aw_aload_n (pc := 12) 0 dX12_half_12 rfl ?_
    refine aw_iload_n (pc := 13) 2 dX12_half_13 rfl ?_
    refine aw_aload_n (pc := 14) 0 dX12_half_14 rfl ?_
    refine aw_iload_n (pc := 15) 1 dX12_half_15 rfl ?_
    refine aw_iload_n (pc := 16) 2 dX12_half_16 rfl ?_
    refine aw_iadd (pc := 17) dX12_half_17 ?_
    obtain ⟨v1, e, h⟩ := op_bd h
    refine ow_aI (pc := 18) e dX12_half_18 ?_
    obtain ⟨σ2, e, h⟩ := op_bd h
    refine ow_sI (pc := 19) e dX12_half_19 ?_
    refine aw_iinc (pc := 20) 2 [(2, .int (x2 + (1 : Int32))), (0, .ref x0), (1, .int x1)] (x2 + (1 : Int32)) dX12_half_20 rfl rfl (by decide) rfl ?_
    refine aw_goto (pc := 23) 7 dX12_half_23 (by decide) ?_
    refine aw_sub [1, 2, 0] rfl ?_
    exact hK7 _ _ _ _ _ h
theorem c_X12_half_7 {G : ah_G}   : ∀ (n : Nat) (x0 : Nat) (x1 : Int32) (x2 : Int32) (σ : ah_H) (r : ah_H), f_X12_half_7   n x0 x1 x2 σ = some r → AW G m_X12_half 0 0 0 7 [(0, .ref x0), (1, .int x1), (2, .int x2)] [] σ (ah_N G (ah_rv r)) := by
  intro n
  induction n with
  | zero => intro x0 x1 x2 σ r h; cases h
  | succ n ih => intro x0 x1 x2 σ r h; exact c_X12_half_7_b   _ ih x0 x1 x2 σ r h
set_option maxRecDepth 100000 in
set_option maxHeartbeats 4000000 in
theorem c_X12_half_0 {G : ah_G}   : ∀ (x0 : Nat) (σ : ah_H) (r : ah_H), f_X12_half_0   x0 σ = some r → AW G m_X12_half 0 0 0 0 [(0, .ref x0)] [] σ (ah_N G (ah_rv r)) := by
  intro x0 σ r h
  unfold f_X12_half_0 at h
  refine aw_aload_n (pc := 0) 0 dX12_half_0 rfl ?_
  obtain ⟨n1, e, h⟩ := op_bd h
  refine ow_alen (pc := 1) e dX12_half_1 (by decide) ?_
  refine aw_iconst (pc := 2) (v := (2 : Int32)) dX12_half_2 (by decide) ?_
  obtain ⟨v2, e, h⟩ := op_bd h
  refine ow_div (pc := 3) e dX12_half_3 ?_
  refine aw_istore_n (pc := 4) [(1, .int v2), (0, .ref x0)] dX12_half_4 rfl (by decide) rfl ?_
  refine aw_iconst (pc := 5) (v := (0 : Int32)) dX12_half_5 (by decide) ?_
  refine aw_istore_n (pc := 6) [(2, .int (0 : Int32)), (1, .int v2), (0, .ref x0)] dX12_half_6 rfl (by decide) rfl ?_
  refine aw_sub [2, 1, 0] rfl ?_
  exact c_X12_half_7  _ _ _ _ _ _ h
theorem c_X12_half {G : ah_G}   (x0 : Nat) (σ : ah_H) (r : ah_H) (h : f_X12_half  x0 σ = some r) : AM G m_X12_half 0 0 0 [.ref x0] σ (ah_rv r) := aw_enter (by decide) (Nat.le_of_ble_eq_true rfl) (c_X12_half_0 _ _ _ h)
def f_X12_text_118  (K47 : Nat → Int32 → ah_H → Option (Int32 × ah_H)) (x0 : Nat) (x2 : Int32) (s0 : Nat) (s1 : Int32) (s2 : Int32) (σ : ah_H) : Option (Int32 × ah_H) :=
  (f_X12_reads s0 s1 s2 σ).bind fun r1 => K47 x0 (x2 + (1 : Int32)) r1
def f_X12_text_65  (K47 : Nat → Int32 → ah_H → Option (Int32 × ah_H)) (x0 : Nat) (x2 : Int32) (s0 : Nat) (s1 : Int32) (σ : ah_H) : Option (Int32 × ah_H) :=
  f_X12_text_118 K47 x0 x2 s0 s1 (-1 : Int32) σ
def f_X12_text_81  (K47 : Nat → Int32 → ah_H → Option (Int32 × ah_H)) (x0 : Nat) (x2 : Int32) (s0 : Nat) (s1 : Int32) (σ : ah_H) : Option (Int32 × ah_H) :=
  f_X12_text_118 K47 x0 x2 s0 s1 (1 : Int32) σ
def f_X12_text_380   (x0 : Nat) (σ : ah_H) : Option (Int32 × ah_H) :=
  (op_pI 12 52 σ x0 (0 : Int32)).bind fun σ1 => (op_pZ 12 57 σ1 x0 (0 : Int32)).bind fun σ2 => (op_gI 12 23 σ2 x0).bind fun v3 => some (v3, σ2)
def f_X12_text_361_b  (K361 : Nat → Int32 → ah_H → Option (Int32 × ah_H)) (x0 : Nat) (x2 : Int32) (σ : ah_H) : Option (Int32 × ah_H) :=
  if (7 : Int32) ≤ x2 then (f_X12_text_380 x0 σ) else ((op_gR 12 38 σ x0).bind fun v1 => (op_sI σ v1 x2 (-1 : Int32)).bind fun σ2 => K361 x0 (x2 + (1 : Int32)) σ2)
def f_X12_text_361   : Nat → Nat → Int32 → ah_H → Option (Int32 × ah_H)
  | 0, _, _, _ => none
  | n + 1, x0, x2, σ => f_X12_text_361_b (f_X12_text_361 n) x0 x2 σ
def f_X12_text_201   (x0 : Nat) (σ : ah_H) : Option (Int32 × ah_H) :=
  (op_gI 12 29 σ x0).bind fun v1 => (op_pI 12 31 σ x0 v1).bind fun σ2 => (op_gI 12 30 σ2 x0).bind fun v3 => (op_pI 12 32 σ2 x0 v3).bind fun σ4 => (op_gI 12 29 σ4 x0).bind fun v5 => if v5 = 0 then ((op_gR 12 3 σ4 x0).bind fun v6 => (f_X12_half v6 σ4).bind fun r7 => (op_gR 12 4 r7 x0).bind fun v8 => (f_X12_half v8 r7).bind fun r9 => (op_gR 12 5 r9 x0).bind fun v10 => (f_X12_half v10 r9).bind fun r11 => (op_gR 12 6 r11 x0).bind fun v12 => (f_X12_half v12 r11).bind fun r13 => (op_gR 12 7 r13 x0).bind fun v14 => (f_X12_half v14 r13).bind fun r15 => (op_gR 12 8 r15 x0).bind fun v16 => (f_X12_half v16 r15).bind fun r17 => (op_gR 12 9 r17 x0).bind fun v18 => (f_X12_half v18 r17).bind fun r19 => (op_gR 12 10 r19 x0).bind fun v20 => (f_X12_half v20 r19).bind fun r21 => (op_gR 12 11 r21 x0).bind fun v22 => (f_X12_half v22 r21).bind fun r23 => (op_gR 12 12 r23 x0).bind fun v24 => (f_X12_half v24 r23).bind fun r25 => (op_gR 12 13 r25 x0).bind fun v26 => (f_X12_half v26 r25).bind fun r27 => (op_gR 12 14 r27 x0).bind fun v28 => (f_X12_half v28 r27).bind fun r29 => (op_gR 12 15 r29 x0).bind fun v30 => (f_X12_half v30 r29).bind fun r31 => (op_gR 12 16 r31 x0).bind fun v32 => (f_X12_half v32 r31).bind fun r33 => (op_gR 12 17 r33 x0).bind fun v34 => (f_X12_half v34 r33).bind fun r35 => (op_gR 12 18 r35 x0).bind fun v36 => (f_X12_half v36 r35).bind fun r37 => (op_gR 12 19 r37 x0).bind fun v38 => (f_X12_half v38 r37).bind fun r39 => (op_gR 12 20 r39 x0).bind fun v40 => (f_X12_half v40 r39).bind fun r41 => (op_gR 12 21 r41 x0).bind fun v42 => (f_X12_half v42 r41).bind fun r43 => f_X12_text_361 5000 x0 (0 : Int32) r43) else (some ((-1 : Int32), σ4))
def f_X12_text_179_b  (K179 : Nat → ah_H → Option (Int32 × ah_H)) (x0 : Nat) (σ : ah_H) : Option (Int32 × ah_H) :=
  (op_gI 12 29 σ x0).bind fun v1 => if v1 = 0 then ((op_gI 12 27 σ x0).bind fun v2 => if v2 = (4 : Int32) then (f_X12_text_201 x0 σ) else ((f_X12_line x0 σ).bind fun r3 => K179 x0 r3)) else (f_X12_text_201 x0 σ)
def f_X12_text_179   : Nat → Nat → ah_H → Option (Int32 × ah_H)
  | 0, _, _ => none
  | n + 1, x0, σ => f_X12_text_179_b (f_X12_text_179 n) x0 σ
def f_X12_text_155   (x0 : Nat) (σ : ah_H) : Option (Int32 × ah_H) :=
  (op_pI 12 22 σ x0 (0 : Int32)).bind fun σ1 => (op_pI 12 23 σ1 x0 (0 : Int32)).bind fun σ2 => (op_pI 12 33 σ2 x0 (0 : Int32)).bind fun σ3 => (op_pI 12 34 σ3 x0 (0 : Int32)).bind fun σ4 => (f_X12_token x0 σ4).bind fun r5 => f_X12_text_179 5000 x0 r5
def f_X12_text_129_b  (K129 : Nat → Int32 → ah_H → Option (Int32 × ah_H)) (x0 : Nat) (x2 : Int32) (σ : ah_H) : Option (Int32 × ah_H) :=
  if (6 : Int32) ≤ x2 then (f_X12_text_155 x0 σ) else ((op_gR 12 18 σ x0).bind fun v1 => (op_sI σ v1 x2 (0 : Int32)).bind fun σ2 => (op_gR 12 19 σ2 x0).bind fun v3 => (op_sI σ2 v3 x2 (0 : Int32)).bind fun σ4 => K129 x0 (x2 + (1 : Int32)) σ4)
def f_X12_text_129   : Nat → Nat → Int32 → ah_H → Option (Int32 × ah_H)
  | 0, _, _, _ => none
  | n + 1, x0, x2, σ => f_X12_text_129_b (f_X12_text_129 n) x0 x2 σ
def f_X12_text_127   (x0 : Nat) (σ : ah_H) : Option (Int32 × ah_H) :=
  f_X12_text_129 5000 x0 (3 : Int32) σ
def f_X12_text_47_b  (K47 : Nat → Int32 → ah_H → Option (Int32 × ah_H)) (x0 : Nat) (x2 : Int32) (σ : ah_H) : Option (Int32 × ah_H) :=
  if (12 : Int32) ≤ x2 then (f_X12_text_127 x0 σ) else (if x2 = (4 : Int32) then (f_X12_text_65 K47 x0 x2 x0 x2 σ) else (if x2 = (5 : Int32) then (f_X12_text_65 K47 x0 x2 x0 x2 σ) else (if x2 = (6 : Int32) then (f_X12_text_81 K47 x0 x2 x0 x2 σ) else (if x2 = (10 : Int32) then (f_X12_text_81 K47 x0 x2 x0 x2 σ) else (if x2 = (7 : Int32) then (f_X12_text_118 K47 x0 x2 x0 x2 (9 : Int32) σ) else (if x2 = (8 : Int32) then (f_X12_text_118 K47 x0 x2 x0 x2 (2 : Int32) σ) else (if x2 = (9 : Int32) then (f_X12_text_118 K47 x0 x2 x0 x2 (8 : Int32) σ) else (f_X12_text_118 K47 x0 x2 x0 x2 (0 : Int32) σ))))))))
def f_X12_text_47   : Nat → Nat → Int32 → ah_H → Option (Int32 × ah_H)
  | 0, _, _, _ => none
  | n + 1, x0, x2, σ => f_X12_text_47_b (f_X12_text_47 n) x0 x2 σ
def f_X12_text_0   (x0 : Nat) (x1 : Int32) (σ : ah_H) : Option (Int32 × ah_H) :=
  (op_pI 12 0 σ x0 (0 : Int32)).bind fun σ1 => if x1 < 0 then (some ((-2 : Int32), σ1)) else ((op_gI 12 2 σ1 x0).bind fun v2 => if x1 ≤ v2 then ((op_pI 12 24 σ1 x0 x1).bind fun σ3 => (op_pI 12 2 σ3 x0 (0 : Int32)).bind fun σ4 => (op_pI 12 25 σ4 x0 (0 : Int32)).bind fun σ5 => (op_pI 12 29 σ5 x0 (0 : Int32)).bind fun σ6 => (op_pI 12 30 σ6 x0 (-1 : Int32)).bind fun σ7 => f_X12_text_47 5000 x0 (0 : Int32) σ7) else (some ((-2 : Int32), σ1)))
def f_X12_text  (x0 : Nat) (x1 : Int32) (σ : ah_H) : Option (Int32 × ah_H) := op_ck 12 σ x0 (f_X12_text_0 x0 x1 σ)
set_option maxRecDepth 100000 in
set_option maxHeartbeats 4000000 in
theorem c_X12_text_118 {G : ah_G}  (K47 : Nat → Int32 → ah_H → Option (Int32 × ah_H)) (hK47 : ∀ (x0 : Nat) (x2 : Int32) (σ : ah_H) (r : Int32 × ah_H), K47 x0 x2 σ = some r → AW G m_X12_text 209 0 0 47 [(0, .ref x0), (2, .int x2)] [] σ (ah_N G (ah_ri r))) : ∀ (x0 : Nat) (x2 : Int32) (s0 : Nat) (s1 : Int32) (s2 : Int32) (σ : ah_H) (r : Int32 × ah_H), f_X12_text_118  K47 x0 x2 s0 s1 s2 σ = some r → AW G m_X12_text 209 0 0 118 [(0, .ref x0), (2, .int x2)] [.int s2, .int s1, .ref s0] σ (ah_N G (ah_ri r)) := by
  intro x0 x2 s0 s1 s2 σ r h
  unfold f_X12_text_118 at h
  obtain ⟨r1, e, h⟩ := op_bd h
  refine ow_cVv (pc := 118) [.int s1, .int s2] ((c_X12_reads _ _ _ _ _ e).mono (by decide)) (op_ck_sh e) rfl dX12_text_118 cw_X12_240 rfl (Nat.le_of_ble_eq_true rfl) ?_
  refine aw_iinc (pc := 121) 1 [(2, .int (x2 + (1 : Int32))), (0, .ref x0)] (x2 + (1 : Int32)) dX12_text_121 rfl rfl (by decide) rfl ?_
  refine aw_goto (pc := 124) 47 dX12_text_124 (by decide) ?_
  refine aw_sub [1, 0] rfl ?_
  exact hK47 _ _ _ _ h
set_option maxRecDepth 100000 in
set_option maxHeartbeats 4000000 in
theorem c_X12_text_65 {G : ah_G}  (K47 : Nat → Int32 → ah_H → Option (Int32 × ah_H)) (hK47 : ∀ (x0 : Nat) (x2 : Int32) (σ : ah_H) (r : Int32 × ah_H), K47 x0 x2 σ = some r → AW G m_X12_text 209 0 0 47 [(0, .ref x0), (2, .int x2)] [] σ (ah_N G (ah_ri r))) : ∀ (x0 : Nat) (x2 : Int32) (s0 : Nat) (s1 : Int32) (σ : ah_H) (r : Int32 × ah_H), f_X12_text_65  K47 x0 x2 s0 s1 σ = some r → AW G m_X12_text 209 0 0 65 [(0, .ref x0), (2, .int x2)] [.int s1, .ref s0] σ (ah_N G (ah_ri r)) := by
  intro x0 x2 s0 s1 σ r h
  unfold f_X12_text_65 at h
  refine aw_iconst (pc := 65) (v := (-1 : Int32)) dX12_text_65 (by decide) ?_
  refine aw_goto (pc := 66) 118 dX12_text_66 (by decide) ?_
  exact c_X12_text_118 K47 hK47 _ _ _ _ _ _ _ h
set_option maxRecDepth 100000 in
set_option maxHeartbeats 4000000 in
theorem c_X12_text_81 {G : ah_G}  (K47 : Nat → Int32 → ah_H → Option (Int32 × ah_H)) (hK47 : ∀ (x0 : Nat) (x2 : Int32) (σ : ah_H) (r : Int32 × ah_H), K47 x0 x2 σ = some r → AW G m_X12_text 209 0 0 47 [(0, .ref x0), (2, .int x2)] [] σ (ah_N G (ah_ri r))) : ∀ (x0 : Nat) (x2 : Int32) (s0 : Nat) (s1 : Int32) (σ : ah_H) (r : Int32 × ah_H), f_X12_text_81  K47 x0 x2 s0 s1 σ = some r → AW G m_X12_text 209 0 0 81 [(0, .ref x0), (2, .int x2)] [.int s1, .ref s0] σ (ah_N G (ah_ri r)) := by
  intro x0 x2 s0 s1 σ r h
  unfold f_X12_text_81 at h
  refine aw_iconst (pc := 81) (v := (1 : Int32)) dX12_text_81 (by decide) ?_
  refine aw_goto (pc := 82) 118 dX12_text_82 (by decide) ?_
  exact c_X12_text_118 K47 hK47 _ _ _ _ _ _ _ h
set_option maxRecDepth 100000 in
set_option maxHeartbeats 4000000 in
theorem c_X12_text_380 {G : ah_G}   : ∀ (x0 : Nat) (σ : ah_H) (r : Int32 × ah_H), f_X12_text_380   x0 σ = some r → AW G m_X12_text 209 0 0 380 [(0, .ref x0)] [] σ (ah_N G (ah_ri r)) := by
  intro x0 σ r h
  unfold f_X12_text_380 at h
  refine aw_aload_n (pc := 380) 0 dX12_text_380 rfl ?_
  refine aw_iconst (pc := 381) (v := (0 : Int32)) dX12_text_381 (by decide) ?_
  obtain ⟨σ1, e, h⟩ := op_bd h
  refine ow_pI (pc := 382) e dX12_text_382 fd_X12_320 ?_
  refine aw_aload_n (pc := 385) 0 dX12_text_385 rfl ?_
  refine aw_iconst (pc := 386) (v := (0 : Int32)) dX12_text_386 (by decide) ?_
  obtain ⟨σ2, e, h⟩ := op_bd h
  refine ow_pZ (pc := 387) e dX12_text_387 fd_X12_323 ?_
  refine aw_aload_n (pc := 390) 0 dX12_text_390 rfl ?_
  obtain ⟨v3, e, h⟩ := op_bd h
  refine ow_gI (pc := 391) e dX12_text_391 fd_X12_266 rfl ?_
  exact ow_iret (pc := 394) h dX12_text_394 rfl
set_option maxRecDepth 100000 in
set_option maxHeartbeats 4000000 in
theorem c_X12_text_361_b {G : ah_G}  (K361 : Nat → Int32 → ah_H → Option (Int32 × ah_H)) (hK361 : ∀ (x0 : Nat) (x2 : Int32) (σ : ah_H) (r : Int32 × ah_H), K361 x0 x2 σ = some r → AW G m_X12_text 209 0 0 361 [(0, .ref x0), (2, .int x2)] [] σ (ah_N G (ah_ri r))) : ∀ (x0 : Nat) (x2 : Int32) (σ : ah_H) (r : Int32 × ah_H), f_X12_text_361_b  K361 x0 x2 σ = some r → AW G m_X12_text 209 0 0 361 [(0, .ref x0), (2, .int x2)] [] σ (ah_N G (ah_ri r)) := by
  intro x0 x2 σ r h
  unfold f_X12_text_361_b at h
  refine aw_iload_n (pc := 361) 1 dX12_text_361 rfl ?_
  refine aw_bipush (pc := 362) (v := (7 : Int32)) dX12_text_362 (by decide) ?_
  refine aw_icmp_ge (pc := 364) 380 dX12_text_364 (by decide) (fun z => ?_) (fun z => ?_)
  · replace h := (if_pos z).symm.trans h
    refine aw_sub [0] rfl ?_
    exact c_X12_text_380  _ _ _ h
  · replace h := (if_neg z).symm.trans h
    refine aw_aload_n (pc := 367) 0 dX12_text_367 rfl ?_
    obtain ⟨v1, e, h⟩ := op_bd h
    refine ow_gR (pc := 368) e dX12_text_368 fd_X12_83 rfl ?_
    refine aw_iload_n (pc := 371) 1 dX12_text_371 rfl ?_
    refine aw_iconst (pc := 372) (v := (-1 : Int32)) dX12_text_372 (by decide) ?_
    obtain ⟨σ2, e, h⟩ := op_bd h
    refine ow_sI (pc := 373) e dX12_text_373 ?_
    refine aw_iinc (pc := 374) 1 [(2, .int (x2 + (1 : Int32))), (0, .ref x0)] (x2 + (1 : Int32)) dX12_text_374 rfl rfl (by decide) rfl ?_
    refine aw_goto (pc := 377) 361 dX12_text_377 (by decide) ?_
    refine aw_sub [1, 0] rfl ?_
    exact hK361 _ _ _ _ h
theorem c_X12_text_361 {G : ah_G}   : ∀ (n : Nat) (x0 : Nat) (x2 : Int32) (σ : ah_H) (r : Int32 × ah_H), f_X12_text_361   n x0 x2 σ = some r → AW G m_X12_text 209 0 0 361 [(0, .ref x0), (2, .int x2)] [] σ (ah_N G (ah_ri r)) := by
  intro n
  induction n with
  | zero => intro x0 x2 σ r h; cases h
  | succ n ih => intro x0 x2 σ r h; exact c_X12_text_361_b   _ ih x0 x2 σ r h
set_option maxRecDepth 100000 in
set_option maxHeartbeats 4000000 in
theorem c_X12_text_201 {G : ah_G}   : ∀ (x0 : Nat) (σ : ah_H) (r : Int32 × ah_H), f_X12_text_201   x0 σ = some r → AW G m_X12_text 209 0 0 201 [(0, .ref x0)] [] σ (ah_N G (ah_ri r)) := by
  intro x0 σ r h
  unfold f_X12_text_201 at h
  refine aw_aload_n (pc := 201) 0 dX12_text_201 rfl ?_
  refine aw_aload_n (pc := 202) 0 dX12_text_202 rfl ?_
  obtain ⟨v1, e, h⟩ := op_bd h
  refine ow_gI (pc := 203) e dX12_text_203 fd_X12_205 rfl ?_
  obtain ⟨σ2, e, h⟩ := op_bd h
  refine ow_pI (pc := 206) e dX12_text_206 fd_X12_313 ?_
  refine aw_aload_n (pc := 209) 0 dX12_text_209 rfl ?_
  refine aw_aload_n (pc := 210) 0 dX12_text_210 rfl ?_
  obtain ⟨v3, e, h⟩ := op_bd h
  refine ow_gI (pc := 211) e dX12_text_211 fd_X12_208 rfl ?_
  obtain ⟨σ4, e, h⟩ := op_bd h
  refine ow_pI (pc := 214) e dX12_text_214 fd_X12_72 ?_
  refine aw_aload_n (pc := 217) 0 dX12_text_217 rfl ?_
  obtain ⟨v5, e, h⟩ := op_bd h
  refine ow_gI (pc := 218) e dX12_text_218 fd_X12_205 rfl ?_
  refine aw_if_eq (pc := 221) 226 dX12_text_221 (by decide) (fun z => ?_) (fun z => ?_)
  · replace h := (if_pos z).symm.trans h
    refine aw_aload_n (pc := 226) 0 dX12_text_226 rfl ?_
    obtain ⟨v6, e, h⟩ := op_bd h
    refine ow_gR (pc := 227) e dX12_text_227 fd_X12_15 rfl ?_
    obtain ⟨r7, e, h⟩ := op_bd h
    refine ow_cSv (pc := 230) [.ref v6] ((c_X12_half _ _ _ e).mono (by decide)) rfl dX12_text_230 cw_X12_316 rfl (Nat.le_of_ble_eq_true rfl) ?_
    refine aw_aload_n (pc := 233) 0 dX12_text_233 rfl ?_
    obtain ⟨v8, e, h⟩ := op_bd h
    refine ow_gR (pc := 234) e dX12_text_234 fd_X12_18 rfl ?_
    obtain ⟨r9, e, h⟩ := op_bd h
    refine ow_cSv (pc := 237) [.ref v8] ((c_X12_half _ _ _ e).mono (by decide)) rfl dX12_text_237 cw_X12_316 rfl (Nat.le_of_ble_eq_true rfl) ?_
    refine aw_aload_n (pc := 240) 0 dX12_text_240 rfl ?_
    obtain ⟨v10, e, h⟩ := op_bd h
    refine ow_gR (pc := 241) e dX12_text_241 fd_X12_21 rfl ?_
    obtain ⟨r11, e, h⟩ := op_bd h
    refine ow_cSv (pc := 244) [.ref v10] ((c_X12_half _ _ _ e).mono (by decide)) rfl dX12_text_244 cw_X12_316 rfl (Nat.le_of_ble_eq_true rfl) ?_
    refine aw_aload_n (pc := 247) 0 dX12_text_247 rfl ?_
    obtain ⟨v12, e, h⟩ := op_bd h
    refine ow_gR (pc := 248) e dX12_text_248 fd_X12_24 rfl ?_
    obtain ⟨r13, e, h⟩ := op_bd h
    refine ow_cSv (pc := 251) [.ref v12] ((c_X12_half _ _ _ e).mono (by decide)) rfl dX12_text_251 cw_X12_316 rfl (Nat.le_of_ble_eq_true rfl) ?_
    refine aw_aload_n (pc := 254) 0 dX12_text_254 rfl ?_
    obtain ⟨v14, e, h⟩ := op_bd h
    refine ow_gR (pc := 255) e dX12_text_255 fd_X12_27 rfl ?_
    obtain ⟨r15, e, h⟩ := op_bd h
    refine ow_cSv (pc := 258) [.ref v14] ((c_X12_half _ _ _ e).mono (by decide)) rfl dX12_text_258 cw_X12_316 rfl (Nat.le_of_ble_eq_true rfl) ?_
    refine aw_aload_n (pc := 261) 0 dX12_text_261 rfl ?_
    obtain ⟨v16, e, h⟩ := op_bd h
    refine ow_gR (pc := 262) e dX12_text_262 fd_X12_30 rfl ?_
    obtain ⟨r17, e, h⟩ := op_bd h
    refine ow_cSv (pc := 265) [.ref v16] ((c_X12_half _ _ _ e).mono (by decide)) rfl dX12_text_265 cw_X12_316 rfl (Nat.le_of_ble_eq_true rfl) ?_
    refine aw_aload_n (pc := 268) 0 dX12_text_268 rfl ?_
    obtain ⟨v18, e, h⟩ := op_bd h
    refine ow_gR (pc := 269) e dX12_text_269 fd_X12_33 rfl ?_
    obtain ⟨r19, e, h⟩ := op_bd h
    refine ow_cSv (pc := 272) [.ref v18] ((c_X12_half _ _ _ e).mono (by decide)) rfl dX12_text_272 cw_X12_316 rfl (Nat.le_of_ble_eq_true rfl) ?_
    refine aw_aload_n (pc := 275) 0 dX12_text_275 rfl ?_
    obtain ⟨v20, e, h⟩ := op_bd h
    refine ow_gR (pc := 276) e dX12_text_276 fd_X12_36 rfl ?_
    obtain ⟨r21, e, h⟩ := op_bd h
    refine ow_cSv (pc := 279) [.ref v20] ((c_X12_half _ _ _ e).mono (by decide)) rfl dX12_text_279 cw_X12_316 rfl (Nat.le_of_ble_eq_true rfl) ?_
    refine aw_aload_n (pc := 282) 0 dX12_text_282 rfl ?_
    obtain ⟨v22, e, h⟩ := op_bd h
    refine ow_gR (pc := 283) e dX12_text_283 fd_X12_39 rfl ?_
    obtain ⟨r23, e, h⟩ := op_bd h
    refine ow_cSv (pc := 286) [.ref v22] ((c_X12_half _ _ _ e).mono (by decide)) rfl dX12_text_286 cw_X12_316 rfl (Nat.le_of_ble_eq_true rfl) ?_
    refine aw_aload_n (pc := 289) 0 dX12_text_289 rfl ?_
    obtain ⟨v24, e, h⟩ := op_bd h
    refine ow_gR (pc := 290) e dX12_text_290 fd_X12_42 rfl ?_
    obtain ⟨r25, e, h⟩ := op_bd h
    refine ow_cSv (pc := 293) [.ref v24] ((c_X12_half _ _ _ e).mono (by decide)) rfl dX12_text_293 cw_X12_316 rfl (Nat.le_of_ble_eq_true rfl) ?_
    refine aw_aload_n (pc := 296) 0 dX12_text_296 rfl ?_
    obtain ⟨v26, e, h⟩ := op_bd h
    refine ow_gR (pc := 297) e dX12_text_297 fd_X12_45 rfl ?_
    obtain ⟨r27, e, h⟩ := op_bd h
    refine ow_cSv (pc := 300) [.ref v26] ((c_X12_half _ _ _ e).mono (by decide)) rfl dX12_text_300 cw_X12_316 rfl (Nat.le_of_ble_eq_true rfl) ?_
    refine aw_aload_n (pc := 303) 0 dX12_text_303 rfl ?_
    obtain ⟨v28, e, h⟩ := op_bd h
    refine ow_gR (pc := 304) e dX12_text_304 fd_X12_48 rfl ?_
    obtain ⟨r29, e, h⟩ := op_bd h
    refine ow_cSv (pc := 307) [.ref v28] ((c_X12_half _ _ _ e).mono (by decide)) rfl dX12_text_307 cw_X12_316 rfl (Nat.le_of_ble_eq_true rfl) ?_
    refine aw_aload_n (pc := 310) 0 dX12_text_310 rfl ?_
    obtain ⟨v30, e, h⟩ := op_bd h
    refine ow_gR (pc := 311) e dX12_text_311 fd_X12_51 rfl ?_
    obtain ⟨r31, e, h⟩ := op_bd h
    refine ow_cSv (pc := 314) [.ref v30] ((c_X12_half _ _ _ e).mono (by decide)) rfl dX12_text_314 cw_X12_316 rfl (Nat.le_of_ble_eq_true rfl) ?_
    refine aw_aload_n (pc := 317) 0 dX12_text_317 rfl ?_
    obtain ⟨v32, e, h⟩ := op_bd h
    refine ow_gR (pc := 318) e dX12_text_318 fd_X12_54 rfl ?_
    obtain ⟨r33, e, h⟩ := op_bd h
    refine ow_cSv (pc := 321) [.ref v32] ((c_X12_half _ _ _ e).mono (by decide)) rfl dX12_text_321 cw_X12_316 rfl (Nat.le_of_ble_eq_true rfl) ?_
    refine aw_aload_n (pc := 324) 0 dX12_text_324 rfl ?_
    obtain ⟨v34, e, h⟩ := op_bd h
    refine ow_gR (pc := 325) e dX12_text_325 fd_X12_57 rfl ?_
    obtain ⟨r35, e, h⟩ := op_bd h
    refine ow_cSv (pc := 328) [.ref v34] ((c_X12_half _ _ _ e).mono (by decide)) rfl dX12_text_328 cw_X12_316 rfl (Nat.le_of_ble_eq_true rfl) ?_
    refine aw_aload_n (pc := 331) 0 dX12_text_331 rfl ?_
    obtain ⟨v36, e, h⟩ := op_bd h
    refine ow_gR (pc := 332) e dX12_text_332 fd_X12_60 rfl ?_
    obtain ⟨r37, e, h⟩ := op_bd h
    refine ow_cSv (pc := 335) [.ref v36] ((c_X12_half _ _ _ e).mono (by decide)) rfl dX12_text_335 cw_X12_316 rfl (Nat.le_of_ble_eq_true rfl) ?_
    refine aw_aload_n (pc := 338) 0 dX12_text_338 rfl ?_
    obtain ⟨v38, e, h⟩ := op_bd h
    refine ow_gR (pc := 339) e dX12_text_339 fd_X12_63 rfl ?_
    obtain ⟨r39, e, h⟩ := op_bd h
    refine ow_cSv (pc := 342) [.ref v38] ((c_X12_half _ _ _ e).mono (by decide)) rfl dX12_text_342 cw_X12_316 rfl (Nat.le_of_ble_eq_true rfl) ?_
    refine aw_aload_n (pc := 345) 0 dX12_text_345 rfl ?_
    obtain ⟨v40, e, h⟩ := op_bd h
    refine ow_gR (pc := 346) e dX12_text_346 fd_X12_66 rfl ?_
    obtain ⟨r41, e, h⟩ := op_bd h
    refine ow_cSv (pc := 349) [.ref v40] ((c_X12_half _ _ _ e).mono (by decide)) rfl dX12_text_349 cw_X12_316 rfl (Nat.le_of_ble_eq_true rfl) ?_
    refine aw_aload_n (pc := 352) 0 dX12_text_352 rfl ?_
    obtain ⟨v42, e, h⟩ := op_bd h
    refine ow_gR (pc := 353) e dX12_text_353 fd_X12_69 rfl ?_
    obtain ⟨r43, e, h⟩ := op_bd h
    refine ow_cSv (pc := 356) [.ref v42] ((c_X12_half _ _ _ e).mono (by decide)) rfl dX12_text_356 cw_X12_316 rfl (Nat.le_of_ble_eq_true rfl) ?_
    refine aw_iconst (pc := 359) (v := (0 : Int32)) dX12_text_359 (by decide) ?_
    refine aw_istore_n (pc := 360) [(2, .int (0 : Int32)), (0, .ref x0)] dX12_text_360 rfl (by decide) rfl ?_
    refine aw_sub [1, 0] rfl ?_
    exact c_X12_text_361  _ _ _ _ _ h
  · replace h := (if_neg z).symm.trans h
    refine aw_iconst (pc := 224) (v := (-1 : Int32)) dX12_text_224 (by decide) ?_
    exact ow_iret (pc := 225) h dX12_text_225 rfl
set_option maxRecDepth 100000 in
set_option maxHeartbeats 4000000 in
theorem c_X12_text_179_b {G : ah_G}  (K179 : Nat → ah_H → Option (Int32 × ah_H)) (hK179 : ∀ (x0 : Nat) (σ : ah_H) (r : Int32 × ah_H), K179 x0 σ = some r → AW G m_X12_text 209 0 0 179 [(0, .ref x0)] [] σ (ah_N G (ah_ri r))) : ∀ (x0 : Nat) (σ : ah_H) (r : Int32 × ah_H), f_X12_text_179_b  K179 x0 σ = some r → AW G m_X12_text 209 0 0 179 [(0, .ref x0)] [] σ (ah_N G (ah_ri r)) := by
  intro x0 σ r h
  unfold f_X12_text_179_b at h
  refine aw_aload_n (pc := 179) 0 dX12_text_179 rfl ?_
  obtain ⟨v1, e, h⟩ := op_bd h
  refine ow_gI (pc := 180) e dX12_text_180 fd_X12_205 rfl ?_
  refine aw_if_ne (pc := 183) 201 dX12_text_183 (by decide) (fun z => ?_) (fun z => ?_)
  · replace h := (if_neg z).symm.trans h
    exact c_X12_text_201  _ _ _ h
  · replace h := (if_pos z).symm.trans h
    refine aw_aload_n (pc := 186) 0 dX12_text_186 rfl ?_
    obtain ⟨v2, e, h⟩ := op_bd h
    refine ow_gI (pc := 187) e dX12_text_187 fd_X12_172 rfl ?_
    refine aw_iconst (pc := 190) (v := (4 : Int32)) dX12_text_190 (by decide) ?_
    refine aw_icmp_eq (pc := 191) 201 dX12_text_191 (by decide) (fun z => ?_) (fun z => ?_)
    · replace h := (if_pos z).symm.trans h
      exact c_X12_text_201  _ _ _ h
    · replace h := (if_neg z).symm.trans h
      refine aw_aload_n (pc := 194) 0 dX12_text_194 rfl ?_
      obtain ⟨r3, e, h⟩ := op_bd h
      refine ow_cVv (pc := 195) [] ((c_X12_line _ _ _ e).mono (by decide)) (op_ck_sh e) rfl dX12_text_195 cw_X12_310 rfl (Nat.le_of_ble_eq_true rfl) ?_
      refine aw_goto (pc := 198) 179 dX12_text_198 (by decide) ?_
      exact hK179 _ _ _ h
theorem c_X12_text_179 {G : ah_G}   : ∀ (n : Nat) (x0 : Nat) (σ : ah_H) (r : Int32 × ah_H), f_X12_text_179   n x0 σ = some r → AW G m_X12_text 209 0 0 179 [(0, .ref x0)] [] σ (ah_N G (ah_ri r)) := by
  intro n
  induction n with
  | zero => intro x0 σ r h; cases h
  | succ n ih => intro x0 σ r h; exact c_X12_text_179_b   _ ih x0 σ r h
set_option maxRecDepth 100000 in
set_option maxHeartbeats 4000000 in
theorem c_X12_text_155 {G : ah_G}   : ∀ (x0 : Nat) (σ : ah_H) (r : Int32 × ah_H), f_X12_text_155   x0 σ = some r → AW G m_X12_text 209 0 0 155 [(0, .ref x0)] [] σ (ah_N G (ah_ri r)) := by
  intro x0 σ r h
  unfold f_X12_text_155 at h
  refine aw_aload_n (pc := 155) 0 dX12_text_155 rfl ?_
  refine aw_iconst (pc := 156) (v := (0 : Int32)) dX12_text_156 (by decide) ?_
  obtain ⟨σ1, e, h⟩ := op_bd h
  refine ow_pI (pc := 157) e dX12_text_157 fd_X12_231 ?_
  refine aw_aload_n (pc := 160) 0 dX12_text_160 rfl ?_
  refine aw_iconst (pc := 161) (v := (0 : Int32)) dX12_text_161 (by decide) ?_
  obtain ⟨σ2, e, h⟩ := op_bd h
  refine ow_pI (pc := 162) e dX12_text_162 fd_X12_266 ?_
  refine aw_aload_n (pc := 165) 0 dX12_text_165 rfl ?_
  refine aw_iconst (pc := 166) (v := (0 : Int32)) dX12_text_166 (by decide) ?_
  obtain ⟨σ3, e, h⟩ := op_bd h
  refine ow_pI (pc := 167) e dX12_text_167 fd_X12_307 ?_
  refine aw_aload_n (pc := 170) 0 dX12_text_170 rfl ?_
  refine aw_iconst (pc := 171) (v := (0 : Int32)) dX12_text_171 (by decide) ?_
  obtain ⟨σ4, e, h⟩ := op_bd h
  refine ow_pI (pc := 172) e dX12_text_172 fd_X12_283 ?_
  refine aw_aload_n (pc := 175) 0 dX12_text_175 rfl ?_
  obtain ⟨r5, e, h⟩ := op_bd h
  refine ow_cVv (pc := 176) [] ((c_X12_token _ _ _ e).mono (by decide)) (op_ck_sh e) rfl dX12_text_176 cw_X12_211 rfl (Nat.le_of_ble_eq_true rfl) ?_
  exact c_X12_text_179  _ _ _ _ h
set_option maxRecDepth 100000 in
set_option maxHeartbeats 4000000 in
theorem c_X12_text_129_b {G : ah_G}  (K129 : Nat → Int32 → ah_H → Option (Int32 × ah_H)) (hK129 : ∀ (x0 : Nat) (x2 : Int32) (σ : ah_H) (r : Int32 × ah_H), K129 x0 x2 σ = some r → AW G m_X12_text 209 0 0 129 [(0, .ref x0), (2, .int x2)] [] σ (ah_N G (ah_ri r))) : ∀ (x0 : Nat) (x2 : Int32) (σ : ah_H) (r : Int32 × ah_H), f_X12_text_129_b  K129 x0 x2 σ = some r → AW G m_X12_text 209 0 0 129 [(0, .ref x0), (2, .int x2)] [] σ (ah_N G (ah_ri r)) := by
  intro x0 x2 σ r h
  unfold f_X12_text_129_b at h
  refine aw_iload_n (pc := 129) 1 dX12_text_129 rfl ?_
  refine aw_bipush (pc := 130) (v := (6 : Int32)) dX12_text_130 (by decide) ?_
  refine aw_icmp_ge (pc := 132) 155 dX12_text_132 (by decide) (fun z => ?_) (fun z => ?_)
  · replace h := (if_pos z).symm.trans h
    refine aw_sub [0] rfl ?_
    exact c_X12_text_155  _ _ _ h
  · replace h := (if_neg z).symm.trans h
    refine aw_aload_n (pc := 135) 0 dX12_text_135 rfl ?_
    obtain ⟨v1, e, h⟩ := op_bd h
    refine ow_gR (pc := 136) e dX12_text_136 fd_X12_60 rfl ?_
    refine aw_iload_n (pc := 139) 1 dX12_text_139 rfl ?_
    refine aw_iconst (pc := 140) (v := (0 : Int32)) dX12_text_140 (by decide) ?_
    obtain ⟨σ2, e, h⟩ := op_bd h
    refine ow_sI (pc := 141) e dX12_text_141 ?_
    refine aw_aload_n (pc := 142) 0 dX12_text_142 rfl ?_
    obtain ⟨v3, e, h⟩ := op_bd h
    refine ow_gR (pc := 143) e dX12_text_143 fd_X12_63 rfl ?_
    refine aw_iload_n (pc := 146) 1 dX12_text_146 rfl ?_
    refine aw_iconst (pc := 147) (v := (0 : Int32)) dX12_text_147 (by decide) ?_
    obtain ⟨σ4, e, h⟩ := op_bd h
    refine ow_sI (pc := 148) e dX12_text_148 ?_
    refine aw_iinc (pc := 149) 1 [(2, .int (x2 + (1 : Int32))), (0, .ref x0)] (x2 + (1 : Int32)) dX12_text_149 rfl rfl (by decide) rfl ?_
    refine aw_goto (pc := 152) 129 dX12_text_152 (by decide) ?_
    refine aw_sub [1, 0] rfl ?_
    exact hK129 _ _ _ _ h
theorem c_X12_text_129 {G : ah_G}   : ∀ (n : Nat) (x0 : Nat) (x2 : Int32) (σ : ah_H) (r : Int32 × ah_H), f_X12_text_129   n x0 x2 σ = some r → AW G m_X12_text 209 0 0 129 [(0, .ref x0), (2, .int x2)] [] σ (ah_N G (ah_ri r)) := by
  intro n
  induction n with
  | zero => intro x0 x2 σ r h; cases h
  | succ n ih => intro x0 x2 σ r h; exact c_X12_text_129_b   _ ih x0 x2 σ r h
set_option maxRecDepth 100000 in
set_option maxHeartbeats 4000000 in
theorem c_X12_text_127 {G : ah_G}   : ∀ (x0 : Nat) (σ : ah_H) (r : Int32 × ah_H), f_X12_text_127   x0 σ = some r → AW G m_X12_text 209 0 0 127 [(0, .ref x0)] [] σ (ah_N G (ah_ri r)) := by
  intro x0 σ r h
  unfold f_X12_text_127 at h
  refine aw_iconst (pc := 127) (v := (3 : Int32)) dX12_text_127 (by decide) ?_
  refine aw_istore_n (pc := 128) [(2, .int (3 : Int32)), (0, .ref x0)] dX12_text_128 rfl (by decide) rfl ?_
  refine aw_sub [1, 0] rfl ?_
  exact c_X12_text_129  _ _ _ _ _ h
set_option maxRecDepth 100000 in
set_option maxHeartbeats 4000000 in
theorem c_X12_text_47_b {G : ah_G}  (K47 : Nat → Int32 → ah_H → Option (Int32 × ah_H)) (hK47 : ∀ (x0 : Nat) (x2 : Int32) (σ : ah_H) (r : Int32 × ah_H), K47 x0 x2 σ = some r → AW G m_X12_text 209 0 0 47 [(0, .ref x0), (2, .int x2)] [] σ (ah_N G (ah_ri r))) : ∀ (x0 : Nat) (x2 : Int32) (σ : ah_H) (r : Int32 × ah_H), f_X12_text_47_b  K47 x0 x2 σ = some r → AW G m_X12_text 209 0 0 47 [(0, .ref x0), (2, .int x2)] [] σ (ah_N G (ah_ri r)) := by
  intro x0 x2 σ r h
  unfold f_X12_text_47_b at h
  refine aw_iload_n (pc := 47) 1 dX12_text_47 rfl ?_
  refine aw_bipush (pc := 48) (v := (12 : Int32)) dX12_text_48 (by decide) ?_
  refine aw_icmp_ge (pc := 50) 127 dX12_text_50 (by decide) (fun z => ?_) (fun z => ?_)
  · replace h := (if_pos z).symm.trans h
    refine aw_sub [0] rfl ?_
    exact c_X12_text_127  _ _ _ h
  · replace h := (if_neg z).symm.trans h
    refine aw_aload_n (pc := 53) 0 dX12_text_53 rfl ?_
    refine aw_iload_n (pc := 54) 1 dX12_text_54 rfl ?_
    refine aw_iload_n (pc := 55) 1 dX12_text_55 rfl ?_
    refine aw_iconst (pc := 56) (v := (4 : Int32)) dX12_text_56 (by decide) ?_
    refine aw_icmp_eq (pc := 57) 65 dX12_text_57 (by decide) (fun z => ?_) (fun z => ?_)
    · replace h := (if_pos z).symm.trans h
      exact c_X12_text_65 K47 hK47 _ _ _ _ _ _ h
    · replace h := (if_neg z).symm.trans h
      refine aw_iload_n (pc := 60) 1 dX12_text_60 rfl ?_
      refine aw_iconst (pc := 61) (v := (5 : Int32)) dX12_text_61 (by decide) ?_
      refine aw_icmp_ne (pc := 62) 69 dX12_text_62 (by decide) (fun z => ?_) (fun z => ?_)
      · replace h := (if_neg z).symm.trans h
        refine aw_iload_n (pc := 69) 1 dX12_text_69 rfl ?_
        refine aw_bipush (pc := 70) (v := (6 : Int32)) dX12_text_70 (by decide) ?_
        refine aw_icmp_eq (pc := 72) 81 dX12_text_72 (by decide) (fun z => ?_) (fun z => ?_)
        · replace h := (if_pos z).symm.trans h
          exact c_X12_text_81 K47 hK47 _ _ _ _ _ _ h
        · replace h := (if_neg z).symm.trans h
          refine aw_iload_n (pc := 75) 1 dX12_text_75 rfl ?_
          refine aw_bipush (pc := 76) (v := (10 : Int32)) dX12_text_76 (by decide) ?_
          refine aw_icmp_ne (pc := 78) 85 dX12_text_78 (by decide) (fun z => ?_) (fun z => ?_)
          · replace h := (if_neg z).symm.trans h
            refine aw_iload_n (pc := 85) 1 dX12_text_85 rfl ?_
            refine aw_bipush (pc := 86) (v := (7 : Int32)) dX12_text_86 (by decide) ?_
            refine aw_icmp_ne (pc := 88) 96 dX12_text_88 (by decide) (fun z => ?_) (fun z => ?_)
            · replace h := (if_neg z).symm.trans h
              refine aw_iload_n (pc := 96) 1 dX12_text_96 rfl ?_
              refine aw_bipush (pc := 97) (v := (8 : Int32)) dX12_text_97 (by decide) ?_
              refine aw_icmp_ne (pc := 99) 106 dX12_text_99 (by decide) (fun z => ?_) (fun z => ?_)
              · replace h := (if_neg z).symm.trans h
                refine aw_iload_n (pc := 106) 1 dX12_text_106 rfl ?_
                refine aw_bipush (pc := 107) (v := (9 : Int32)) dX12_text_107 (by decide) ?_
                refine aw_icmp_ne (pc := 109) 117 dX12_text_109 (by decide) (fun z => ?_) (fun z => ?_)
                · replace h := (if_neg z).symm.trans h
                  refine aw_iconst (pc := 117) (v := (0 : Int32)) dX12_text_117 (by decide) ?_
                  exact c_X12_text_118 K47 hK47 _ _ _ _ _ _ _ h
                · replace h := (if_pos z).symm.trans h
                  refine aw_bipush (pc := 112) (v := (8 : Int32)) dX12_text_112 (by decide) ?_
                  refine aw_goto (pc := 114) 118 dX12_text_114 (by decide) ?_
                  exact c_X12_text_118 K47 hK47 _ _ _ _ _ _ _ h
              · replace h := (if_pos z).symm.trans h
                refine aw_iconst (pc := 102) (v := (2 : Int32)) dX12_text_102 (by decide) ?_
                refine aw_goto (pc := 103) 118 dX12_text_103 (by decide) ?_
                exact c_X12_text_118 K47 hK47 _ _ _ _ _ _ _ h
            · replace h := (if_pos z).symm.trans h
              refine aw_bipush (pc := 91) (v := (9 : Int32)) dX12_text_91 (by decide) ?_
              refine aw_goto (pc := 93) 118 dX12_text_93 (by decide) ?_
              exact c_X12_text_118 K47 hK47 _ _ _ _ _ _ _ h
          · replace h := (if_pos z).symm.trans h
            exact c_X12_text_81 K47 hK47 _ _ _ _ _ _ h
      · replace h := (if_pos z).symm.trans h
        exact c_X12_text_65 K47 hK47 _ _ _ _ _ _ h
theorem c_X12_text_47 {G : ah_G}   : ∀ (n : Nat) (x0 : Nat) (x2 : Int32) (σ : ah_H) (r : Int32 × ah_H), f_X12_text_47   n x0 x2 σ = some r → AW G m_X12_text 209 0 0 47 [(0, .ref x0), (2, .int x2)] [] σ (ah_N G (ah_ri r)) := by
  intro n
  induction n with
  | zero => intro x0 x2 σ r h; cases h
  | succ n ih => intro x0 x2 σ r h; exact c_X12_text_47_b   _ ih x0 x2 σ r h
set_option maxRecDepth 100000 in
set_option maxHeartbeats 4000000 in
theorem c_X12_text_0 {G : ah_G}   : ∀ (x0 : Nat) (x1 : Int32) (σ : ah_H) (r : Int32 × ah_H), f_X12_text_0   x0 x1 σ = some r → AW G m_X12_text 209 0 0 0 [(0, .ref x0), (1, .int x1)] [] σ (ah_N G (ah_ri r)) := by
  intro x0 x1 σ r h
  unfold f_X12_text_0 at h
  refine aw_aload_n (pc := 0) 0 dX12_text_0 rfl ?_
  refine aw_iconst (pc := 1) (v := (0 : Int32)) dX12_text_1 (by decide) ?_
  obtain ⟨σ1, e, h⟩ := op_bd h
  refine ow_pI (pc := 2) e dX12_text_2 fd_X12_153 ?_
  refine aw_iload_n (pc := 5) 1 dX12_text_5 rfl ?_
  refine aw_if_lt (pc := 6) 17 dX12_text_6 (by decide) (fun z => ?_) (fun z => ?_)
  · replace h := (if_pos z).symm.trans h
    refine aw_bipush (pc := 17) (v := (-2 : Int32)) dX12_text_17 (by decide) ?_
    exact ow_iret (pc := 19) h dX12_text_19 rfl
  · replace h := (if_neg z).symm.trans h
    refine aw_iload_n (pc := 9) 1 dX12_text_9 rfl ?_
    refine aw_aload_n (pc := 10) 0 dX12_text_10 rfl ?_
    obtain ⟨v2, e, h⟩ := op_bd h
    refine ow_gI (pc := 11) e dX12_text_11 fd_X12_156 rfl ?_
    refine aw_icmp_le (pc := 14) 20 dX12_text_14 (by decide) (fun z => ?_) (fun z => ?_)
    · replace h := (if_pos z).symm.trans h
      refine aw_aload_n (pc := 20) 0 dX12_text_20 rfl ?_
      refine aw_iload_n (pc := 21) 1 dX12_text_21 rfl ?_
      obtain ⟨σ3, e, h⟩ := op_bd h
      refine ow_pI (pc := 22) e dX12_text_22 fd_X12_162 ?_
      refine aw_aload_n (pc := 25) 0 dX12_text_25 rfl ?_
      refine aw_iconst (pc := 26) (v := (0 : Int32)) dX12_text_26 (by decide) ?_
      obtain ⟨σ4, e, h⟩ := op_bd h
      refine ow_pI (pc := 27) e dX12_text_27 fd_X12_156 ?_
      refine aw_aload_n (pc := 30) 0 dX12_text_30 rfl ?_
      refine aw_iconst (pc := 31) (v := (0 : Int32)) dX12_text_31 (by decide) ?_
      obtain ⟨σ5, e, h⟩ := op_bd h
      refine ow_pI (pc := 32) e dX12_text_32 fd_X12_159 ?_
      refine aw_aload_n (pc := 35) 0 dX12_text_35 rfl ?_
      refine aw_iconst (pc := 36) (v := (0 : Int32)) dX12_text_36 (by decide) ?_
      obtain ⟨σ6, e, h⟩ := op_bd h
      refine ow_pI (pc := 37) e dX12_text_37 fd_X12_205 ?_
      refine aw_aload_n (pc := 40) 0 dX12_text_40 rfl ?_
      refine aw_iconst (pc := 41) (v := (-1 : Int32)) dX12_text_41 (by decide) ?_
      obtain ⟨σ7, e, h⟩ := op_bd h
      refine ow_pI (pc := 42) e dX12_text_42 fd_X12_208 ?_
      refine aw_iconst (pc := 45) (v := (0 : Int32)) dX12_text_45 (by decide) ?_
      refine aw_istore_n (pc := 46) [(2, .int (0 : Int32)), (0, .ref x0), (1, .int x1)] dX12_text_46 rfl (by decide) rfl ?_
      refine aw_sub [1, 0] rfl ?_
      exact c_X12_text_47  _ _ _ _ _ h
    · replace h := (if_neg z).symm.trans h
      refine aw_bipush (pc := 17) (v := (-2 : Int32)) dX12_text_17 (by decide) ?_
      exact ow_iret (pc := 19) h dX12_text_19 rfl
theorem c_X12_text {G : ah_G}   (x0 : Nat) (x1 : Int32) (σ : ah_H) (r : Int32 × ah_H) (h : f_X12_text  x0 x1 σ = some r) : AM G m_X12_text 209 0 0 [.ref x0, .int x1] σ (ah_ri r) := aw_enter (by decide) (Nat.le_of_ble_eq_true rfl) (c_X12_text_0 _ _ _ _ (op_ck_k h))
def f_X12_fault_0   (x0 : Nat) (x1 : Int32) (σ : ah_H) : Option (Int32 × ah_H) :=
  (op_pI 12 0 σ x0 (0 : Int32)).bind fun σ1 => if x1 = 0 then ((op_gI 12 31 σ1 x0).bind fun v3 => some (v3, σ1)) else (if x1 = (1 : Int32) then ((op_gI 12 32 σ1 x0).bind fun v2 => some (v2, σ1)) else (some ((-1 : Int32), σ1)))
def f_X12_fault  (x0 : Nat) (x1 : Int32) (σ : ah_H) : Option (Int32 × ah_H) := op_ck 12 σ x0 (f_X12_fault_0 x0 x1 σ)
set_option maxRecDepth 100000 in
set_option maxHeartbeats 4000000 in
theorem c_X12_fault_0 {G : ah_G}   : ∀ (x0 : Nat) (x1 : Int32) (σ : ah_H) (r : Int32 × ah_H), f_X12_fault_0   x0 x1 σ = some r → AW G m_X12_fault 0 0 0 0 [(0, .ref x0), (1, .int x1)] [] σ (ah_N G (ah_ri r)) := by
  intro x0 x1 σ r h
  unfold f_X12_fault_0 at h
  refine aw_aload_n (pc := 0) 0 dX12_fault_0 rfl ?_
  refine aw_iconst (pc := 1) (v := (0 : Int32)) dX12_fault_1 (by decide) ?_
  obtain ⟨σ1, e, h⟩ := op_bd h
  refine ow_pI (pc := 2) e dX12_fault_2 fd_X12_153 ?_
  refine aw_iload_n (pc := 5) 1 dX12_fault_5 rfl ?_
  refine aw_if_ne (pc := 6) 16 dX12_fault_6 (by decide) (fun z => ?_) (fun z => ?_)
  · replace h := (if_neg z).symm.trans h
    refine aw_iload_n (pc := 16) 1 dX12_fault_16 rfl ?_
    refine aw_iconst (pc := 17) (v := (1 : Int32)) dX12_fault_17 (by decide) ?_
    refine aw_icmp_ne (pc := 18) 28 dX12_fault_18 (by decide) (fun z => ?_) (fun z => ?_)
    · replace h := (if_neg z).symm.trans h
      refine aw_iconst (pc := 28) (v := (-1 : Int32)) dX12_fault_28 (by decide) ?_
      exact ow_iret (pc := 29) h dX12_fault_29 rfl
    · replace h := (if_pos z).symm.trans h
      refine aw_aload_n (pc := 21) 0 dX12_fault_21 rfl ?_
      obtain ⟨v2, e, h⟩ := op_bd h
      refine ow_gI (pc := 22) e dX12_fault_22 fd_X12_72 rfl ?_
      refine aw_goto (pc := 25) 29 dX12_fault_25 (by decide) ?_
      exact ow_iret (pc := 29) h dX12_fault_29 rfl
  · replace h := (if_pos z).symm.trans h
    refine aw_aload_n (pc := 9) 0 dX12_fault_9 rfl ?_
    obtain ⟨v3, e, h⟩ := op_bd h
    refine ow_gI (pc := 10) e dX12_fault_10 fd_X12_313 rfl ?_
    refine aw_goto (pc := 13) 29 dX12_fault_13 (by decide) ?_
    exact ow_iret (pc := 29) h dX12_fault_29 rfl
theorem c_X12_fault {G : ah_G}   (x0 : Nat) (x1 : Int32) (σ : ah_H) (r : Int32 × ah_H) (h : f_X12_fault  x0 x1 σ = some r) : AM G m_X12_fault 0 0 0 [.ref x0, .int x1] σ (ah_ri r) := aw_enter (by decide) (Nat.le_of_ble_eq_true rfl) (c_X12_fault_0 _ _ _ _ (op_ck_k h))
def f_X12_named_0   (x0 : Nat) (x1 : Int32) (x2 : Int32) (σ : ah_H) : Option (Int32 × ah_H) :=
  (op_pI 12 0 σ x0 (0 : Int32)).bind fun σ1 => if x1 = 0 then ((op_gR 12 4 σ1 x0).bind fun v6 => (op_gR 12 3 σ1 x0).bind fun v7 => (op_aI σ1 v7 (0 : Int32)).bind fun v8 => (f_X12_found v6 (0 : Int32) v8 x2 σ1).bind fun r9 => some (r9.1, r9.2)) else (if x1 = (1 : Int32) then ((op_gR 12 15 σ1 x0).bind fun v2 => (op_gR 12 3 σ1 x0).bind fun v3 => (op_aI σ1 v3 (3 : Int32)).bind fun v4 => (f_X12_found v2 (0 : Int32) v4 x2 σ1).bind fun r5 => some (r5.1, r5.2)) else (some ((-1 : Int32), σ1)))
def f_X12_named  (x0 : Nat) (x1 : Int32) (x2 : Int32) (σ : ah_H) : Option (Int32 × ah_H) := op_ck 12 σ x0 (f_X12_named_0 x0 x1 x2 σ)
set_option maxRecDepth 100000 in
set_option maxHeartbeats 4000000 in
theorem c_X12_named_0 {G : ah_G}   : ∀ (x0 : Nat) (x1 : Int32) (x2 : Int32) (σ : ah_H) (r : Int32 × ah_H), f_X12_named_0   x0 x1 x2 σ = some r → AW G m_X12_named 1 0 0 0 [(0, .ref x0), (1, .int x1), (2, .int x2)] [] σ (ah_N G (ah_ri r)) := by
  intro x0 x1 x2 σ r h
  unfold f_X12_named_0 at h
  refine aw_aload_n (pc := 0) 0 dX12_named_0 rfl ?_
  refine aw_iconst (pc := 1) (v := (0 : Int32)) dX12_named_1 (by decide) ?_
  obtain ⟨σ1, e, h⟩ := op_bd h
  refine ow_pI (pc := 2) e dX12_named_2 fd_X12_153 ?_
  refine aw_iload_n (pc := 5) 1 dX12_named_5 rfl ?_
  refine aw_if_ne (pc := 6) 27 dX12_named_6 (by decide) (fun z => ?_) (fun z => ?_)
  · replace h := (if_neg z).symm.trans h
    refine aw_iload_n (pc := 27) 1 dX12_named_27 rfl ?_
    refine aw_iconst (pc := 28) (v := (1 : Int32)) dX12_named_28 (by decide) ?_
    refine aw_icmp_ne (pc := 29) 50 dX12_named_29 (by decide) (fun z => ?_) (fun z => ?_)
    · replace h := (if_neg z).symm.trans h
      refine aw_iconst (pc := 50) (v := (-1 : Int32)) dX12_named_50 (by decide) ?_
      exact ow_iret (pc := 51) h dX12_named_51 rfl
    · replace h := (if_pos z).symm.trans h
      refine aw_aload_n (pc := 32) 0 dX12_named_32 rfl ?_
      obtain ⟨v2, e, h⟩ := op_bd h
      refine ow_gR (pc := 33) e dX12_named_33 fd_X12_51 rfl ?_
      refine aw_iconst (pc := 36) (v := (0 : Int32)) dX12_named_36 (by decide) ?_
      refine aw_aload_n (pc := 37) 0 dX12_named_37 rfl ?_
      obtain ⟨v3, e, h⟩ := op_bd h
      refine ow_gR (pc := 38) e dX12_named_38 fd_X12_15 rfl ?_
      refine aw_iconst (pc := 41) (v := (3 : Int32)) dX12_named_41 (by decide) ?_
      obtain ⟨v4, e, h⟩ := op_bd h
      refine ow_aI (pc := 42) e dX12_named_42 ?_
      refine aw_iload_n (pc := 43) 2 dX12_named_43 rfl ?_
      obtain ⟨r5, e, h⟩ := op_bd h
      refine ow_cSi (pc := 44) [.ref v2, .int (0 : Int32), .int v4, .int x2] ((c_X12_found _ _ _ _ _ _ e).mono (by decide)) rfl dX12_named_44 cw_X12_217 rfl (Nat.le_of_ble_eq_true rfl) ?_
      refine aw_goto (pc := 47) 51 dX12_named_47 (by decide) ?_
      exact ow_iret (pc := 51) h dX12_named_51 rfl
  · replace h := (if_pos z).symm.trans h
    refine aw_aload_n (pc := 9) 0 dX12_named_9 rfl ?_
    obtain ⟨v6, e, h⟩ := op_bd h
    refine ow_gR (pc := 10) e dX12_named_10 fd_X12_18 rfl ?_
    refine aw_iconst (pc := 13) (v := (0 : Int32)) dX12_named_13 (by decide) ?_
    refine aw_aload_n (pc := 14) 0 dX12_named_14 rfl ?_
    obtain ⟨v7, e, h⟩ := op_bd h
    refine ow_gR (pc := 15) e dX12_named_15 fd_X12_15 rfl ?_
    refine aw_iconst (pc := 18) (v := (0 : Int32)) dX12_named_18 (by decide) ?_
    obtain ⟨v8, e, h⟩ := op_bd h
    refine ow_aI (pc := 19) e dX12_named_19 ?_
    refine aw_iload_n (pc := 20) 2 dX12_named_20 rfl ?_
    obtain ⟨r9, e, h⟩ := op_bd h
    refine ow_cSi (pc := 21) [.ref v6, .int (0 : Int32), .int v8, .int x2] ((c_X12_found _ _ _ _ _ _ e).mono (by decide)) rfl dX12_named_21 cw_X12_217 rfl (Nat.le_of_ble_eq_true rfl) ?_
    refine aw_goto (pc := 24) 51 dX12_named_24 (by decide) ?_
    exact ow_iret (pc := 51) h dX12_named_51 rfl
theorem c_X12_named {G : ah_G}   (x0 : Nat) (x1 : Int32) (x2 : Int32) (σ : ah_H) (r : Int32 × ah_H) (h : f_X12_named  x0 x1 x2 σ = some r) : AM G m_X12_named 1 0 0 [.ref x0, .int x1, .int x2] σ (ah_ri r) := aw_enter (by decide) (Nat.le_of_ble_eq_true rfl) (c_X12_named_0 _ _ _ _ _ (op_ck_k h))
def f_X12_isCorner_0   (x0 : Nat) (x1 : Int32) (σ : ah_H) : Option (Int32 × ah_H) :=
  if x1 < 0 then ((op_rz (0 : Int32)).map fun q => (q, σ)) else ((op_gR 12 3 σ x0).bind fun v1 => (op_aI σ v1 (0 : Int32)).bind fun v2 => if v2 ≤ x1 then ((op_rz (0 : Int32)).map fun q => (q, σ)) else ((op_rz (1 : Int32)).map fun q => (q, σ)))
def f_X12_isCorner  (x0 : Nat) (x1 : Int32) (σ : ah_H) : Option (Int32 × ah_H) := op_ck 12 σ x0 (f_X12_isCorner_0 x0 x1 σ)
set_option maxRecDepth 100000 in
set_option maxHeartbeats 4000000 in
theorem c_X12_isCorner_0 {G : ah_G}   : ∀ (x0 : Nat) (x1 : Int32) (σ : ah_H) (r : Int32 × ah_H), f_X12_isCorner_0   x0 x1 σ = some r → AW G m_X12_isCorner 0 0 0 0 [(0, .ref x0), (1, .int x1)] [] σ (ah_N G (ah_ri r)) := by
  intro x0 x1 σ r h
  unfold f_X12_isCorner_0 at h
  refine aw_iload_n (pc := 0) 1 dX12_isCorner_0 rfl ?_
  refine aw_if_lt (pc := 1) 18 dX12_isCorner_1 (by decide) (fun z => ?_) (fun z => ?_)
  · replace h := (if_pos z).symm.trans h
    refine aw_iconst (pc := 18) (v := (0 : Int32)) dX12_isCorner_18 (by decide) ?_
    exact ow_zret (pc := 19) h dX12_isCorner_19 rfl
  · replace h := (if_neg z).symm.trans h
    refine aw_iload_n (pc := 4) 1 dX12_isCorner_4 rfl ?_
    refine aw_aload_n (pc := 5) 0 dX12_isCorner_5 rfl ?_
    obtain ⟨v1, e, h⟩ := op_bd h
    refine ow_gR (pc := 6) e dX12_isCorner_6 fd_X12_15 rfl ?_
    refine aw_iconst (pc := 9) (v := (0 : Int32)) dX12_isCorner_9 (by decide) ?_
    obtain ⟨v2, e, h⟩ := op_bd h
    refine ow_aI (pc := 10) e dX12_isCorner_10 ?_
    refine aw_icmp_ge (pc := 11) 18 dX12_isCorner_11 (by decide) (fun z => ?_) (fun z => ?_)
    · replace h := (if_pos z).symm.trans h
      refine aw_iconst (pc := 18) (v := (0 : Int32)) dX12_isCorner_18 (by decide) ?_
      exact ow_zret (pc := 19) h dX12_isCorner_19 rfl
    · replace h := (if_neg z).symm.trans h
      refine aw_iconst (pc := 14) (v := (1 : Int32)) dX12_isCorner_14 (by decide) ?_
      refine aw_goto (pc := 15) 19 dX12_isCorner_15 (by decide) ?_
      exact ow_zret (pc := 19) h dX12_isCorner_19 rfl
theorem c_X12_isCorner {G : ah_G}   (x0 : Nat) (x1 : Int32) (σ : ah_H) (r : Int32 × ah_H) (h : f_X12_isCorner  x0 x1 σ = some r) : AM G m_X12_isCorner 0 0 0 [.ref x0, .int x1] σ (ah_ri r) := aw_enter (by decide) (Nat.le_of_ble_eq_true rfl) (c_X12_isCorner_0 _ _ _ _ (op_ck_k h))
def f_X12_isStreet_0   (x0 : Nat) (x1 : Int32) (σ : ah_H) : Option (Int32 × ah_H) :=
  if x1 < 0 then ((op_rz (0 : Int32)).map fun q => (q, σ)) else ((op_gR 12 3 σ x0).bind fun v1 => (op_aI σ v1 (1 : Int32)).bind fun v2 => if v2 ≤ x1 then ((op_rz (0 : Int32)).map fun q => (q, σ)) else ((op_rz (1 : Int32)).map fun q => (q, σ)))
def f_X12_isStreet  (x0 : Nat) (x1 : Int32) (σ : ah_H) : Option (Int32 × ah_H) := op_ck 12 σ x0 (f_X12_isStreet_0 x0 x1 σ)
set_option maxRecDepth 100000 in
set_option maxHeartbeats 4000000 in
theorem c_X12_isStreet_0 {G : ah_G}   : ∀ (x0 : Nat) (x1 : Int32) (σ : ah_H) (r : Int32 × ah_H), f_X12_isStreet_0   x0 x1 σ = some r → AW G m_X12_isStreet 0 0 0 0 [(0, .ref x0), (1, .int x1)] [] σ (ah_N G (ah_ri r)) := by
  intro x0 x1 σ r h
  unfold f_X12_isStreet_0 at h
  refine aw_iload_n (pc := 0) 1 dX12_isStreet_0 rfl ?_
  refine aw_if_lt (pc := 1) 18 dX12_isStreet_1 (by decide) (fun z => ?_) (fun z => ?_)
  · replace h := (if_pos z).symm.trans h
    refine aw_iconst (pc := 18) (v := (0 : Int32)) dX12_isStreet_18 (by decide) ?_
    exact ow_zret (pc := 19) h dX12_isStreet_19 rfl
  · replace h := (if_neg z).symm.trans h
    refine aw_iload_n (pc := 4) 1 dX12_isStreet_4 rfl ?_
    refine aw_aload_n (pc := 5) 0 dX12_isStreet_5 rfl ?_
    obtain ⟨v1, e, h⟩ := op_bd h
    refine ow_gR (pc := 6) e dX12_isStreet_6 fd_X12_15 rfl ?_
    refine aw_iconst (pc := 9) (v := (1 : Int32)) dX12_isStreet_9 (by decide) ?_
    obtain ⟨v2, e, h⟩ := op_bd h
    refine ow_aI (pc := 10) e dX12_isStreet_10 ?_
    refine aw_icmp_ge (pc := 11) 18 dX12_isStreet_11 (by decide) (fun z => ?_) (fun z => ?_)
    · replace h := (if_pos z).symm.trans h
      refine aw_iconst (pc := 18) (v := (0 : Int32)) dX12_isStreet_18 (by decide) ?_
      exact ow_zret (pc := 19) h dX12_isStreet_19 rfl
    · replace h := (if_neg z).symm.trans h
      refine aw_iconst (pc := 14) (v := (1 : Int32)) dX12_isStreet_14 (by decide) ?_
      refine aw_goto (pc := 15) 19 dX12_isStreet_15 (by decide) ?_
      exact ow_zret (pc := 19) h dX12_isStreet_19 rfl
theorem c_X12_isStreet {G : ah_G}   (x0 : Nat) (x1 : Int32) (σ : ah_H) (r : Int32 × ah_H) (h : f_X12_isStreet  x0 x1 σ = some r) : AM G m_X12_isStreet 0 0 0 [.ref x0, .int x1] σ (ah_ri r) := aw_enter (by decide) (Nat.le_of_ble_eq_true rfl) (c_X12_isStreet_0 _ _ _ _ (op_ck_k h))
def f_X12_isRain_0   (x0 : Nat) (x1 : Int32) (σ : ah_H) : Option (Int32 × ah_H) :=
  if x1 < 0 then ((op_rz (0 : Int32)).map fun q => (q, σ)) else ((op_gR 12 3 σ x0).bind fun v1 => (op_aI σ v1 (3 : Int32)).bind fun v2 => if v2 ≤ x1 then ((op_rz (0 : Int32)).map fun q => (q, σ)) else ((op_rz (1 : Int32)).map fun q => (q, σ)))
def f_X12_isRain  (x0 : Nat) (x1 : Int32) (σ : ah_H) : Option (Int32 × ah_H) := op_ck 12 σ x0 (f_X12_isRain_0 x0 x1 σ)
set_option maxRecDepth 100000 in
set_option maxHeartbeats 4000000 in
theorem c_X12_isRain_0 {G : ah_G}   : ∀ (x0 : Nat) (x1 : Int32) (σ : ah_H) (r : Int32 × ah_H), f_X12_isRain_0   x0 x1 σ = some r → AW G m_X12_isRain 0 0 0 0 [(0, .ref x0), (1, .int x1)] [] σ (ah_N G (ah_ri r)) := by
  intro x0 x1 σ r h
  unfold f_X12_isRain_0 at h
  refine aw_iload_n (pc := 0) 1 dX12_isRain_0 rfl ?_
  refine aw_if_lt (pc := 1) 18 dX12_isRain_1 (by decide) (fun z => ?_) (fun z => ?_)
  · replace h := (if_pos z).symm.trans h
    refine aw_iconst (pc := 18) (v := (0 : Int32)) dX12_isRain_18 (by decide) ?_
    exact ow_zret (pc := 19) h dX12_isRain_19 rfl
  · replace h := (if_neg z).symm.trans h
    refine aw_iload_n (pc := 4) 1 dX12_isRain_4 rfl ?_
    refine aw_aload_n (pc := 5) 0 dX12_isRain_5 rfl ?_
    obtain ⟨v1, e, h⟩ := op_bd h
    refine ow_gR (pc := 6) e dX12_isRain_6 fd_X12_15 rfl ?_
    refine aw_iconst (pc := 9) (v := (3 : Int32)) dX12_isRain_9 (by decide) ?_
    obtain ⟨v2, e, h⟩ := op_bd h
    refine ow_aI (pc := 10) e dX12_isRain_10 ?_
    refine aw_icmp_ge (pc := 11) 18 dX12_isRain_11 (by decide) (fun z => ?_) (fun z => ?_)
    · replace h := (if_pos z).symm.trans h
      refine aw_iconst (pc := 18) (v := (0 : Int32)) dX12_isRain_18 (by decide) ?_
      exact ow_zret (pc := 19) h dX12_isRain_19 rfl
    · replace h := (if_neg z).symm.trans h
      refine aw_iconst (pc := 14) (v := (1 : Int32)) dX12_isRain_14 (by decide) ?_
      refine aw_goto (pc := 15) 19 dX12_isRain_15 (by decide) ?_
      exact ow_zret (pc := 19) h dX12_isRain_19 rfl
theorem c_X12_isRain {G : ah_G}   (x0 : Nat) (x1 : Int32) (σ : ah_H) (r : Int32 × ah_H) (h : f_X12_isRain  x0 x1 σ = some r) : AM G m_X12_isRain 0 0 0 [.ref x0, .int x1] σ (ah_ri r) := aw_enter (by decide) (Nat.le_of_ble_eq_true rfl) (c_X12_isRain_0 _ _ _ _ (op_ck_k h))
def f_X12_look_27   (x0 : Nat) (x1 : Int32) (x2 : Int32) (s0 : Nat) (s1 : Int32) (σ : ah_H) : Option (Int32 × ah_H) :=
  (op_pI 12 0 σ s0 s1).bind fun σ1 => (op_gI 12 0 σ1 x0).bind fun v2 => if v2 = 0 then (if x2 = 0 then ((op_gR 12 5 σ1 x0).bind fun v7 => (op_aI σ1 v7 x1).bind fun v8 => some (v8, σ1)) else (if x2 = (1 : Int32) then ((op_gR 12 6 σ1 x0).bind fun v5 => (op_aI σ1 v5 x1).bind fun v6 => some (v6, σ1)) else ((op_gR 12 7 σ1 x0).bind fun v3 => (op_aI σ1 v3 x1).bind fun v4 => some (v4, σ1)))) else (some ((0 : Int32), σ1))
def f_X12_look_22   (x0 : Nat) (x1 : Int32) (x2 : Int32) (s0 : Nat) (σ : ah_H) : Option (Int32 × ah_H) :=
  f_X12_look_27 x0 x1 x2 s0 (2 : Int32) σ
def f_X12_look_0   (x0 : Nat) (x1 : Int32) (x2 : Int32) (σ : ah_H) : Option (Int32 × ah_H) :=
  (f_X12_isCorner x0 x1 σ).bind fun r1 => if r1.1 = 0 then (f_X12_look_27 x0 x1 x2 x0 (1 : Int32) r1.2) else (if x2 < 0 then (f_X12_look_22 x0 x1 x2 x0 r1.2) else (if x2 ≤ (2 : Int32) then (f_X12_look_27 x0 x1 x2 x0 (0 : Int32) r1.2) else (f_X12_look_22 x0 x1 x2 x0 r1.2)))
def f_X12_look  (x0 : Nat) (x1 : Int32) (x2 : Int32) (σ : ah_H) : Option (Int32 × ah_H) := op_ck 12 σ x0 (f_X12_look_0 x0 x1 x2 σ)
set_option maxRecDepth 100000 in
set_option maxHeartbeats 4000000 in
theorem c_X12_look_27 {G : ah_G}   : ∀ (x0 : Nat) (x1 : Int32) (x2 : Int32) (s0 : Nat) (s1 : Int32) (σ : ah_H) (r : Int32 × ah_H), f_X12_look_27   x0 x1 x2 s0 s1 σ = some r → AW G m_X12_look 1 0 0 27 [(0, .ref x0), (1, .int x1), (2, .int x2)] [.int s1, .ref s0] σ (ah_N G (ah_ri r)) := by
  intro x0 x1 x2 s0 s1 σ r h
  unfold f_X12_look_27 at h
  obtain ⟨σ1, e, h⟩ := op_bd h
  refine ow_pI (pc := 27) e dX12_look_27 fd_X12_153 ?_
  refine aw_aload_n (pc := 30) 0 dX12_look_30 rfl ?_
  obtain ⟨v2, e, h⟩ := op_bd h
  refine ow_gI (pc := 31) e dX12_look_31 fd_X12_153 rfl ?_
  refine aw_if_eq (pc := 34) 39 dX12_look_34 (by decide) (fun z => ?_) (fun z => ?_)
  · replace h := (if_pos z).symm.trans h
    refine aw_iload_n (pc := 39) 2 dX12_look_39 rfl ?_
    refine aw_if_ne (pc := 40) 52 dX12_look_40 (by decide) (fun z => ?_) (fun z => ?_)
    · replace h := (if_neg z).symm.trans h
      refine aw_iload_n (pc := 52) 2 dX12_look_52 rfl ?_
      refine aw_iconst (pc := 53) (v := (1 : Int32)) dX12_look_53 (by decide) ?_
      refine aw_icmp_ne (pc := 54) 66 dX12_look_54 (by decide) (fun z => ?_) (fun z => ?_)
      · replace h := (if_neg z).symm.trans h
        refine aw_aload_n (pc := 66) 0 dX12_look_66 rfl ?_
        obtain ⟨v3, e, h⟩ := op_bd h
        refine ow_gR (pc := 67) e dX12_look_67 fd_X12_27 rfl ?_
        refine aw_iload_n (pc := 70) 1 dX12_look_70 rfl ?_
        obtain ⟨v4, e, h⟩ := op_bd h
        refine ow_aI (pc := 71) e dX12_look_71 ?_
        exact ow_iret (pc := 72) h dX12_look_72 rfl
      · replace h := (if_pos z).symm.trans h
        refine aw_aload_n (pc := 57) 0 dX12_look_57 rfl ?_
        obtain ⟨v5, e, h⟩ := op_bd h
        refine ow_gR (pc := 58) e dX12_look_58 fd_X12_24 rfl ?_
        refine aw_iload_n (pc := 61) 1 dX12_look_61 rfl ?_
        obtain ⟨v6, e, h⟩ := op_bd h
        refine ow_aI (pc := 62) e dX12_look_62 ?_
        refine aw_goto (pc := 63) 72 dX12_look_63 (by decide) ?_
        exact ow_iret (pc := 72) h dX12_look_72 rfl
    · replace h := (if_pos z).symm.trans h
      refine aw_aload_n (pc := 43) 0 dX12_look_43 rfl ?_
      obtain ⟨v7, e, h⟩ := op_bd h
      refine ow_gR (pc := 44) e dX12_look_44 fd_X12_21 rfl ?_
      refine aw_iload_n (pc := 47) 1 dX12_look_47 rfl ?_
      obtain ⟨v8, e, h⟩ := op_bd h
      refine ow_aI (pc := 48) e dX12_look_48 ?_
      refine aw_goto (pc := 49) 72 dX12_look_49 (by decide) ?_
      exact ow_iret (pc := 72) h dX12_look_72 rfl
  · replace h := (if_neg z).symm.trans h
    refine aw_iconst (pc := 37) (v := (0 : Int32)) dX12_look_37 (by decide) ?_
    exact ow_iret (pc := 38) h dX12_look_38 rfl
set_option maxRecDepth 100000 in
set_option maxHeartbeats 4000000 in
theorem c_X12_look_22 {G : ah_G}   : ∀ (x0 : Nat) (x1 : Int32) (x2 : Int32) (s0 : Nat) (σ : ah_H) (r : Int32 × ah_H), f_X12_look_22   x0 x1 x2 s0 σ = some r → AW G m_X12_look 1 0 0 22 [(0, .ref x0), (1, .int x1), (2, .int x2)] [.ref s0] σ (ah_N G (ah_ri r)) := by
  intro x0 x1 x2 s0 σ r h
  unfold f_X12_look_22 at h
  refine aw_iconst (pc := 22) (v := (2 : Int32)) dX12_look_22 (by decide) ?_
  refine aw_goto (pc := 23) 27 dX12_look_23 (by decide) ?_
  exact c_X12_look_27  _ _ _ _ _ _ _ h
set_option maxRecDepth 100000 in
set_option maxHeartbeats 4000000 in
theorem c_X12_look_0 {G : ah_G}   : ∀ (x0 : Nat) (x1 : Int32) (x2 : Int32) (σ : ah_H) (r : Int32 × ah_H), f_X12_look_0   x0 x1 x2 σ = some r → AW G m_X12_look 1 0 0 0 [(0, .ref x0), (1, .int x1), (2, .int x2)] [] σ (ah_N G (ah_ri r)) := by
  intro x0 x1 x2 σ r h
  unfold f_X12_look_0 at h
  refine aw_aload_n (pc := 0) 0 dX12_look_0 rfl ?_
  refine aw_aload_n (pc := 1) 0 dX12_look_1 rfl ?_
  refine aw_iload_n (pc := 2) 1 dX12_look_2 rfl ?_
  obtain ⟨r1, e, h⟩ := op_bd h
  refine ow_cVi (pc := 3) [.int x1] ((c_X12_isCorner _ _ _ _ e).mono (by decide)) (op_ck_sh e) rfl dX12_look_3 cw_X12_327 rfl (Nat.le_of_ble_eq_true rfl) ?_
  refine aw_if_ne (pc := 6) 13 dX12_look_6 (by decide) (fun z => ?_) (fun z => ?_)
  · replace h := (if_neg z).symm.trans h
    refine aw_iload_n (pc := 13) 2 dX12_look_13 rfl ?_
    refine aw_if_lt (pc := 14) 22 dX12_look_14 (by decide) (fun z => ?_) (fun z => ?_)
    · replace h := (if_pos z).symm.trans h
      exact c_X12_look_22  _ _ _ _ _ _ h
    · replace h := (if_neg z).symm.trans h
      refine aw_iload_n (pc := 17) 2 dX12_look_17 rfl ?_
      refine aw_iconst (pc := 18) (v := (2 : Int32)) dX12_look_18 (by decide) ?_
      refine aw_icmp_le (pc := 19) 26 dX12_look_19 (by decide) (fun z => ?_) (fun z => ?_)
      · replace h := (if_pos z).symm.trans h
        refine aw_iconst (pc := 26) (v := (0 : Int32)) dX12_look_26 (by decide) ?_
        exact c_X12_look_27  _ _ _ _ _ _ _ h
      · replace h := (if_neg z).symm.trans h
        exact c_X12_look_22  _ _ _ _ _ _ h
  · replace h := (if_pos z).symm.trans h
    refine aw_iconst (pc := 9) (v := (1 : Int32)) dX12_look_9 (by decide) ?_
    refine aw_goto (pc := 10) 27 dX12_look_10 (by decide) ?_
    exact c_X12_look_27  _ _ _ _ _ _ _ h
theorem c_X12_look {G : ah_G}   (x0 : Nat) (x1 : Int32) (x2 : Int32) (σ : ah_H) (r : Int32 × ah_H) (h : f_X12_look  x0 x1 x2 σ = some r) : AM G m_X12_look 1 0 0 [.ref x0, .int x1, .int x2] σ (ah_ri r) := aw_enter (by decide) (Nat.le_of_ble_eq_true rfl) (c_X12_look_0 _ _ _ _ _ (op_ck_k h))
def f_X12_street_0   (x0 : Nat) (x1 : Int32) (x2 : Int32) (σ : ah_H) : Option (Int32 × ah_H) :=
  (op_pI 12 0 σ x0 (0 : Int32)).bind fun σ1 => (f_X12_isStreet x0 x1 σ1).bind fun r2 => if r2.1 = 0 then (some ((-1 : Int32), r2.2)) else (if x2 = (0 : Int32) then ((op_gR 12 8 r2.2 x0).bind fun v3 => (op_aI r2.2 v3 x1).bind fun v4 => some (v4, r2.2)) else (if x2 = (1 : Int32) then ((op_gR 12 9 r2.2 x0).bind fun v5 => (op_aI r2.2 v5 x1).bind fun v6 => some (v6, r2.2)) else (if x2 = (2 : Int32) then ((op_gR 12 10 r2.2 x0).bind fun v7 => (op_aI r2.2 v7 x1).bind fun v8 => some (v8, r2.2)) else (if x2 = (3 : Int32) then ((op_gR 12 11 r2.2 x0).bind fun v9 => (op_aI r2.2 v9 x1).bind fun v10 => some (v10, r2.2)) else (if x2 = (4 : Int32) then ((op_gR 12 12 r2.2 x0).bind fun v11 => (op_aI r2.2 v11 x1).bind fun v12 => some (v12, r2.2)) else (some ((-1 : Int32), r2.2)))))))
def f_X12_street  (x0 : Nat) (x1 : Int32) (x2 : Int32) (σ : ah_H) : Option (Int32 × ah_H) := op_ck 12 σ x0 (f_X12_street_0 x0 x1 x2 σ)
set_option maxRecDepth 100000 in
set_option maxHeartbeats 4000000 in
theorem c_X12_street_0 {G : ah_G}   : ∀ (x0 : Nat) (x1 : Int32) (x2 : Int32) (σ : ah_H) (r : Int32 × ah_H), f_X12_street_0   x0 x1 x2 σ = some r → AW G m_X12_street 1 0 0 0 [(0, .ref x0), (1, .int x1), (2, .int x2)] [] σ (ah_N G (ah_ri r)) := by
  intro x0 x1 x2 σ r h
  unfold f_X12_street_0 at h
  refine aw_aload_n (pc := 0) 0 dX12_street_0 rfl ?_
  refine aw_iconst (pc := 1) (v := (0 : Int32)) dX12_street_1 (by decide) ?_
  obtain ⟨σ1, e, h⟩ := op_bd h
  refine ow_pI (pc := 2) e dX12_street_2 fd_X12_153 ?_
  refine aw_aload_n (pc := 5) 0 dX12_street_5 rfl ?_
  refine aw_iload_n (pc := 6) 1 dX12_street_6 rfl ?_
  obtain ⟨r2, e, h⟩ := op_bd h
  refine ow_cVi (pc := 7) [.int x1] ((c_X12_isStreet _ _ _ _ e).mono (by decide)) (op_ck_sh e) rfl dX12_street_7 cw_X12_330 rfl (Nat.le_of_ble_eq_true rfl) ?_
  refine aw_if_ne (pc := 10) 15 dX12_street_10 (by decide) (fun z => ?_) (fun z => ?_)
  · replace h := (if_neg z).symm.trans h
    refine aw_iload_n (pc := 15) 2 dX12_street_15 rfl ?_
    by_cases z0 : x2 = (0 : Int32)
    · replace h := (if_pos z0).symm.trans h
      refine aw_tableIn (pc := 16) (off := 36) 52 dX12_street_16 (by rw [z0]; decide) (by rw [z0]; decide) (by rw [z0]; decide) (by decide) ?_
      refine aw_aload_n (pc := 52) 0 dX12_street_52 rfl ?_
      obtain ⟨v3, e, h⟩ := op_bd h
      refine ow_gR (pc := 53) e dX12_street_53 fd_X12_30 rfl ?_
      refine aw_iload_n (pc := 56) 1 dX12_street_56 rfl ?_
      obtain ⟨v4, e, h⟩ := op_bd h
      refine ow_aI (pc := 57) e dX12_street_57 ?_
      exact ow_iret (pc := 58) h dX12_street_58 rfl
    · replace h := (if_neg z0).symm.trans h
      by_cases z1 : x2 = (1 : Int32)
      · replace h := (if_pos z1).symm.trans h
        refine aw_tableIn (pc := 16) (off := 43) 59 dX12_street_16 (by rw [z1]; decide) (by rw [z1]; decide) (by rw [z1]; decide) (by decide) ?_
        refine aw_aload_n (pc := 59) 0 dX12_street_59 rfl ?_
        obtain ⟨v5, e, h⟩ := op_bd h
        refine ow_gR (pc := 60) e dX12_street_60 fd_X12_33 rfl ?_
        refine aw_iload_n (pc := 63) 1 dX12_street_63 rfl ?_
        obtain ⟨v6, e, h⟩ := op_bd h
        refine ow_aI (pc := 64) e dX12_street_64 ?_
        exact ow_iret (pc := 65) h dX12_street_65 rfl
      · replace h := (if_neg z1).symm.trans h
        by_cases z2 : x2 = (2 : Int32)
        · replace h := (if_pos z2).symm.trans h
          refine aw_tableIn (pc := 16) (off := 50) 66 dX12_street_16 (by rw [z2]; decide) (by rw [z2]; decide) (by rw [z2]; decide) (by decide) ?_
          refine aw_aload_n (pc := 66) 0 dX12_street_66 rfl ?_
          obtain ⟨v7, e, h⟩ := op_bd h
          refine ow_gR (pc := 67) e dX12_street_67 fd_X12_36 rfl ?_
          refine aw_iload_n (pc := 70) 1 dX12_street_70 rfl ?_
          obtain ⟨v8, e, h⟩ := op_bd h
          refine ow_aI (pc := 71) e dX12_street_71 ?_
          exact ow_iret (pc := 72) h dX12_street_72 rfl
        · replace h := (if_neg z2).symm.trans h
          by_cases z3 : x2 = (3 : Int32)
          · replace h := (if_pos z3).symm.trans h
            refine aw_tableIn (pc := 16) (off := 57) 73 dX12_street_16 (by rw [z3]; decide) (by rw [z3]; decide) (by rw [z3]; decide) (by decide) ?_
            refine aw_aload_n (pc := 73) 0 dX12_street_73 rfl ?_
            obtain ⟨v9, e, h⟩ := op_bd h
            refine ow_gR (pc := 74) e dX12_street_74 fd_X12_39 rfl ?_
            refine aw_iload_n (pc := 77) 1 dX12_street_77 rfl ?_
            obtain ⟨v10, e, h⟩ := op_bd h
            refine ow_aI (pc := 78) e dX12_street_78 ?_
            exact ow_iret (pc := 79) h dX12_street_79 rfl
          · replace h := (if_neg z3).symm.trans h
            by_cases z4 : x2 = (4 : Int32)
            · replace h := (if_pos z4).symm.trans h
              refine aw_tableIn (pc := 16) (off := 64) 80 dX12_street_16 (by rw [z4]; decide) (by rw [z4]; decide) (by rw [z4]; decide) (by decide) ?_
              refine aw_aload_n (pc := 80) 0 dX12_street_80 rfl ?_
              obtain ⟨v11, e, h⟩ := op_bd h
              refine ow_gR (pc := 81) e dX12_street_81 fd_X12_42 rfl ?_
              refine aw_iload_n (pc := 84) 1 dX12_street_84 rfl ?_
              obtain ⟨v12, e, h⟩ := op_bd h
              refine ow_aI (pc := 85) e dX12_street_85 ?_
              exact ow_iret (pc := 86) h dX12_street_86 rfl
            · replace h := (if_neg z4).symm.trans h
              have wz0 : ¬ (x2).toInt = 0 := fun q => z0 (Int32.toInt_inj.mp q)
              have wz1 : ¬ (x2).toInt = 1 := fun q => z1 (Int32.toInt_inj.mp q)
              have wz2 : ¬ (x2).toInt = 2 := fun q => z2 (Int32.toInt_inj.mp q)
              have wz3 : ¬ (x2).toInt = 3 := fun q => z3 (Int32.toInt_inj.mp q)
              have wz4 : ¬ (x2).toInt = 4 := fun q => z4 (Int32.toInt_inj.mp q)
              refine aw_tableOut (pc := 16) 87 dX12_street_16 (by omega) (by decide) ?_
              refine aw_iconst (pc := 87) (v := (-1 : Int32)) dX12_street_87 (by decide) ?_
              exact ow_iret (pc := 88) h dX12_street_88 rfl
  · replace h := (if_pos z).symm.trans h
    refine aw_iconst (pc := 13) (v := (-1 : Int32)) dX12_street_13 (by decide) ?_
    exact ow_iret (pc := 14) h dX12_street_14 rfl
theorem c_X12_street {G : ah_G}   (x0 : Nat) (x1 : Int32) (x2 : Int32) (σ : ah_H) (r : Int32 × ah_H) (h : f_X12_street  x0 x1 x2 σ = some r) : AM G m_X12_street 1 0 0 [.ref x0, .int x1, .int x2] σ (ah_ri r) := aw_enter (by decide) (Nat.le_of_ble_eq_true rfl) (c_X12_street_0 _ _ _ _ _ (op_ck_k h))
def f_X12_pipe_0   (x0 : Nat) (x1 : Int32) (x2 : Int32) (σ : ah_H) : Option (Int32 × ah_H) :=
  (op_pI 12 0 σ x0 (0 : Int32)).bind fun σ1 => if x1 < 0 then (some ((-1 : Int32), σ1)) else ((op_gR 12 3 σ1 x0).bind fun v2 => (op_aI σ1 v2 (2 : Int32)).bind fun v3 => if v3 ≤ x1 then (some ((-1 : Int32), σ1)) else (if x2 < 0 then (some ((-1 : Int32), σ1)) else (if x2 ≤ (1 : Int32) then (if x2 = 0 then ((op_gR 12 13 σ1 x0).bind fun v6 => (op_aI σ1 v6 x1).bind fun v7 => some (v7, σ1)) else ((op_gR 12 14 σ1 x0).bind fun v4 => (op_aI σ1 v4 x1).bind fun v5 => some (v5, σ1))) else (some ((-1 : Int32), σ1)))))
def f_X12_pipe  (x0 : Nat) (x1 : Int32) (x2 : Int32) (σ : ah_H) : Option (Int32 × ah_H) := op_ck 12 σ x0 (f_X12_pipe_0 x0 x1 x2 σ)
set_option maxRecDepth 100000 in
set_option maxHeartbeats 4000000 in
theorem c_X12_pipe_0 {G : ah_G}   : ∀ (x0 : Nat) (x1 : Int32) (x2 : Int32) (σ : ah_H) (r : Int32 × ah_H), f_X12_pipe_0   x0 x1 x2 σ = some r → AW G m_X12_pipe 0 0 0 0 [(0, .ref x0), (1, .int x1), (2, .int x2)] [] σ (ah_N G (ah_ri r)) := by
  intro x0 x1 x2 σ r h
  unfold f_X12_pipe_0 at h
  refine aw_aload_n (pc := 0) 0 dX12_pipe_0 rfl ?_
  refine aw_iconst (pc := 1) (v := (0 : Int32)) dX12_pipe_1 (by decide) ?_
  obtain ⟨σ1, e, h⟩ := op_bd h
  refine ow_pI (pc := 2) e dX12_pipe_2 fd_X12_153 ?_
  refine aw_iload_n (pc := 5) 1 dX12_pipe_5 rfl ?_
  refine aw_if_lt (pc := 6) 28 dX12_pipe_6 (by decide) (fun z => ?_) (fun z => ?_)
  · replace h := (if_pos z).symm.trans h
    refine aw_iconst (pc := 28) (v := (-1 : Int32)) dX12_pipe_28 (by decide) ?_
    exact ow_iret (pc := 29) h dX12_pipe_29 rfl
  · replace h := (if_neg z).symm.trans h
    refine aw_iload_n (pc := 9) 1 dX12_pipe_9 rfl ?_
    refine aw_aload_n (pc := 10) 0 dX12_pipe_10 rfl ?_
    obtain ⟨v2, e, h⟩ := op_bd h
    refine ow_gR (pc := 11) e dX12_pipe_11 fd_X12_15 rfl ?_
    refine aw_iconst (pc := 14) (v := (2 : Int32)) dX12_pipe_14 (by decide) ?_
    obtain ⟨v3, e, h⟩ := op_bd h
    refine ow_aI (pc := 15) e dX12_pipe_15 ?_
    refine aw_icmp_ge (pc := 16) 28 dX12_pipe_16 (by decide) (fun z => ?_) (fun z => ?_)
    · replace h := (if_pos z).symm.trans h
      refine aw_iconst (pc := 28) (v := (-1 : Int32)) dX12_pipe_28 (by decide) ?_
      exact ow_iret (pc := 29) h dX12_pipe_29 rfl
    · replace h := (if_neg z).symm.trans h
      refine aw_iload_n (pc := 19) 2 dX12_pipe_19 rfl ?_
      refine aw_if_lt (pc := 20) 28 dX12_pipe_20 (by decide) (fun z => ?_) (fun z => ?_)
      · replace h := (if_pos z).symm.trans h
        refine aw_iconst (pc := 28) (v := (-1 : Int32)) dX12_pipe_28 (by decide) ?_
        exact ow_iret (pc := 29) h dX12_pipe_29 rfl
      · replace h := (if_neg z).symm.trans h
        refine aw_iload_n (pc := 23) 2 dX12_pipe_23 rfl ?_
        refine aw_iconst (pc := 24) (v := (1 : Int32)) dX12_pipe_24 (by decide) ?_
        refine aw_icmp_le (pc := 25) 30 dX12_pipe_25 (by decide) (fun z => ?_) (fun z => ?_)
        · replace h := (if_pos z).symm.trans h
          refine aw_iload_n (pc := 30) 2 dX12_pipe_30 rfl ?_
          refine aw_if_ne (pc := 31) 43 dX12_pipe_31 (by decide) (fun z => ?_) (fun z => ?_)
          · replace h := (if_neg z).symm.trans h
            refine aw_aload_n (pc := 43) 0 dX12_pipe_43 rfl ?_
            obtain ⟨v4, e, h⟩ := op_bd h
            refine ow_gR (pc := 44) e dX12_pipe_44 fd_X12_48 rfl ?_
            refine aw_iload_n (pc := 47) 1 dX12_pipe_47 rfl ?_
            obtain ⟨v5, e, h⟩ := op_bd h
            refine ow_aI (pc := 48) e dX12_pipe_48 ?_
            exact ow_iret (pc := 49) h dX12_pipe_49 rfl
          · replace h := (if_pos z).symm.trans h
            refine aw_aload_n (pc := 34) 0 dX12_pipe_34 rfl ?_
            obtain ⟨v6, e, h⟩ := op_bd h
            refine ow_gR (pc := 35) e dX12_pipe_35 fd_X12_45 rfl ?_
            refine aw_iload_n (pc := 38) 1 dX12_pipe_38 rfl ?_
            obtain ⟨v7, e, h⟩ := op_bd h
            refine ow_aI (pc := 39) e dX12_pipe_39 ?_
            refine aw_goto (pc := 40) 49 dX12_pipe_40 (by decide) ?_
            exact ow_iret (pc := 49) h dX12_pipe_49 rfl
        · replace h := (if_neg z).symm.trans h
          refine aw_iconst (pc := 28) (v := (-1 : Int32)) dX12_pipe_28 (by decide) ?_
          exact ow_iret (pc := 29) h dX12_pipe_29 rfl
theorem c_X12_pipe {G : ah_G}   (x0 : Nat) (x1 : Int32) (x2 : Int32) (σ : ah_H) (r : Int32 × ah_H) (h : f_X12_pipe  x0 x1 x2 σ = some r) : AM G m_X12_pipe 0 0 0 [.ref x0, .int x1, .int x2] σ (ah_ri r) := aw_enter (by decide) (Nat.le_of_ble_eq_true rfl) (c_X12_pipe_0 _ _ _ _ _ (op_ck_k h))
def f_X12_is_0   (x0 : Int32) (σ : ah_H) : Option (Int64 × ah_H) :=
  if x0 = 0 then (some ((0 : Int64), σ)) else (some ((1 : Int64), σ))
def f_X12_is  (x0 : Int32) (σ : ah_H) : Option (Int64 × ah_H) := f_X12_is_0 x0 σ
set_option maxRecDepth 100000 in
set_option maxHeartbeats 4000000 in
theorem c_X12_is_0 {G : ah_G}   : ∀ (x0 : Int32) (σ : ah_H) (r : Int64 × ah_H), f_X12_is_0   x0 σ = some r → AW G m_X12_is 0 0 0 0 [(0, .int x0)] [] σ (ah_N G (ah_rl r)) := by
  intro x0 σ r h
  unfold f_X12_is_0 at h
  refine aw_iload_n (pc := 0) 0 dX12_is_0 rfl ?_
  refine aw_if_eq (pc := 1) 8 dX12_is_1 (by decide) (fun z => ?_) (fun z => ?_)
  · replace h := (if_pos z).symm.trans h
    refine aw_lconst (pc := 8) (v := (0 : Int64)) dX12_is_8 (by decide) ?_
    exact ow_lret (pc := 9) h dX12_is_9 rfl
  · replace h := (if_neg z).symm.trans h
    refine aw_lconst (pc := 4) (v := (1 : Int64)) dX12_is_4 (by decide) ?_
    refine aw_goto (pc := 5) 9 dX12_is_5 (by decide) ?_
    exact ow_lret (pc := 9) h dX12_is_9 rfl
theorem c_X12_is {G : ah_G}   (x0 : Int32) (σ : ah_H) (r : Int64 × ah_H) (h : f_X12_is  x0 σ = some r) : AM G m_X12_is 0 0 0 [.int x0] σ (ah_rl r) := aw_enter (by decide) (Nat.le_of_ble_eq_true rfl) (c_X12_is_0 _ _ _ h)
def f_X12_works_40   (s0 : Nat) (s1 : Int32) (s2 : Int32) (σ : ah_H) : Option (Int32 × ah_H) :=
  (f_X12_is s2 σ).bind fun r1 => (op_sL r1.2 s0 s1 r1.1).bind fun σ2 => (op_rz (1 : Int32)).map fun q => (q, σ2)
def f_X12_works_407   (x0 : Nat) (x6 : Int64) (σ : ah_H) : Option (Int32 × ah_H) :=
  (op_gR 12 36 σ x0).bind fun v1 => (op_gI 12 37 σ x0).bind fun v2 => (op_sL σ v1 (v2 - (1 : Int32)) x6).bind fun σ3 => if 0 < (lg_cmp x6 (1000000000000 : Int64)) then ((op_rz (0 : Int32)).map fun q => (q, σ3)) else (if (lg_cmp x6 (-1000000000000 : Int64)) < 0 then ((op_rz (0 : Int32)).map fun q => (q, σ3)) else ((op_rz (1 : Int32)).map fun q => (q, σ3)))
def f_X12_works_212   (x0 : Nat) (x2 : Int64) (x4 : Int64) (σ : ah_H) : Option (Int32 × ah_H) :=
  f_X12_works_407 x0 (x4 * x2) σ
def f_X12_works_250   (x0 : Nat) (s0 : Int32) (σ : ah_H) : Option (Int32 × ah_H) :=
  (f_X12_is s0 σ).bind fun r1 => f_X12_works_407 x0 r1.1 r1.2
def f_X12_works_270   (x0 : Nat) (s0 : Int32) (σ : ah_H) : Option (Int32 × ah_H) :=
  (f_X12_is s0 σ).bind fun r1 => f_X12_works_407 x0 r1.1 r1.2
def f_X12_works_290   (x0 : Nat) (s0 : Int32) (σ : ah_H) : Option (Int32 × ah_H) :=
  (f_X12_is s0 σ).bind fun r1 => f_X12_works_407 x0 r1.1 r1.2
def f_X12_works_310   (x0 : Nat) (s0 : Int32) (σ : ah_H) : Option (Int32 × ah_H) :=
  (f_X12_is s0 σ).bind fun r1 => f_X12_works_407 x0 r1.1 r1.2
def f_X12_works_330   (x0 : Nat) (s0 : Int32) (σ : ah_H) : Option (Int32 × ah_H) :=
  (f_X12_is s0 σ).bind fun r1 => f_X12_works_407 x0 r1.1 r1.2
def f_X12_works_350   (x0 : Nat) (s0 : Int32) (σ : ah_H) : Option (Int32 × ah_H) :=
  (f_X12_is s0 σ).bind fun r1 => f_X12_works_407 x0 r1.1 r1.2
def f_X12_works_376   (x0 : Nat) (s0 : Int32) (σ : ah_H) : Option (Int32 × ah_H) :=
  (f_X12_is s0 σ).bind fun r1 => f_X12_works_407 x0 r1.1 r1.2
def f_X12_works_375   (x0 : Nat) (σ : ah_H) : Option (Int32 × ah_H) :=
  f_X12_works_376 x0 (0 : Int32) σ
def f_X12_works_402   (x0 : Nat) (s0 : Int32) (σ : ah_H) : Option (Int32 × ah_H) :=
  (f_X12_is s0 σ).bind fun r1 => f_X12_works_407 x0 r1.1 r1.2
def f_X12_works_397   (x0 : Nat) (σ : ah_H) : Option (Int32 × ah_H) :=
  f_X12_works_402 x0 (1 : Int32) σ
def f_X12_works_0   (x0 : Nat) (x1 : Int32) (σ : ah_H) : Option (Int32 × ah_H) :=
  (op_gR 12 36 σ x0).bind fun v1 => (op_gI 12 37 σ x0).bind fun v2 => (op_aL σ v1 (v2 - (1 : Int32))).bind fun v3 => if x1 = (260 : Int32) then ((op_gR 12 36 σ x0).bind fun v11 => (op_gI 12 37 σ x0).bind fun v12 => if (lg_cmp v3 (0 : Int64)) = 0 then (f_X12_works_40 v11 (v12 - (1 : Int32)) (1 : Int32) σ) else (f_X12_works_40 v11 (v12 - (1 : Int32)) (0 : Int32) σ)) else ((op_gR 12 36 σ x0).bind fun v4 => (op_gI 12 37 σ x0).bind fun v5 => (op_aL σ v4 (v5 - (2 : Int32))).bind fun v6 => (op_gI 12 37 σ x0).bind fun v7 => (op_pI 12 37 σ x0 (v7 - (1 : Int32))).bind fun σ8 => if x1 = (42 : Int32) then (if (lg_cmp v6 (0 : Int64)) = 0 then (f_X12_works_212 x0 v3 v6 σ8) else ((op_ldiv (1000000000000 : Int64) (op_absl v6)).bind fun v9 => if (lg_cmp (op_absl v3) v9) ≤ 0 then (f_X12_works_212 x0 v3 v6 σ8) else ((op_rz (0 : Int32)).map fun q => (q, σ8)))) else (if x1 = (43 : Int32) then (f_X12_works_407 x0 (v6 + v3) σ8) else (if x1 = (45 : Int32) then (f_X12_works_407 x0 (v6 - v3) σ8) else (if x1 = (47 : Int32) then (if (lg_cmp v3 (0 : Int64)) = 0 then ((op_rz (0 : Int32)).map fun q => (q, σ8)) else ((op_ldiv v6 v3).bind fun v10 => f_X12_works_407 x0 v10 σ8)) else (if x1 = (60 : Int32) then (if 0 ≤ (lg_cmp v6 v3) then (f_X12_works_250 x0 (0 : Int32) σ8) else (f_X12_works_250 x0 (1 : Int32) σ8)) else (if x1 = (61 : Int32) then (if (lg_cmp v6 v3) = 0 then (f_X12_works_290 x0 (1 : Int32) σ8) else (f_X12_works_290 x0 (0 : Int32) σ8)) else (if x1 = (62 : Int32) then (if (lg_cmp v6 v3) ≤ 0 then (f_X12_works_270 x0 (0 : Int32) σ8) else (f_X12_works_270 x0 (1 : Int32) σ8)) else (if x1 = (256 : Int32) then (if 0 < (lg_cmp v6 v3) then (f_X12_works_310 x0 (0 : Int32) σ8) else (f_X12_works_310 x0 (1 : Int32) σ8)) else (if x1 = (257 : Int32) then (if (lg_cmp v6 v3) = 0 then (f_X12_works_350 x0 (0 : Int32) σ8) else (f_X12_works_350 x0 (1 : Int32) σ8)) else (if x1 = (258 : Int32) then (if (lg_cmp v6 v3) < 0 then (f_X12_works_330 x0 (0 : Int32) σ8) else (f_X12_works_330 x0 (1 : Int32) σ8)) else (if x1 = (261 : Int32) then (if (lg_cmp v6 (0 : Int64)) = 0 then (f_X12_works_375 x0 σ8) else (if (lg_cmp v3 (0 : Int64)) = 0 then (f_X12_works_375 x0 σ8) else (f_X12_works_376 x0 (1 : Int32) σ8))) else (if (lg_cmp v6 (0 : Int64)) = 0 then (if (lg_cmp v3 (0 : Int64)) = 0 then (f_X12_works_402 x0 (0 : Int32) σ8) else (f_X12_works_397 x0 σ8)) else (f_X12_works_397 x0 σ8)))))))))))))
def f_X12_works  (x0 : Nat) (x1 : Int32) (σ : ah_H) : Option (Int32 × ah_H) := op_ck 12 σ x0 (f_X12_works_0 x0 x1 σ)
set_option maxRecDepth 100000 in
set_option maxHeartbeats 4000000 in
theorem c_X12_works_40 {G : ah_G}   : ∀ (s0 : Nat) (s1 : Int32) (s2 : Int32) (σ : ah_H) (r : Int32 × ah_H), f_X12_works_40   s0 s1 s2 σ = some r → AW G m_X12_works 1 0 0 40 [] [.int s2, .int s1, .ref s0] σ (ah_N G (ah_ri r)) := by
  intro s0 s1 s2 σ r h
  unfold f_X12_works_40 at h
  obtain ⟨r1, e, h⟩ := op_bd h
  refine ow_cSl (pc := 40) [.int s2] ((c_X12_is _ _ _ e).mono (by decide)) rfl dX12_works_40 cw_X12_336 rfl (Nat.le_of_ble_eq_true rfl) ?_
  obtain ⟨σ2, e, h⟩ := op_bd h
  refine ow_sL (pc := 43) e dX12_works_43 ?_
  refine aw_iconst (pc := 44) (v := (1 : Int32)) dX12_works_44 (by decide) ?_
  exact ow_zret (pc := 45) h dX12_works_45 rfl
set_option maxRecDepth 100000 in
set_option maxHeartbeats 4000000 in
theorem c_X12_works_407 {G : ah_G}   : ∀ (x0 : Nat) (x6 : Int64) (σ : ah_H) (r : Int32 × ah_H), f_X12_works_407   x0 x6 σ = some r → AW G m_X12_works 1 0 0 407 [(0, .ref x0), (6, .long x6)] [] σ (ah_N G (ah_ri r)) := by
  intro x0 x6 σ r h
  unfold f_X12_works_407 at h
  refine aw_aload_n (pc := 407) 0 dX12_works_407 rfl ?_
  obtain ⟨v1, e, h⟩ := op_bd h
  refine ow_gR (pc := 408) e dX12_works_408 fd_X12_80 rfl ?_
  refine aw_aload_n (pc := 411) 0 dX12_works_411 rfl ?_
  obtain ⟨v2, e, h⟩ := op_bd h
  refine ow_gI (pc := 412) e dX12_works_412 fd_X12_333 rfl ?_
  refine aw_iconst (pc := 415) (v := (1 : Int32)) dX12_works_415 (by decide) ?_
  refine aw_isub (pc := 416) dX12_works_416 ?_
  refine aw_lload (pc := 417) 1 dX12_works_417 rfl ?_
  obtain ⟨σ3, e, h⟩ := op_bd h
  refine ow_sL (pc := 419) e dX12_works_419 ?_
  refine aw_lload (pc := 420) 1 dX12_works_420 rfl ?_
  refine aw_ldc2 (pc := 422) dX12_works_422 kl_X12_346 ?_
  refine aw_lcmp (pc := 425) dX12_works_425 ?_
  refine aw_if_gt (pc := 426) 442 dX12_works_426 (by decide) (fun z => ?_) (fun z => ?_)
  · replace h := (if_pos z).symm.trans h
    refine aw_iconst (pc := 442) (v := (0 : Int32)) dX12_works_442 (by decide) ?_
    exact ow_zret (pc := 443) h dX12_works_443 rfl
  · replace h := (if_neg z).symm.trans h
    refine aw_lload (pc := 429) 1 dX12_works_429 rfl ?_
    refine aw_ldc2 (pc := 431) dX12_works_431 kl_X12_348 ?_
    refine aw_lcmp (pc := 434) dX12_works_434 ?_
    refine aw_if_lt (pc := 435) 442 dX12_works_435 (by decide) (fun z => ?_) (fun z => ?_)
    · replace h := (if_pos z).symm.trans h
      refine aw_iconst (pc := 442) (v := (0 : Int32)) dX12_works_442 (by decide) ?_
      exact ow_zret (pc := 443) h dX12_works_443 rfl
    · replace h := (if_neg z).symm.trans h
      refine aw_iconst (pc := 438) (v := (1 : Int32)) dX12_works_438 (by decide) ?_
      refine aw_goto (pc := 439) 443 dX12_works_439 (by decide) ?_
      exact ow_zret (pc := 443) h dX12_works_443 rfl
set_option maxRecDepth 100000 in
set_option maxHeartbeats 4000000 in
theorem c_X12_works_212 {G : ah_G}   : ∀ (x0 : Nat) (x2 : Int64) (x4 : Int64) (σ : ah_H) (r : Int32 × ah_H), f_X12_works_212   x0 x2 x4 σ = some r → AW G m_X12_works 1 0 0 212 [(0, .ref x0), (2, .long x2), (4, .long x4)] [] σ (ah_N G (ah_ri r)) := by
  intro x0 x2 x4 σ r h
  unfold f_X12_works_212 at h
  refine aw_lload (pc := 212) 2 dX12_works_212 rfl ?_
  refine aw_lload_n (pc := 214) 1 dX12_works_214 rfl ?_
  refine aw_lmul (pc := 215) dX12_works_215 ?_
  refine aw_lstore (pc := 216) [(6, .long (x4 * x2)), (0, .ref x0), (2, .long x2), (4, .long x4)] dX12_works_216 (by decide) rfl ?_
  refine aw_goto (pc := 218) 407 dX12_works_218 (by decide) ?_
  refine aw_sub [1, 0] rfl ?_
  exact c_X12_works_407  _ _ _ _ h
set_option maxRecDepth 100000 in
set_option maxHeartbeats 4000000 in
theorem c_X12_works_250 {G : ah_G}   : ∀ (x0 : Nat) (s0 : Int32) (σ : ah_H) (r : Int32 × ah_H), f_X12_works_250   x0 s0 σ = some r → AW G m_X12_works 1 0 0 250 [(0, .ref x0)] [.int s0] σ (ah_N G (ah_ri r)) := by
  intro x0 s0 σ r h
  unfold f_X12_works_250 at h
  obtain ⟨r1, e, h⟩ := op_bd h
  refine ow_cSl (pc := 250) [.int s0] ((c_X12_is _ _ _ e).mono (by decide)) rfl dX12_works_250 cw_X12_336 rfl (Nat.le_of_ble_eq_true rfl) ?_
  refine aw_lstore (pc := 253) [(6, .long r1.1), (0, .ref x0)] dX12_works_253 (by decide) rfl ?_
  refine aw_goto (pc := 255) 407 dX12_works_255 (by decide) ?_
  refine aw_sub [1, 0] rfl ?_
  exact c_X12_works_407  _ _ _ _ h
set_option maxRecDepth 100000 in
set_option maxHeartbeats 4000000 in
theorem c_X12_works_270 {G : ah_G}   : ∀ (x0 : Nat) (s0 : Int32) (σ : ah_H) (r : Int32 × ah_H), f_X12_works_270   x0 s0 σ = some r → AW G m_X12_works 1 0 0 270 [(0, .ref x0)] [.int s0] σ (ah_N G (ah_ri r)) := by
  intro x0 s0 σ r h
  unfold f_X12_works_270 at h
  obtain ⟨r1, e, h⟩ := op_bd h
  refine ow_cSl (pc := 270) [.int s0] ((c_X12_is _ _ _ e).mono (by decide)) rfl dX12_works_270 cw_X12_336 rfl (Nat.le_of_ble_eq_true rfl) ?_
  refine aw_lstore (pc := 273) [(6, .long r1.1), (0, .ref x0)] dX12_works_273 (by decide) rfl ?_
  refine aw_goto (pc := 275) 407 dX12_works_275 (by decide) ?_
  refine aw_sub [1, 0] rfl ?_
  exact c_X12_works_407  _ _ _ _ h
set_option maxRecDepth 100000 in
set_option maxHeartbeats 4000000 in
theorem c_X12_works_290 {G : ah_G}   : ∀ (x0 : Nat) (s0 : Int32) (σ : ah_H) (r : Int32 × ah_H), f_X12_works_290   x0 s0 σ = some r → AW G m_X12_works 1 0 0 290 [(0, .ref x0)] [.int s0] σ (ah_N G (ah_ri r)) := by
  intro x0 s0 σ r h
  unfold f_X12_works_290 at h
  obtain ⟨r1, e, h⟩ := op_bd h
  refine ow_cSl (pc := 290) [.int s0] ((c_X12_is _ _ _ e).mono (by decide)) rfl dX12_works_290 cw_X12_336 rfl (Nat.le_of_ble_eq_true rfl) ?_
  refine aw_lstore (pc := 293) [(6, .long r1.1), (0, .ref x0)] dX12_works_293 (by decide) rfl ?_
  refine aw_goto (pc := 295) 407 dX12_works_295 (by decide) ?_
  refine aw_sub [1, 0] rfl ?_
  exact c_X12_works_407  _ _ _ _ h
set_option maxRecDepth 100000 in
set_option maxHeartbeats 4000000 in
theorem c_X12_works_310 {G : ah_G}   : ∀ (x0 : Nat) (s0 : Int32) (σ : ah_H) (r : Int32 × ah_H), f_X12_works_310   x0 s0 σ = some r → AW G m_X12_works 1 0 0 310 [(0, .ref x0)] [.int s0] σ (ah_N G (ah_ri r)) := by
  intro x0 s0 σ r h
  unfold f_X12_works_310 at h
  obtain ⟨r1, e, h⟩ := op_bd h
  refine ow_cSl (pc := 310) [.int s0] ((c_X12_is _ _ _ e).mono (by decide)) rfl dX12_works_310 cw_X12_336 rfl (Nat.le_of_ble_eq_true rfl) ?_
  refine aw_lstore (pc := 313) [(6, .long r1.1), (0, .ref x0)] dX12_works_313 (by decide) rfl ?_
  refine aw_goto (pc := 315) 407 dX12_works_315 (by decide) ?_
  refine aw_sub [1, 0] rfl ?_
  exact c_X12_works_407  _ _ _ _ h
set_option maxRecDepth 100000 in
set_option maxHeartbeats 4000000 in
theorem c_X12_works_330 {G : ah_G}   : ∀ (x0 : Nat) (s0 : Int32) (σ : ah_H) (r : Int32 × ah_H), f_X12_works_330   x0 s0 σ = some r → AW G m_X12_works 1 0 0 330 [(0, .ref x0)] [.int s0] σ (ah_N G (ah_ri r)) := by
  intro x0 s0 σ r h
  unfold f_X12_works_330 at h
  obtain ⟨r1, e, h⟩ := op_bd h
  refine ow_cSl (pc := 330) [.int s0] ((c_X12_is _ _ _ e).mono (by decide)) rfl dX12_works_330 cw_X12_336 rfl (Nat.le_of_ble_eq_true rfl) ?_
  refine aw_lstore (pc := 333) [(6, .long r1.1), (0, .ref x0)] dX12_works_333 (by decide) rfl ?_
  refine aw_goto (pc := 335) 407 dX12_works_335 (by decide) ?_
  refine aw_sub [1, 0] rfl ?_
  exact c_X12_works_407  _ _ _ _ h
set_option maxRecDepth 100000 in
set_option maxHeartbeats 4000000 in
theorem c_X12_works_350 {G : ah_G}   : ∀ (x0 : Nat) (s0 : Int32) (σ : ah_H) (r : Int32 × ah_H), f_X12_works_350   x0 s0 σ = some r → AW G m_X12_works 1 0 0 350 [(0, .ref x0)] [.int s0] σ (ah_N G (ah_ri r)) := by
  intro x0 s0 σ r h
  unfold f_X12_works_350 at h
  obtain ⟨r1, e, h⟩ := op_bd h
  refine ow_cSl (pc := 350) [.int s0] ((c_X12_is _ _ _ e).mono (by decide)) rfl dX12_works_350 cw_X12_336 rfl (Nat.le_of_ble_eq_true rfl) ?_
  refine aw_lstore (pc := 353) [(6, .long r1.1), (0, .ref x0)] dX12_works_353 (by decide) rfl ?_
  refine aw_goto (pc := 355) 407 dX12_works_355 (by decide) ?_
  refine aw_sub [1, 0] rfl ?_
  exact c_X12_works_407  _ _ _ _ h
set_option maxRecDepth 100000 in
set_option maxHeartbeats 4000000 in
theorem c_X12_works_376 {G : ah_G}   : ∀ (x0 : Nat) (s0 : Int32) (σ : ah_H) (r : Int32 × ah_H), f_X12_works_376   x0 s0 σ = some r → AW G m_X12_works 1 0 0 376 [(0, .ref x0)] [.int s0] σ (ah_N G (ah_ri r)) := by
  intro x0 s0 σ r h
  unfold f_X12_works_376 at h
  obtain ⟨r1, e, h⟩ := op_bd h
  refine ow_cSl (pc := 376) [.int s0] ((c_X12_is _ _ _ e).mono (by decide)) rfl dX12_works_376 cw_X12_336 rfl (Nat.le_of_ble_eq_true rfl) ?_
  refine aw_lstore (pc := 379) [(6, .long r1.1), (0, .ref x0)] dX12_works_379 (by decide) rfl ?_
  refine aw_goto (pc := 381) 407 dX12_works_381 (by decide) ?_
  refine aw_sub [1, 0] rfl ?_
  exact c_X12_works_407  _ _ _ _ h
set_option maxRecDepth 100000 in
set_option maxHeartbeats 4000000 in
theorem c_X12_works_375 {G : ah_G}   : ∀ (x0 : Nat) (σ : ah_H) (r : Int32 × ah_H), f_X12_works_375   x0 σ = some r → AW G m_X12_works 1 0 0 375 [(0, .ref x0)] [] σ (ah_N G (ah_ri r)) := by
  intro x0 σ r h
  unfold f_X12_works_375 at h
  refine aw_iconst (pc := 375) (v := (0 : Int32)) dX12_works_375 (by decide) ?_
  exact c_X12_works_376  _ _ _ _ h
set_option maxRecDepth 100000 in
set_option maxHeartbeats 4000000 in
theorem c_X12_works_402 {G : ah_G}   : ∀ (x0 : Nat) (s0 : Int32) (σ : ah_H) (r : Int32 × ah_H), f_X12_works_402   x0 s0 σ = some r → AW G m_X12_works 1 0 0 402 [(0, .ref x0)] [.int s0] σ (ah_N G (ah_ri r)) := by
  intro x0 s0 σ r h
  unfold f_X12_works_402 at h
  obtain ⟨r1, e, h⟩ := op_bd h
  refine ow_cSl (pc := 402) [.int s0] ((c_X12_is _ _ _ e).mono (by decide)) rfl dX12_works_402 cw_X12_336 rfl (Nat.le_of_ble_eq_true rfl) ?_
  refine aw_lstore (pc := 405) [(6, .long r1.1), (0, .ref x0)] dX12_works_405 (by decide) rfl ?_
  refine aw_sub [1, 0] rfl ?_
  exact c_X12_works_407  _ _ _ _ h
set_option maxRecDepth 100000 in
set_option maxHeartbeats 4000000 in
theorem c_X12_works_397 {G : ah_G}   : ∀ (x0 : Nat) (σ : ah_H) (r : Int32 × ah_H), f_X12_works_397   x0 σ = some r → AW G m_X12_works 1 0 0 397 [(0, .ref x0)] [] σ (ah_N G (ah_ri r)) := by
  intro x0 σ r h
  unfold f_X12_works_397 at h
  refine aw_iconst (pc := 397) (v := (1 : Int32)) dX12_works_397 (by decide) ?_
  refine aw_goto (pc := 398) 402 dX12_works_398 (by decide) ?_
  exact c_X12_works_402  _ _ _ _ h
set_option maxRecDepth 100000 in
set_option maxHeartbeats 4000000 in
theorem c_X12_works_0 {G : ah_G}   : ∀ (x0 : Nat) (x1 : Int32) (σ : ah_H) (r : Int32 × ah_H), f_X12_works_0   x0 x1 σ = some r → AW G m_X12_works 1 0 0 0 [(0, .ref x0), (1, .int x1)] [] σ (ah_N G (ah_ri r)) := by
  intro x0 x1 σ r h
  unfold f_X12_works_0 at h
  refine aw_aload_n (pc := 0) 0 dX12_works_0 rfl ?_
  obtain ⟨v1, e, h⟩ := op_bd h
  refine ow_gR (pc := 1) e dX12_works_1 fd_X12_80 rfl ?_
  refine aw_aload_n (pc := 4) 0 dX12_works_4 rfl ?_
  obtain ⟨v2, e, h⟩ := op_bd h
  refine ow_gI (pc := 5) e dX12_works_5 fd_X12_333 rfl ?_
  refine aw_iconst (pc := 8) (v := (1 : Int32)) dX12_works_8 (by decide) ?_
  refine aw_isub (pc := 9) dX12_works_9 ?_
  obtain ⟨v3, e, h⟩ := op_bd h
  refine ow_aL (pc := 10) e dX12_works_10 ?_
  refine aw_lstore_n (pc := 11) [(2, .long v3), (0, .ref x0), (1, .int x1)] dX12_works_11 rfl (by decide) rfl ?_
  refine aw_iload_n (pc := 12) 2 dX12_works_12 rfl ?_
  refine aw_sipush (pc := 13) (v := (260 : Int32)) dX12_works_13 (by decide) ?_
  refine aw_icmp_ne (pc := 16) 46 dX12_works_16 (by decide) (fun z => ?_) (fun z => ?_)
  · replace h := (if_neg z).symm.trans h
    refine aw_aload_n (pc := 46) 1 dX12_works_46 rfl ?_
    obtain ⟨v4, e, h⟩ := op_bd h
    refine ow_gR (pc := 47) e dX12_works_47 fd_X12_80 rfl ?_
    refine aw_aload_n (pc := 50) 1 dX12_works_50 rfl ?_
    obtain ⟨v5, e, h⟩ := op_bd h
    refine ow_gI (pc := 51) e dX12_works_51 fd_X12_333 rfl ?_
    refine aw_iconst (pc := 54) (v := (2 : Int32)) dX12_works_54 (by decide) ?_
    refine aw_isub (pc := 55) dX12_works_55 ?_
    obtain ⟨v6, e, h⟩ := op_bd h
    refine ow_aL (pc := 56) e dX12_works_56 ?_
    refine aw_lstore (pc := 57) [(4, .long v6), (2, .long v3), (0, .ref x0), (1, .int x1)] dX12_works_57 (by decide) rfl ?_
    refine aw_aload_n (pc := 59) 2 dX12_works_59 rfl ?_
    refine aw_dup (pc := 60) dX12_works_60 rfl ?_
    obtain ⟨v7, e, h⟩ := op_bd h
    refine ow_gI (pc := 61) e dX12_works_61 fd_X12_333 rfl ?_
    refine aw_iconst (pc := 64) (v := (1 : Int32)) dX12_works_64 (by decide) ?_
    refine aw_isub (pc := 65) dX12_works_65 ?_
    obtain ⟨σ8, e, h⟩ := op_bd h
    refine ow_pI (pc := 66) e dX12_works_66 fd_X12_333 ?_
    refine aw_iload_n (pc := 69) 3 dX12_works_69 rfl ?_
    by_cases z0 : x1 = (42 : Int32)
    · replace h := (if_pos z0).symm.trans h
      refine aw_lookup (pc := 70) (off := 116) 186 dX12_works_70 (by decide) (by rw [z0]; decide) (by decide) ?_
      refine aw_lload (pc := 186) 0 dX12_works_186 rfl ?_
      refine aw_lconst (pc := 188) (v := (0 : Int64)) dX12_works_188 (by decide) ?_
      refine aw_lcmp (pc := 189) dX12_works_189 ?_
      refine aw_if_eq (pc := 190) 212 dX12_works_190 (by decide) (fun z => ?_) (fun z => ?_)
      · replace h := (if_pos z).symm.trans h
        refine aw_sub [2, 1, 0] rfl ?_
        exact c_X12_works_212  _ _ _ _ _ h
      · replace h := (if_neg z).symm.trans h
        refine aw_lload_n (pc := 193) 1 dX12_works_193 rfl ?_
        refine ow_absl (pc := 194) dX12_works_194 mt_X12_340 (Nat.le_of_ble_eq_true rfl) ?_
        refine aw_ldc2 (pc := 197) dX12_works_197 kl_X12_346 ?_
        refine aw_lload (pc := 200) 0 dX12_works_200 rfl ?_
        refine ow_absl (pc := 202) dX12_works_202 mt_X12_340 (Nat.le_of_ble_eq_true rfl) ?_
        obtain ⟨v9, e, h⟩ := op_bd h
        refine ow_ldiv (pc := 205) e dX12_works_205 ?_
        refine aw_lcmp (pc := 206) dX12_works_206 ?_
        refine aw_if_le (pc := 207) 212 dX12_works_207 (by decide) (fun z => ?_) (fun z => ?_)
        · replace h := (if_pos z).symm.trans h
          refine aw_sub [2, 1, 0] rfl ?_
          exact c_X12_works_212  _ _ _ _ _ h
        · replace h := (if_neg z).symm.trans h
          refine aw_iconst (pc := 210) (v := (0 : Int32)) dX12_works_210 (by decide) ?_
          exact ow_zret (pc := 211) h dX12_works_211 rfl
    · replace h := (if_neg z0).symm.trans h
      by_cases z1 : x1 = (43 : Int32)
      · replace h := (if_pos z1).symm.trans h
        refine aw_lookup (pc := 70) (off := 98) 168 dX12_works_70 (by decide) (by rw [z1]; decide) (by decide) ?_
        refine aw_lload (pc := 168) 0 dX12_works_168 rfl ?_
        refine aw_lload_n (pc := 170) 1 dX12_works_170 rfl ?_
        refine aw_ladd (pc := 171) dX12_works_171 ?_
        refine aw_lstore (pc := 172) [(6, .long (v6 + v3)), (4, .long v6), (2, .long v3), (0, .ref x0), (1, .int x1)] dX12_works_172 (by decide) rfl ?_
        refine aw_goto (pc := 174) 407 dX12_works_174 (by decide) ?_
        refine aw_sub [3, 0] rfl ?_
        exact c_X12_works_407  _ _ _ _ h
      · replace h := (if_neg z1).symm.trans h
        by_cases z2 : x1 = (45 : Int32)
        · replace h := (if_pos z2).symm.trans h
          refine aw_lookup (pc := 70) (off := 107) 177 dX12_works_70 (by decide) (by rw [z2]; decide) (by decide) ?_
          refine aw_lload (pc := 177) 0 dX12_works_177 rfl ?_
          refine aw_lload_n (pc := 179) 1 dX12_works_179 rfl ?_
          refine aw_lsub (pc := 180) dX12_works_180 ?_
          refine aw_lstore (pc := 181) [(6, .long (v6 - v3)), (4, .long v6), (2, .long v3), (0, .ref x0), (1, .int x1)] dX12_works_181 (by decide) rfl ?_
          refine aw_goto (pc := 183) 407 dX12_works_183 (by decide) ?_
          refine aw_sub [3, 0] rfl ?_
          exact c_X12_works_407  _ _ _ _ h
        · replace h := (if_neg z2).symm.trans h
          by_cases z3 : x1 = (47 : Int32)
          · replace h := (if_pos z3).symm.trans h
            refine aw_lookup (pc := 70) (off := 151) 221 dX12_works_70 (by decide) (by rw [z3]; decide) (by decide) ?_
            refine aw_lload_n (pc := 221) 1 dX12_works_221 rfl ?_
            refine aw_lconst (pc := 222) (v := (0 : Int64)) dX12_works_222 (by decide) ?_
            refine aw_lcmp (pc := 223) dX12_works_223 ?_
            refine aw_if_ne (pc := 224) 229 dX12_works_224 (by decide) (fun z => ?_) (fun z => ?_)
            · replace h := (if_neg z).symm.trans h
              refine aw_lload (pc := 229) 0 dX12_works_229 rfl ?_
              refine aw_lload_n (pc := 231) 1 dX12_works_231 rfl ?_
              obtain ⟨v10, e, h⟩ := op_bd h
              refine ow_ldiv (pc := 232) e dX12_works_232 ?_
              refine aw_lstore (pc := 233) [(6, .long v10), (4, .long v6), (2, .long v3), (0, .ref x0), (1, .int x1)] dX12_works_233 (by decide) rfl ?_
              refine aw_goto (pc := 235) 407 dX12_works_235 (by decide) ?_
              refine aw_sub [3, 0] rfl ?_
              exact c_X12_works_407  _ _ _ _ h
            · replace h := (if_pos z).symm.trans h
              refine aw_iconst (pc := 227) (v := (0 : Int32)) dX12_works_227 (by decide) ?_
              exact ow_zret (pc := 228) h dX12_works_228 rfl
          · replace h := (if_neg z3).symm.trans h
            by_cases z4 : x1 = (60 : Int32)
            · replace h := (if_pos z4).symm.trans h
              refine aw_lookup (pc := 70) (off := 168) 238 dX12_works_70 (by decide) (by rw [z4]; decide) (by decide) ?_
              refine aw_lload (pc := 238) 0 dX12_works_238 rfl ?_
              refine aw_lload_n (pc := 240) 1 dX12_works_240 rfl ?_
              refine aw_lcmp (pc := 241) dX12_works_241 ?_
              refine aw_if_ge (pc := 242) 249 dX12_works_242 (by decide) (fun z => ?_) (fun z => ?_)
              · replace h := (if_pos z).symm.trans h
                refine aw_iconst (pc := 249) (v := (0 : Int32)) dX12_works_249 (by decide) ?_
                refine aw_sub [2] rfl ?_
                exact c_X12_works_250  _ _ _ _ h
              · replace h := (if_neg z).symm.trans h
                refine aw_iconst (pc := 245) (v := (1 : Int32)) dX12_works_245 (by decide) ?_
                refine aw_goto (pc := 246) 250 dX12_works_246 (by decide) ?_
                refine aw_sub [2] rfl ?_
                exact c_X12_works_250  _ _ _ _ h
            · replace h := (if_neg z4).symm.trans h
              by_cases z5 : x1 = (61 : Int32)
              · replace h := (if_pos z5).symm.trans h
                refine aw_lookup (pc := 70) (off := 208) 278 dX12_works_70 (by decide) (by rw [z5]; decide) (by decide) ?_
                refine aw_lload (pc := 278) 0 dX12_works_278 rfl ?_
                refine aw_lload_n (pc := 280) 1 dX12_works_280 rfl ?_
                refine aw_lcmp (pc := 281) dX12_works_281 ?_
                refine aw_if_ne (pc := 282) 289 dX12_works_282 (by decide) (fun z => ?_) (fun z => ?_)
                · replace h := (if_neg z).symm.trans h
                  refine aw_iconst (pc := 289) (v := (0 : Int32)) dX12_works_289 (by decide) ?_
                  refine aw_sub [2] rfl ?_
                  exact c_X12_works_290  _ _ _ _ h
                · replace h := (if_pos z).symm.trans h
                  refine aw_iconst (pc := 285) (v := (1 : Int32)) dX12_works_285 (by decide) ?_
                  refine aw_goto (pc := 286) 290 dX12_works_286 (by decide) ?_
                  refine aw_sub [2] rfl ?_
                  exact c_X12_works_290  _ _ _ _ h
              · replace h := (if_neg z5).symm.trans h
                by_cases z6 : x1 = (62 : Int32)
                · replace h := (if_pos z6).symm.trans h
                  refine aw_lookup (pc := 70) (off := 188) 258 dX12_works_70 (by decide) (by rw [z6]; decide) (by decide) ?_
                  refine aw_lload (pc := 258) 0 dX12_works_258 rfl ?_
                  refine aw_lload_n (pc := 260) 1 dX12_works_260 rfl ?_
                  refine aw_lcmp (pc := 261) dX12_works_261 ?_
                  refine aw_if_le (pc := 262) 269 dX12_works_262 (by decide) (fun z => ?_) (fun z => ?_)
                  · replace h := (if_pos z).symm.trans h
                    refine aw_iconst (pc := 269) (v := (0 : Int32)) dX12_works_269 (by decide) ?_
                    refine aw_sub [2] rfl ?_
                    exact c_X12_works_270  _ _ _ _ h
                  · replace h := (if_neg z).symm.trans h
                    refine aw_iconst (pc := 265) (v := (1 : Int32)) dX12_works_265 (by decide) ?_
                    refine aw_goto (pc := 266) 270 dX12_works_266 (by decide) ?_
                    refine aw_sub [2] rfl ?_
                    exact c_X12_works_270  _ _ _ _ h
                · replace h := (if_neg z6).symm.trans h
                  by_cases z7 : x1 = (256 : Int32)
                  · replace h := (if_pos z7).symm.trans h
                    refine aw_lookup (pc := 70) (off := 228) 298 dX12_works_70 (by decide) (by rw [z7]; decide) (by decide) ?_
                    refine aw_lload (pc := 298) 0 dX12_works_298 rfl ?_
                    refine aw_lload_n (pc := 300) 1 dX12_works_300 rfl ?_
                    refine aw_lcmp (pc := 301) dX12_works_301 ?_
                    refine aw_if_gt (pc := 302) 309 dX12_works_302 (by decide) (fun z => ?_) (fun z => ?_)
                    · replace h := (if_pos z).symm.trans h
                      refine aw_iconst (pc := 309) (v := (0 : Int32)) dX12_works_309 (by decide) ?_
                      refine aw_sub [2] rfl ?_
                      exact c_X12_works_310  _ _ _ _ h
                    · replace h := (if_neg z).symm.trans h
                      refine aw_iconst (pc := 305) (v := (1 : Int32)) dX12_works_305 (by decide) ?_
                      refine aw_goto (pc := 306) 310 dX12_works_306 (by decide) ?_
                      refine aw_sub [2] rfl ?_
                      exact c_X12_works_310  _ _ _ _ h
                  · replace h := (if_neg z7).symm.trans h
                    by_cases z8 : x1 = (257 : Int32)
                    · replace h := (if_pos z8).symm.trans h
                      refine aw_lookup (pc := 70) (off := 268) 338 dX12_works_70 (by decide) (by rw [z8]; decide) (by decide) ?_
                      refine aw_lload (pc := 338) 0 dX12_works_338 rfl ?_
                      refine aw_lload_n (pc := 340) 1 dX12_works_340 rfl ?_
                      refine aw_lcmp (pc := 341) dX12_works_341 ?_
                      refine aw_if_eq (pc := 342) 349 dX12_works_342 (by decide) (fun z => ?_) (fun z => ?_)
                      · replace h := (if_pos z).symm.trans h
                        refine aw_iconst (pc := 349) (v := (0 : Int32)) dX12_works_349 (by decide) ?_
                        refine aw_sub [2] rfl ?_
                        exact c_X12_works_350  _ _ _ _ h
                      · replace h := (if_neg z).symm.trans h
                        refine aw_iconst (pc := 345) (v := (1 : Int32)) dX12_works_345 (by decide) ?_
                        refine aw_goto (pc := 346) 350 dX12_works_346 (by decide) ?_
                        refine aw_sub [2] rfl ?_
                        exact c_X12_works_350  _ _ _ _ h
                    · replace h := (if_neg z8).symm.trans h
                      by_cases z9 : x1 = (258 : Int32)
                      · replace h := (if_pos z9).symm.trans h
                        refine aw_lookup (pc := 70) (off := 248) 318 dX12_works_70 (by decide) (by rw [z9]; decide) (by decide) ?_
                        refine aw_lload (pc := 318) 0 dX12_works_318 rfl ?_
                        refine aw_lload_n (pc := 320) 1 dX12_works_320 rfl ?_
                        refine aw_lcmp (pc := 321) dX12_works_321 ?_
                        refine aw_if_lt (pc := 322) 329 dX12_works_322 (by decide) (fun z => ?_) (fun z => ?_)
                        · replace h := (if_pos z).symm.trans h
                          refine aw_iconst (pc := 329) (v := (0 : Int32)) dX12_works_329 (by decide) ?_
                          refine aw_sub [2] rfl ?_
                          exact c_X12_works_330  _ _ _ _ h
                        · replace h := (if_neg z).symm.trans h
                          refine aw_iconst (pc := 325) (v := (1 : Int32)) dX12_works_325 (by decide) ?_
                          refine aw_goto (pc := 326) 330 dX12_works_326 (by decide) ?_
                          refine aw_sub [2] rfl ?_
                          exact c_X12_works_330  _ _ _ _ h
                      · replace h := (if_neg z9).symm.trans h
                        by_cases z10 : x1 = (261 : Int32)
                        · replace h := (if_pos z10).symm.trans h
                          refine aw_lookup (pc := 70) (off := 288) 358 dX12_works_70 (by decide) (by rw [z10]; decide) (by decide) ?_
                          refine aw_lload (pc := 358) 0 dX12_works_358 rfl ?_
                          refine aw_lconst (pc := 360) (v := (0 : Int64)) dX12_works_360 (by decide) ?_
                          refine aw_lcmp (pc := 361) dX12_works_361 ?_
                          refine aw_if_eq (pc := 362) 375 dX12_works_362 (by decide) (fun z => ?_) (fun z => ?_)
                          · replace h := (if_pos z).symm.trans h
                            refine aw_sub [2] rfl ?_
                            exact c_X12_works_375  _ _ _ h
                          · replace h := (if_neg z).symm.trans h
                            refine aw_lload_n (pc := 365) 1 dX12_works_365 rfl ?_
                            refine aw_lconst (pc := 366) (v := (0 : Int64)) dX12_works_366 (by decide) ?_
                            refine aw_lcmp (pc := 367) dX12_works_367 ?_
                            refine aw_if_eq (pc := 368) 375 dX12_works_368 (by decide) (fun z => ?_) (fun z => ?_)
                            · replace h := (if_pos z).symm.trans h
                              refine aw_sub [2] rfl ?_
                              exact c_X12_works_375  _ _ _ h
                            · replace h := (if_neg z).symm.trans h
                              refine aw_iconst (pc := 371) (v := (1 : Int32)) dX12_works_371 (by decide) ?_
                              refine aw_goto (pc := 372) 376 dX12_works_372 (by decide) ?_
                              refine aw_sub [2] rfl ?_
                              exact c_X12_works_376  _ _ _ _ h
                        · replace h := (if_neg z10).symm.trans h
                          have wz0 : ¬ (x1).toInt = 42 := fun q => z0 (Int32.toInt_inj.mp q)
                          have wz1 : ¬ (x1).toInt = 43 := fun q => z1 (Int32.toInt_inj.mp q)
                          have wz2 : ¬ (x1).toInt = 45 := fun q => z2 (Int32.toInt_inj.mp q)
                          have wz3 : ¬ (x1).toInt = 47 := fun q => z3 (Int32.toInt_inj.mp q)
                          have wz4 : ¬ (x1).toInt = 60 := fun q => z4 (Int32.toInt_inj.mp q)
                          have wz5 : ¬ (x1).toInt = 61 := fun q => z5 (Int32.toInt_inj.mp q)
                          have wz6 : ¬ (x1).toInt = 62 := fun q => z6 (Int32.toInt_inj.mp q)
                          have wz7 : ¬ (x1).toInt = 256 := fun q => z7 (Int32.toInt_inj.mp q)
                          have wz8 : ¬ (x1).toInt = 257 := fun q => z8 (Int32.toInt_inj.mp q)
                          have wz9 : ¬ (x1).toInt = 258 := fun q => z9 (Int32.toInt_inj.mp q)
                          have wz10 : ¬ (x1).toInt = 261 := fun q => z10 (Int32.toInt_inj.mp q)
                          refine aw_lookup (pc := 70) 384 dX12_works_70 (by decide) (op_lk _ _ _ (by simp [wz0, wz1, wz2, wz3, wz4, wz5, wz6, wz7, wz8, wz9, wz10])) (by decide) ?_
                          refine aw_lload (pc := 384) 0 dX12_works_384 rfl ?_
                          refine aw_lconst (pc := 386) (v := (0 : Int64)) dX12_works_386 (by decide) ?_
                          refine aw_lcmp (pc := 387) dX12_works_387 ?_
                          refine aw_if_ne (pc := 388) 397 dX12_works_388 (by decide) (fun z => ?_) (fun z => ?_)
                          · replace h := (if_neg z).symm.trans h
                            refine aw_sub [2] rfl ?_
                            exact c_X12_works_397  _ _ _ h
                          · replace h := (if_pos z).symm.trans h
                            refine aw_lload_n (pc := 391) 1 dX12_works_391 rfl ?_
                            refine aw_lconst (pc := 392) (v := (0 : Int64)) dX12_works_392 (by decide) ?_
                            refine aw_lcmp (pc := 393) dX12_works_393 ?_
                            refine aw_if_eq (pc := 394) 401 dX12_works_394 (by decide) (fun z => ?_) (fun z => ?_)
                            · replace h := (if_pos z).symm.trans h
                              refine aw_iconst (pc := 401) (v := (0 : Int32)) dX12_works_401 (by decide) ?_
                              refine aw_sub [2] rfl ?_
                              exact c_X12_works_402  _ _ _ _ h
                            · replace h := (if_neg z).symm.trans h
                              refine aw_sub [2] rfl ?_
                              exact c_X12_works_397  _ _ _ h
  · replace h := (if_pos z).symm.trans h
    refine aw_aload_n (pc := 19) 1 dX12_works_19 rfl ?_
    obtain ⟨v11, e, h⟩ := op_bd h
    refine ow_gR (pc := 20) e dX12_works_20 fd_X12_80 rfl ?_
    refine aw_aload_n (pc := 23) 1 dX12_works_23 rfl ?_
    obtain ⟨v12, e, h⟩ := op_bd h
    refine ow_gI (pc := 24) e dX12_works_24 fd_X12_333 rfl ?_
    refine aw_iconst (pc := 27) (v := (1 : Int32)) dX12_works_27 (by decide) ?_
    refine aw_isub (pc := 28) dX12_works_28 ?_
    refine aw_lload_n (pc := 29) 0 dX12_works_29 rfl ?_
    refine aw_lconst (pc := 30) (v := (0 : Int64)) dX12_works_30 (by decide) ?_
    refine aw_lcmp (pc := 31) dX12_works_31 ?_
    refine aw_if_ne (pc := 32) 39 dX12_works_32 (by decide) (fun z => ?_) (fun z => ?_)
    · replace h := (if_neg z).symm.trans h
      refine aw_iconst (pc := 39) (v := (0 : Int32)) dX12_works_39 (by decide) ?_
      refine aw_sub [] rfl ?_
      exact c_X12_works_40  _ _ _ _ _ h
    · replace h := (if_pos z).symm.trans h
      refine aw_iconst (pc := 35) (v := (1 : Int32)) dX12_works_35 (by decide) ?_
      refine aw_goto (pc := 36) 40 dX12_works_36 (by decide) ?_
      refine aw_sub [] rfl ?_
      exact c_X12_works_40  _ _ _ _ _ h
theorem c_X12_works {G : ah_G}   (x0 : Nat) (x1 : Int32) (σ : ah_H) (r : Int32 × ah_H) (h : f_X12_works  x0 x1 σ = some r) : AM G m_X12_works 1 0 0 [.ref x0, .int x1] σ (ah_ri r) := aw_enter (by decide) (Nat.le_of_ble_eq_true rfl) (c_X12_works_0 _ _ _ _ (op_ck_k h))
