def f_X12_keepNow_189   (x0 : Nat) (σ : ah_H) : Option (ah_H) :=
  (op_gI 12 52 σ x0).bind fun v1 => (op_pI 12 52 σ x0 (v1 + (1 : Int32))).bind fun σ2 => some σ2
def f_X12_keepNow_97_b  (K97 : Nat → Int32 → ah_H → Option (ah_H)) (x0 : Nat) (x1 : Int32) (σ : ah_H) : Option (ah_H) :=
  if (7 : Int32) ≤ x1 then (f_X12_keepNow_189 x0 σ) else ((op_gR 12 48 σ x0).bind fun v1 => (op_gI 12 52 σ x0).bind fun v2 => (op_gR 12 38 σ x0).bind fun v3 => (op_aI σ v3 x1).bind fun v4 => (op_sI σ v1 (((7 : Int32) * v2) + x1) v4).bind fun σ5 => (op_gR 12 49 σ5 x0).bind fun v6 => (op_gI 12 52 σ5 x0).bind fun v7 => (op_gR 12 39 σ5 x0).bind fun v8 => (op_aI σ5 v8 x1).bind fun v9 => (op_sI σ5 v6 (((7 : Int32) * v7) + x1) v9).bind fun σ10 => (op_gR 12 50 σ10 x0).bind fun v11 => (op_gI 12 52 σ10 x0).bind fun v12 => (op_gR 12 40 σ10 x0).bind fun v13 => (op_aI σ10 v13 x1).bind fun v14 => (op_sI σ10 v11 (((7 : Int32) * v12) + x1) v14).bind fun σ15 => (op_gR 12 51 σ15 x0).bind fun v16 => (op_gI 12 52 σ15 x0).bind fun v17 => (op_gR 12 41 σ15 x0).bind fun v18 => (op_aI σ15 v18 x1).bind fun v19 => (op_sI σ15 v16 (((7 : Int32) * v17) + x1) v19).bind fun σ20 => K97 x0 (x1 + (1 : Int32)) σ20)
def f_X12_keepNow_97   : Nat → Nat → Int32 → ah_H → Option (ah_H)
  | 0, _, _, _ => none
  | n + 1, x0, x1, σ => f_X12_keepNow_97_b (f_X12_keepNow_97 n) x0 x1 σ
def f_X12_keepNow_95   (x0 : Nat) (σ : ah_H) : Option (ah_H) :=
  f_X12_keepNow_97 5000 x0 (0 : Int32) σ
def f_X12_keepNow_85   (x0 : Nat) (σ : ah_H) : Option (ah_H) :=
  (op_gI 12 52 σ x0).bind fun v1 => (op_pI 12 52 σ x0 (v1 - (1 : Int32))).bind fun σ2 => f_X12_keepNow_95 x0 σ2
def f_X12_keepNow_12_b  (K12 : Nat → Int32 → ah_H → Option (ah_H)) (x0 : Nat) (x1 : Int32) (σ : ah_H) : Option (ah_H) :=
  if (140 : Int32) ≤ x1 then (f_X12_keepNow_85 x0 σ) else ((op_gR 12 48 σ x0).bind fun v1 => (op_gR 12 48 σ x0).bind fun v2 => (op_aI σ v2 x1).bind fun v3 => (op_sI σ v1 (x1 - (7 : Int32)) v3).bind fun σ4 => (op_gR 12 49 σ4 x0).bind fun v5 => (op_gR 12 49 σ4 x0).bind fun v6 => (op_aI σ4 v6 x1).bind fun v7 => (op_sI σ4 v5 (x1 - (7 : Int32)) v7).bind fun σ8 => (op_gR 12 50 σ8 x0).bind fun v9 => (op_gR 12 50 σ8 x0).bind fun v10 => (op_aI σ8 v10 x1).bind fun v11 => (op_sI σ8 v9 (x1 - (7 : Int32)) v11).bind fun σ12 => (op_gR 12 51 σ12 x0).bind fun v13 => (op_gR 12 51 σ12 x0).bind fun v14 => (op_aI σ12 v14 x1).bind fun v15 => (op_sI σ12 v13 (x1 - (7 : Int32)) v15).bind fun σ16 => K12 x0 (x1 + (1 : Int32)) σ16)
def f_X12_keepNow_12   : Nat → Nat → Int32 → ah_H → Option (ah_H)
  | 0, _, _, _ => none
  | n + 1, x0, x1, σ => f_X12_keepNow_12_b (f_X12_keepNow_12 n) x0 x1 σ
def f_X12_keepNow_0   (x0 : Nat) (σ : ah_H) : Option (ah_H) :=
  (op_gI 12 52 σ x0).bind fun v1 => if v1 = (20 : Int32) then (f_X12_keepNow_12 5000 x0 (7 : Int32) σ) else (f_X12_keepNow_95 x0 σ)
def f_X12_keepNow  (x0 : Nat) (σ : ah_H) : Option (ah_H) := op_ck 12 σ x0 (f_X12_keepNow_0 x0 σ)
set_option maxRecDepth 100000 in
set_option maxHeartbeats 4000000 in
theorem c_X12_keepNow_189 {G : ah_G}   : ∀ (x0 : Nat) (σ : ah_H) (r : ah_H), f_X12_keepNow_189   x0 σ = some r → AW G m_X12_keepNow 0 0 0 189 [(0, .ref x0)] [] σ (ah_N G (ah_rv r)) := by
  intro x0 σ r h
  unfold f_X12_keepNow_189 at h
  refine aw_aload_n (pc := 189) 0 dX12_keepNow_189 rfl ?_
  refine aw_dup (pc := 190) dX12_keepNow_190 rfl ?_
  obtain ⟨v1, e, h⟩ := op_bd h
  refine ow_gI (pc := 191) e dX12_keepNow_191 fd_X12_320 rfl ?_
  refine aw_iconst (pc := 194) (v := (1 : Int32)) dX12_keepNow_194 (by decide) ?_
  refine aw_iadd (pc := 195) dX12_keepNow_195 ?_
  obtain ⟨σ2, e, h⟩ := op_bd h
  refine ow_pI (pc := 196) e dX12_keepNow_196 fd_X12_320 ?_
  exact ow_vret (pc := 199) h dX12_keepNow_199 rfl
set_option maxRecDepth 100000 in
set_option maxHeartbeats 4000000 in
theorem c_X12_keepNow_97_b {G : ah_G}  (K97 : Nat → Int32 → ah_H → Option (ah_H)) (hK97 : ∀ (x0 : Nat) (x1 : Int32) (σ : ah_H) (r : ah_H), K97 x0 x1 σ = some r → AW G m_X12_keepNow 0 0 0 97 [(0, .ref x0), (1, .int x1)] [] σ (ah_N G (ah_rv r))) : ∀ (x0 : Nat) (x1 : Int32) (σ : ah_H) (r : ah_H), f_X12_keepNow_97_b  K97 x0 x1 σ = some r → AW G m_X12_keepNow 0 0 0 97 [(0, .ref x0), (1, .int x1)] [] σ (ah_N G (ah_rv r)) := by
  intro x0 x1 σ r h
  unfold f_X12_keepNow_97_b at h
  refine aw_iload_n (pc := 97) 1 dX12_keepNow_97 rfl ?_
  refine aw_bipush (pc := 98) (v := (7 : Int32)) dX12_keepNow_98 (by decide) ?_
  refine aw_icmp_ge (pc := 100) 189 dX12_keepNow_100 (by decide) (fun z => ?_) (fun z => ?_)
  · replace h := (if_pos z).symm.trans h
    refine aw_sub [0] rfl ?_
    exact c_X12_keepNow_189  _ _ _ h
  · replace h := (if_neg z).symm.trans h
    refine aw_aload_n (pc := 103) 0 dX12_keepNow_103 rfl ?_
    obtain ⟨v1, e, h⟩ := op_bd h
    refine ow_gR (pc := 104) e dX12_keepNow_104 fd_X12_105 rfl ?_
    refine aw_bipush (pc := 107) (v := (7 : Int32)) dX12_keepNow_107 (by decide) ?_
    refine aw_aload_n (pc := 109) 0 dX12_keepNow_109 rfl ?_
    obtain ⟨v2, e, h⟩ := op_bd h
    refine ow_gI (pc := 110) e dX12_keepNow_110 fd_X12_320 rfl ?_
    refine aw_imul (pc := 113) dX12_keepNow_113 ?_
    refine aw_iload_n (pc := 114) 1 dX12_keepNow_114 rfl ?_
    refine aw_iadd (pc := 115) dX12_keepNow_115 ?_
    refine aw_aload_n (pc := 116) 0 dX12_keepNow_116 rfl ?_
    obtain ⟨v3, e, h⟩ := op_bd h
    refine ow_gR (pc := 117) e dX12_keepNow_117 fd_X12_83 rfl ?_
    refine aw_iload_n (pc := 120) 1 dX12_keepNow_120 rfl ?_
    obtain ⟨v4, e, h⟩ := op_bd h
    refine ow_aI (pc := 121) e dX12_keepNow_121 ?_
    obtain ⟨σ5, e, h⟩ := op_bd h
    refine ow_sI (pc := 122) e dX12_keepNow_122 ?_
    refine aw_aload_n (pc := 123) 0 dX12_keepNow_123 rfl ?_
    obtain ⟨v6, e, h⟩ := op_bd h
    refine ow_gR (pc := 124) e dX12_keepNow_124 fd_X12_108 rfl ?_
    refine aw_bipush (pc := 127) (v := (7 : Int32)) dX12_keepNow_127 (by decide) ?_
    refine aw_aload_n (pc := 129) 0 dX12_keepNow_129 rfl ?_
    obtain ⟨v7, e, h⟩ := op_bd h
    refine ow_gI (pc := 130) e dX12_keepNow_130 fd_X12_320 rfl ?_
    refine aw_imul (pc := 133) dX12_keepNow_133 ?_
    refine aw_iload_n (pc := 134) 1 dX12_keepNow_134 rfl ?_
    refine aw_iadd (pc := 135) dX12_keepNow_135 ?_
    refine aw_aload_n (pc := 136) 0 dX12_keepNow_136 rfl ?_
    obtain ⟨v8, e, h⟩ := op_bd h
    refine ow_gR (pc := 137) e dX12_keepNow_137 fd_X12_86 rfl ?_
    refine aw_iload_n (pc := 140) 1 dX12_keepNow_140 rfl ?_
    obtain ⟨v9, e, h⟩ := op_bd h
    refine ow_aI (pc := 141) e dX12_keepNow_141 ?_
    obtain ⟨σ10, e, h⟩ := op_bd h
    refine ow_sI (pc := 142) e dX12_keepNow_142 ?_
    refine aw_aload_n (pc := 143) 0 dX12_keepNow_143 rfl ?_
    obtain ⟨v11, e, h⟩ := op_bd h
    refine ow_gR (pc := 144) e dX12_keepNow_144 fd_X12_111 rfl ?_
    refine aw_bipush (pc := 147) (v := (7 : Int32)) dX12_keepNow_147 (by decide) ?_
    refine aw_aload_n (pc := 149) 0 dX12_keepNow_149 rfl ?_
    obtain ⟨v12, e, h⟩ := op_bd h
    refine ow_gI (pc := 150) e dX12_keepNow_150 fd_X12_320 rfl ?_
    refine aw_imul (pc := 153) dX12_keepNow_153 ?_
    refine aw_iload_n (pc := 154) 1 dX12_keepNow_154 rfl ?_
    refine aw_iadd (pc := 155) dX12_keepNow_155 ?_
    refine aw_aload_n (pc := 156) 0 dX12_keepNow_156 rfl ?_
    obtain ⟨v13, e, h⟩ := op_bd h
    refine ow_gR (pc := 157) e dX12_keepNow_157 fd_X12_89 rfl ?_
    refine aw_iload_n (pc := 160) 1 dX12_keepNow_160 rfl ?_
    obtain ⟨v14, e, h⟩ := op_bd h
    refine ow_aI (pc := 161) e dX12_keepNow_161 ?_
    obtain ⟨σ15, e, h⟩ := op_bd h
    refine ow_sI (pc := 162) e dX12_keepNow_162 ?_
    refine aw_aload_n (pc := 163) 0 dX12_keepNow_163 rfl ?_
    obtain ⟨v16, e, h⟩ := op_bd h
    refine ow_gR (pc := 164) e dX12_keepNow_164 fd_X12_114 rfl ?_
    refine aw_bipush (pc := 167) (v := (7 : Int32)) dX12_keepNow_167 (by decide) ?_
    refine aw_aload_n (pc := 169) 0 dX12_keepNow_169 rfl ?_
    obtain ⟨v17, e, h⟩ := op_bd h
    refine ow_gI (pc := 170) e dX12_keepNow_170 fd_X12_320 rfl ?_
    refine aw_imul (pc := 173) dX12_keepNow_173 ?_
    refine aw_iload_n (pc := 174) 1 dX12_keepNow_174 rfl ?_
    refine aw_iadd (pc := 175) dX12_keepNow_175 ?_
    refine aw_aload_n (pc := 176) 0 dX12_keepNow_176 rfl ?_
    obtain ⟨v18, e, h⟩ := op_bd h
    refine ow_gR (pc := 177) e dX12_keepNow_177 fd_X12_92 rfl ?_
    refine aw_iload_n (pc := 180) 1 dX12_keepNow_180 rfl ?_
    obtain ⟨v19, e, h⟩ := op_bd h
    refine ow_aI (pc := 181) e dX12_keepNow_181 ?_
    obtain ⟨σ20, e, h⟩ := op_bd h
    refine ow_sI (pc := 182) e dX12_keepNow_182 ?_
    refine aw_iinc (pc := 183) 1 [(1, .int (x1 + (1 : Int32))), (0, .ref x0)] (x1 + (1 : Int32)) dX12_keepNow_183 rfl rfl (by decide) rfl ?_
    refine aw_goto (pc := 186) 97 dX12_keepNow_186 (by decide) ?_
    refine aw_sub [1, 0] rfl ?_
    exact hK97 _ _ _ _ h
theorem c_X12_keepNow_97 {G : ah_G}   : ∀ (n : Nat) (x0 : Nat) (x1 : Int32) (σ : ah_H) (r : ah_H), f_X12_keepNow_97   n x0 x1 σ = some r → AW G m_X12_keepNow 0 0 0 97 [(0, .ref x0), (1, .int x1)] [] σ (ah_N G (ah_rv r)) := by
  intro n
  induction n with
  | zero => intro x0 x1 σ r h; cases h
  | succ n ih => intro x0 x1 σ r h; exact c_X12_keepNow_97_b   _ ih x0 x1 σ r h
set_option maxRecDepth 100000 in
set_option maxHeartbeats 4000000 in
theorem c_X12_keepNow_95 {G : ah_G}   : ∀ (x0 : Nat) (σ : ah_H) (r : ah_H), f_X12_keepNow_95   x0 σ = some r → AW G m_X12_keepNow 0 0 0 95 [(0, .ref x0)] [] σ (ah_N G (ah_rv r)) := by
  intro x0 σ r h
  unfold f_X12_keepNow_95 at h
  refine aw_iconst (pc := 95) (v := (0 : Int32)) dX12_keepNow_95 (by decide) ?_
  refine aw_istore_n (pc := 96) [(1, .int (0 : Int32)), (0, .ref x0)] dX12_keepNow_96 rfl (by decide) rfl ?_
  refine aw_sub [1, 0] rfl ?_
  exact c_X12_keepNow_97  _ _ _ _ _ h
set_option maxRecDepth 100000 in
set_option maxHeartbeats 4000000 in
theorem c_X12_keepNow_85 {G : ah_G}   : ∀ (x0 : Nat) (σ : ah_H) (r : ah_H), f_X12_keepNow_85   x0 σ = some r → AW G m_X12_keepNow 0 0 0 85 [(0, .ref x0)] [] σ (ah_N G (ah_rv r)) := by
  intro x0 σ r h
  unfold f_X12_keepNow_85 at h
  refine aw_aload_n (pc := 85) 0 dX12_keepNow_85 rfl ?_
  refine aw_dup (pc := 86) dX12_keepNow_86 rfl ?_
  obtain ⟨v1, e, h⟩ := op_bd h
  refine ow_gI (pc := 87) e dX12_keepNow_87 fd_X12_320 rfl ?_
  refine aw_iconst (pc := 90) (v := (1 : Int32)) dX12_keepNow_90 (by decide) ?_
  refine aw_isub (pc := 91) dX12_keepNow_91 ?_
  obtain ⟨σ2, e, h⟩ := op_bd h
  refine ow_pI (pc := 92) e dX12_keepNow_92 fd_X12_320 ?_
  exact c_X12_keepNow_95  _ _ _ h
set_option maxRecDepth 100000 in
set_option maxHeartbeats 4000000 in
theorem c_X12_keepNow_12_b {G : ah_G}  (K12 : Nat → Int32 → ah_H → Option (ah_H)) (hK12 : ∀ (x0 : Nat) (x1 : Int32) (σ : ah_H) (r : ah_H), K12 x0 x1 σ = some r → AW G m_X12_keepNow 0 0 0 12 [(0, .ref x0), (1, .int x1)] [] σ (ah_N G (ah_rv r))) : ∀ (x0 : Nat) (x1 : Int32) (σ : ah_H) (r : ah_H), f_X12_keepNow_12_b  K12 x0 x1 σ = some r → AW G m_X12_keepNow 0 0 0 12 [(0, .ref x0), (1, .int x1)] [] σ (ah_N G (ah_rv r)) := by
  intro x0 x1 σ r h
  unfold f_X12_keepNow_12_b at h
  refine aw_iload_n (pc := 12) 1 dX12_keepNow_12 rfl ?_
  refine aw_sipush (pc := 13) (v := (140 : Int32)) dX12_keepNow_13 (by decide) ?_
  refine aw_icmp_ge (pc := 16) 85 dX12_keepNow_16 (by decide) (fun z => ?_) (fun z => ?_)
  · replace h := (if_pos z).symm.trans h
    refine aw_sub [0] rfl ?_
    exact c_X12_keepNow_85  _ _ _ h
  · replace h := (if_neg z).symm.trans h
    refine aw_aload_n (pc := 19) 0 dX12_keepNow_19 rfl ?_
    obtain ⟨v1, e, h⟩ := op_bd h
    refine ow_gR (pc := 20) e dX12_keepNow_20 fd_X12_105 rfl ?_
    refine aw_iload_n (pc := 23) 1 dX12_keepNow_23 rfl ?_
    refine aw_bipush (pc := 24) (v := (7 : Int32)) dX12_keepNow_24 (by decide) ?_
    refine aw_isub (pc := 26) dX12_keepNow_26 ?_
    refine aw_aload_n (pc := 27) 0 dX12_keepNow_27 rfl ?_
    obtain ⟨v2, e, h⟩ := op_bd h
    refine ow_gR (pc := 28) e dX12_keepNow_28 fd_X12_105 rfl ?_
    refine aw_iload_n (pc := 31) 1 dX12_keepNow_31 rfl ?_
    obtain ⟨v3, e, h⟩ := op_bd h
    refine ow_aI (pc := 32) e dX12_keepNow_32 ?_
    obtain ⟨σ4, e, h⟩ := op_bd h
    refine ow_sI (pc := 33) e dX12_keepNow_33 ?_
    refine aw_aload_n (pc := 34) 0 dX12_keepNow_34 rfl ?_
    obtain ⟨v5, e, h⟩ := op_bd h
    refine ow_gR (pc := 35) e dX12_keepNow_35 fd_X12_108 rfl ?_
    refine aw_iload_n (pc := 38) 1 dX12_keepNow_38 rfl ?_
    refine aw_bipush (pc := 39) (v := (7 : Int32)) dX12_keepNow_39 (by decide) ?_
    refine aw_isub (pc := 41) dX12_keepNow_41 ?_
    refine aw_aload_n (pc := 42) 0 dX12_keepNow_42 rfl ?_
    obtain ⟨v6, e, h⟩ := op_bd h
    refine ow_gR (pc := 43) e dX12_keepNow_43 fd_X12_108 rfl ?_
    refine aw_iload_n (pc := 46) 1 dX12_keepNow_46 rfl ?_
    obtain ⟨v7, e, h⟩ := op_bd h
    refine ow_aI (pc := 47) e dX12_keepNow_47 ?_
    obtain ⟨σ8, e, h⟩ := op_bd h
    refine ow_sI (pc := 48) e dX12_keepNow_48 ?_
    refine aw_aload_n (pc := 49) 0 dX12_keepNow_49 rfl ?_
    obtain ⟨v9, e, h⟩ := op_bd h
    refine ow_gR (pc := 50) e dX12_keepNow_50 fd_X12_111 rfl ?_
    refine aw_iload_n (pc := 53) 1 dX12_keepNow_53 rfl ?_
    refine aw_bipush (pc := 54) (v := (7 : Int32)) dX12_keepNow_54 (by decide) ?_
    refine aw_isub (pc := 56) dX12_keepNow_56 ?_
    refine aw_aload_n (pc := 57) 0 dX12_keepNow_57 rfl ?_
    obtain ⟨v10, e, h⟩ := op_bd h
    refine ow_gR (pc := 58) e dX12_keepNow_58 fd_X12_111 rfl ?_
    refine aw_iload_n (pc := 61) 1 dX12_keepNow_61 rfl ?_
    obtain ⟨v11, e, h⟩ := op_bd h
    refine ow_aI (pc := 62) e dX12_keepNow_62 ?_
    obtain ⟨σ12, e, h⟩ := op_bd h
    refine ow_sI (pc := 63) e dX12_keepNow_63 ?_
    refine aw_aload_n (pc := 64) 0 dX12_keepNow_64 rfl ?_
    obtain ⟨v13, e, h⟩ := op_bd h
    refine ow_gR (pc := 65) e dX12_keepNow_65 fd_X12_114 rfl ?_
    refine aw_iload_n (pc := 68) 1 dX12_keepNow_68 rfl ?_
    refine aw_bipush (pc := 69) (v := (7 : Int32)) dX12_keepNow_69 (by decide) ?_
    refine aw_isub (pc := 71) dX12_keepNow_71 ?_
    refine aw_aload_n (pc := 72) 0 dX12_keepNow_72 rfl ?_
    obtain ⟨v14, e, h⟩ := op_bd h
    refine ow_gR (pc := 73) e dX12_keepNow_73 fd_X12_114 rfl ?_
    refine aw_iload_n (pc := 76) 1 dX12_keepNow_76 rfl ?_
    obtain ⟨v15, e, h⟩ := op_bd h
    refine ow_aI (pc := 77) e dX12_keepNow_77 ?_
    obtain ⟨σ16, e, h⟩ := op_bd h
    refine ow_sI (pc := 78) e dX12_keepNow_78 ?_
    refine aw_iinc (pc := 79) 1 [(1, .int (x1 + (1 : Int32))), (0, .ref x0)] (x1 + (1 : Int32)) dX12_keepNow_79 rfl rfl (by decide) rfl ?_
    refine aw_goto (pc := 82) 12 dX12_keepNow_82 (by decide) ?_
    refine aw_sub [1, 0] rfl ?_
    exact hK12 _ _ _ _ h
theorem c_X12_keepNow_12 {G : ah_G}   : ∀ (n : Nat) (x0 : Nat) (x1 : Int32) (σ : ah_H) (r : ah_H), f_X12_keepNow_12   n x0 x1 σ = some r → AW G m_X12_keepNow 0 0 0 12 [(0, .ref x0), (1, .int x1)] [] σ (ah_N G (ah_rv r)) := by
  intro n
  induction n with
  | zero => intro x0 x1 σ r h; cases h
  | succ n ih => intro x0 x1 σ r h; exact c_X12_keepNow_12_b   _ ih x0 x1 σ r h
set_option maxRecDepth 100000 in
set_option maxHeartbeats 4000000 in
theorem c_X12_keepNow_0 {G : ah_G}   : ∀ (x0 : Nat) (σ : ah_H) (r : ah_H), f_X12_keepNow_0   x0 σ = some r → AW G m_X12_keepNow 0 0 0 0 [(0, .ref x0)] [] σ (ah_N G (ah_rv r)) := by
  intro x0 σ r h
  unfold f_X12_keepNow_0 at h
  refine aw_aload_n (pc := 0) 0 dX12_keepNow_0 rfl ?_
  obtain ⟨v1, e, h⟩ := op_bd h
  refine ow_gI (pc := 1) e dX12_keepNow_1 fd_X12_320 rfl ?_
  refine aw_bipush (pc := 4) (v := (20 : Int32)) dX12_keepNow_4 (by decide) ?_
  refine aw_icmp_ne (pc := 6) 95 dX12_keepNow_6 (by decide) (fun z => ?_) (fun z => ?_)
  · replace h := (if_neg z).symm.trans h
    exact c_X12_keepNow_95  _ _ _ h
  · replace h := (if_pos z).symm.trans h
    refine aw_bipush (pc := 9) (v := (7 : Int32)) dX12_keepNow_9 (by decide) ?_
    refine aw_istore_n (pc := 11) [(1, .int (7 : Int32)), (0, .ref x0)] dX12_keepNow_11 rfl (by decide) rfl ?_
    refine aw_sub [1, 0] rfl ?_
    exact c_X12_keepNow_12  _ _ _ _ _ h
theorem c_X12_keepNow {G : ah_G}   (x0 : Nat) (σ : ah_H) (r : ah_H) (h : f_X12_keepNow  x0 σ = some r) : AM G m_X12_keepNow 0 0 0 [.ref x0] σ (ah_rv r) := aw_enter (by decide) (Nat.le_of_ble_eq_true rfl) (c_X12_keepNow_0 _ _ _ (op_ck_k h))
def f_X12_isDeep_0   (x0 : Int32) (σ : ah_H) : Option (Int32 × ah_H) :=
  if x0 < 0 then ((op_rz (0 : Int32)).map fun q => (q, σ)) else (if (12 : Int32) < x0 then ((op_rz (0 : Int32)).map fun q => (q, σ)) else ((op_rz (1 : Int32)).map fun q => (q, σ)))
def f_X12_isDeep  (x0 : Int32) (σ : ah_H) : Option (Int32 × ah_H) := f_X12_isDeep_0 x0 σ
set_option maxRecDepth 100000 in
set_option maxHeartbeats 4000000 in
theorem c_X12_isDeep_0 {G : ah_G}   : ∀ (x0 : Int32) (σ : ah_H) (r : Int32 × ah_H), f_X12_isDeep_0   x0 σ = some r → AW G m_X12_isDeep 0 0 0 0 [(0, .int x0)] [] σ (ah_N G (ah_ri r)) := by
  intro x0 σ r h
  unfold f_X12_isDeep_0 at h
  refine aw_iload_n (pc := 0) 0 dX12_isDeep_0 rfl ?_
  refine aw_if_lt (pc := 1) 14 dX12_isDeep_1 (by decide) (fun z => ?_) (fun z => ?_)
  · replace h := (if_pos z).symm.trans h
    refine aw_iconst (pc := 14) (v := (0 : Int32)) dX12_isDeep_14 (by decide) ?_
    exact ow_zret (pc := 15) h dX12_isDeep_15 rfl
  · replace h := (if_neg z).symm.trans h
    refine aw_iload_n (pc := 4) 0 dX12_isDeep_4 rfl ?_
    refine aw_bipush (pc := 5) (v := (12 : Int32)) dX12_isDeep_5 (by decide) ?_
    refine aw_icmp_gt (pc := 7) 14 dX12_isDeep_7 (by decide) (fun z => ?_) (fun z => ?_)
    · replace h := (if_pos z).symm.trans h
      refine aw_iconst (pc := 14) (v := (0 : Int32)) dX12_isDeep_14 (by decide) ?_
      exact ow_zret (pc := 15) h dX12_isDeep_15 rfl
    · replace h := (if_neg z).symm.trans h
      refine aw_iconst (pc := 10) (v := (1 : Int32)) dX12_isDeep_10 (by decide) ?_
      refine aw_goto (pc := 11) 15 dX12_isDeep_11 (by decide) ?_
      exact ow_zret (pc := 15) h dX12_isDeep_15 rfl
theorem c_X12_isDeep {G : ah_G}   (x0 : Int32) (σ : ah_H) (r : Int32 × ah_H) (h : f_X12_isDeep  x0 σ = some r) : AM G m_X12_isDeep 0 0 0 [.int x0] σ (ah_ri r) := aw_enter (by decide) (Nat.le_of_ble_eq_true rfl) (c_X12_isDeep_0 _ _ _ h)
def f_X12_touches_0   (x0 : Nat) (x1 : Int32) (x2 : Int32) (σ : ah_H) : Option (Int32 × ah_H) :=
  (op_gR 12 8 σ x0).bind fun v1 => (op_aI σ v1 x1).bind fun v2 => if v2 = x2 then ((op_rz (1 : Int32)).map fun q => (q, σ)) else ((op_gR 12 9 σ x0).bind fun v3 => (op_aI σ v3 x1).bind fun v4 => if v4 = x2 then ((op_rz (1 : Int32)).map fun q => (q, σ)) else ((op_rz (0 : Int32)).map fun q => (q, σ)))
def f_X12_touches  (x0 : Nat) (x1 : Int32) (x2 : Int32) (σ : ah_H) : Option (Int32 × ah_H) := op_ck 12 σ x0 (f_X12_touches_0 x0 x1 x2 σ)
set_option maxRecDepth 100000 in
set_option maxHeartbeats 4000000 in
theorem c_X12_touches_0 {G : ah_G}   : ∀ (x0 : Nat) (x1 : Int32) (x2 : Int32) (σ : ah_H) (r : Int32 × ah_H), f_X12_touches_0   x0 x1 x2 σ = some r → AW G m_X12_touches 0 0 0 0 [(0, .ref x0), (1, .int x1), (2, .int x2)] [] σ (ah_N G (ah_ri r)) := by
  intro x0 x1 x2 σ r h
  unfold f_X12_touches_0 at h
  refine aw_aload_n (pc := 0) 0 dX12_touches_0 rfl ?_
  obtain ⟨v1, e, h⟩ := op_bd h
  refine ow_gR (pc := 1) e dX12_touches_1 fd_X12_30 rfl ?_
  refine aw_iload_n (pc := 4) 1 dX12_touches_4 rfl ?_
  obtain ⟨v2, e, h⟩ := op_bd h
  refine ow_aI (pc := 5) e dX12_touches_5 ?_
  refine aw_iload_n (pc := 6) 2 dX12_touches_6 rfl ?_
  refine aw_icmp_eq (pc := 7) 20 dX12_touches_7 (by decide) (fun z => ?_) (fun z => ?_)
  · replace h := (if_pos z).symm.trans h
    refine aw_iconst (pc := 20) (v := (1 : Int32)) dX12_touches_20 (by decide) ?_
    refine aw_goto (pc := 21) 25 dX12_touches_21 (by decide) ?_
    exact ow_zret (pc := 25) h dX12_touches_25 rfl
  · replace h := (if_neg z).symm.trans h
    refine aw_aload_n (pc := 10) 0 dX12_touches_10 rfl ?_
    obtain ⟨v3, e, h⟩ := op_bd h
    refine ow_gR (pc := 11) e dX12_touches_11 fd_X12_33 rfl ?_
    refine aw_iload_n (pc := 14) 1 dX12_touches_14 rfl ?_
    obtain ⟨v4, e, h⟩ := op_bd h
    refine ow_aI (pc := 15) e dX12_touches_15 ?_
    refine aw_iload_n (pc := 16) 2 dX12_touches_16 rfl ?_
    refine aw_icmp_ne (pc := 17) 24 dX12_touches_17 (by decide) (fun z => ?_) (fun z => ?_)
    · replace h := (if_neg z).symm.trans h
      refine aw_iconst (pc := 24) (v := (0 : Int32)) dX12_touches_24 (by decide) ?_
      exact ow_zret (pc := 25) h dX12_touches_25 rfl
    · replace h := (if_pos z).symm.trans h
      refine aw_iconst (pc := 20) (v := (1 : Int32)) dX12_touches_20 (by decide) ?_
      refine aw_goto (pc := 21) 25 dX12_touches_21 (by decide) ?_
      exact ow_zret (pc := 25) h dX12_touches_25 rfl
theorem c_X12_touches {G : ah_G}   (x0 : Nat) (x1 : Int32) (x2 : Int32) (σ : ah_H) (r : Int32 × ah_H) (h : f_X12_touches  x0 x1 x2 σ = some r) : AM G m_X12_touches 0 0 0 [.ref x0, .int x1, .int x2] σ (ah_ri r) := aw_enter (by decide) (Nat.le_of_ble_eq_true rfl) (c_X12_touches_0 _ _ _ _ _ (op_ck_k h))
def f_X12_lay_0   (x0 : Nat) (x1 : Int32) (x2 : Int32) (x3 : Int32) (x4 : Int32) (x5 : Int32) (σ : ah_H) : Option (Int32 × ah_H) :=
  (op_pI 12 0 σ x0 (0 : Int32)).bind fun σ1 => (f_X12_isCorner x0 x1 σ1).bind fun r2 => if r2.1 = 0 then ((op_rz (0 : Int32)).map fun q => (q, r2.2)) else ((op_gR 12 3 r2.2 x0).bind fun v3 => (op_aI r2.2 v3 (4 : Int32)).bind fun v4 => if x1 = v4 then ((op_rz (0 : Int32)).map fun q => (q, r2.2)) else ((f_X12_isStreet x0 x2 r2.2).bind fun r5 => if r5.1 = 0 then ((op_rz (0 : Int32)).map fun q => (q, r5.2)) else ((f_X12_touches x0 x2 x1 r5.2).bind fun r6 => if r6.1 = 0 then ((op_rz (0 : Int32)).map fun q => (q, r6.2)) else (if x3 < 0 then ((op_rz (0 : Int32)).map fun q => (q, r6.2)) else ((op_gR 12 3 r6.2 x0).bind fun v7 => (op_aI r6.2 v7 (2 : Int32)).bind fun v8 => if v8 ≤ x3 then ((op_rz (0 : Int32)).map fun q => (q, r6.2)) else ((f_X12_isDeep x4 r6.2).bind fun r9 => if r9.1 = 0 then ((op_rz (0 : Int32)).map fun q => (q, r9.2)) else ((f_X12_isDeep x5 r9.2).bind fun r10 => if r10.1 = 0 then ((op_rz (0 : Int32)).map fun q => (q, r10.2)) else ((f_X12_keepNow x0 r10.2).bind fun r11 => (op_gR 12 38 r11 x0).bind fun v12 => (op_sI r11 v12 x1 x2).bind fun σ13 => (op_gR 12 39 σ13 x0).bind fun v14 => (op_sI σ13 v14 x1 x3).bind fun σ15 => (op_gR 12 40 σ15 x0).bind fun v16 => (op_sI σ15 v16 x1 x4).bind fun σ17 => (op_gR 12 41 σ17 x0).bind fun v18 => (op_sI σ17 v18 x1 x5).bind fun σ19 => (op_rz (1 : Int32)).map fun q => (q, σ19)))))))))
def f_X12_lay  (x0 : Nat) (x1 : Int32) (x2 : Int32) (x3 : Int32) (x4 : Int32) (x5 : Int32) (σ : ah_H) : Option (Int32 × ah_H) := op_ck 12 σ x0 (f_X12_lay_0 x0 x1 x2 x3 x4 x5 σ)
set_option maxRecDepth 100000 in
set_option maxHeartbeats 4000000 in
theorem c_X12_lay_0 {G : ah_G}   : ∀ (x0 : Nat) (x1 : Int32) (x2 : Int32) (x3 : Int32) (x4 : Int32) (x5 : Int32) (σ : ah_H) (r : Int32 × ah_H), f_X12_lay_0   x0 x1 x2 x3 x4 x5 σ = some r → AW G m_X12_lay 1 0 0 0 [(0, .ref x0), (1, .int x1), (2, .int x2), (3, .int x3), (4, .int x4), (5, .int x5)] [] σ (ah_N G (ah_ri r)) := by
  intro x0 x1 x2 x3 x4 x5 σ r h
  unfold f_X12_lay_0 at h
  refine aw_aload_n (pc := 0) 0 dX12_lay_0 rfl ?_
  refine aw_iconst (pc := 1) (v := (0 : Int32)) dX12_lay_1 (by decide) ?_
  obtain ⟨σ1, e, h⟩ := op_bd h
  refine ow_pI (pc := 2) e dX12_lay_2 fd_X12_153 ?_
  refine aw_aload_n (pc := 5) 0 dX12_lay_5 rfl ?_
  refine aw_iload_n (pc := 6) 1 dX12_lay_6 rfl ?_
  obtain ⟨r2, e, h⟩ := op_bd h
  refine ow_cVi (pc := 7) [.int x1] ((c_X12_isCorner _ _ _ _ e).mono (by decide)) (op_ck_sh e) rfl dX12_lay_7 cw_X12_327 rfl (Nat.le_of_ble_eq_true rfl) ?_
  refine aw_if_eq (pc := 10) 70 dX12_lay_10 (by decide) (fun z => ?_) (fun z => ?_)
  · replace h := (if_pos z).symm.trans h
    refine aw_iconst (pc := 70) (v := (0 : Int32)) dX12_lay_70 (by decide) ?_
    exact ow_zret (pc := 71) h dX12_lay_71 rfl
  · replace h := (if_neg z).symm.trans h
    refine aw_iload_n (pc := 13) 1 dX12_lay_13 rfl ?_
    refine aw_aload_n (pc := 14) 0 dX12_lay_14 rfl ?_
    obtain ⟨v3, e, h⟩ := op_bd h
    refine ow_gR (pc := 15) e dX12_lay_15 fd_X12_15 rfl ?_
    refine aw_iconst (pc := 18) (v := (4 : Int32)) dX12_lay_18 (by decide) ?_
    obtain ⟨v4, e, h⟩ := op_bd h
    refine ow_aI (pc := 19) e dX12_lay_19 ?_
    refine aw_icmp_eq (pc := 20) 70 dX12_lay_20 (by decide) (fun z => ?_) (fun z => ?_)
    · replace h := (if_pos z).symm.trans h
      refine aw_iconst (pc := 70) (v := (0 : Int32)) dX12_lay_70 (by decide) ?_
      exact ow_zret (pc := 71) h dX12_lay_71 rfl
    · replace h := (if_neg z).symm.trans h
      refine aw_aload_n (pc := 23) 0 dX12_lay_23 rfl ?_
      refine aw_iload_n (pc := 24) 2 dX12_lay_24 rfl ?_
      obtain ⟨r5, e, h⟩ := op_bd h
      refine ow_cVi (pc := 25) [.int x2] ((c_X12_isStreet _ _ _ _ e).mono (by decide)) (op_ck_sh e) rfl dX12_lay_25 cw_X12_330 rfl (Nat.le_of_ble_eq_true rfl) ?_
      refine aw_if_eq (pc := 28) 70 dX12_lay_28 (by decide) (fun z => ?_) (fun z => ?_)
      · replace h := (if_pos z).symm.trans h
        refine aw_iconst (pc := 70) (v := (0 : Int32)) dX12_lay_70 (by decide) ?_
        exact ow_zret (pc := 71) h dX12_lay_71 rfl
      · replace h := (if_neg z).symm.trans h
        refine aw_aload_n (pc := 31) 0 dX12_lay_31 rfl ?_
        refine aw_iload_n (pc := 32) 2 dX12_lay_32 rfl ?_
        refine aw_iload_n (pc := 33) 1 dX12_lay_33 rfl ?_
        obtain ⟨r6, e, h⟩ := op_bd h
        refine ow_cVi (pc := 34) [.int x2, .int x1] ((c_X12_touches _ _ _ _ _ e).mono (by decide)) (op_ck_sh e) rfl dX12_lay_34 cw_X12_440 rfl (Nat.le_of_ble_eq_true rfl) ?_
        refine aw_if_eq (pc := 37) 70 dX12_lay_37 (by decide) (fun z => ?_) (fun z => ?_)
        · replace h := (if_pos z).symm.trans h
          refine aw_iconst (pc := 70) (v := (0 : Int32)) dX12_lay_70 (by decide) ?_
          exact ow_zret (pc := 71) h dX12_lay_71 rfl
        · replace h := (if_neg z).symm.trans h
          refine aw_iload_n (pc := 40) 3 dX12_lay_40 rfl ?_
          refine aw_if_lt (pc := 41) 70 dX12_lay_41 (by decide) (fun z => ?_) (fun z => ?_)
          · replace h := (if_pos z).symm.trans h
            refine aw_iconst (pc := 70) (v := (0 : Int32)) dX12_lay_70 (by decide) ?_
            exact ow_zret (pc := 71) h dX12_lay_71 rfl
          · replace h := (if_neg z).symm.trans h
            refine aw_iload_n (pc := 44) 3 dX12_lay_44 rfl ?_
            refine aw_aload_n (pc := 45) 0 dX12_lay_45 rfl ?_
            obtain ⟨v7, e, h⟩ := op_bd h
            refine ow_gR (pc := 46) e dX12_lay_46 fd_X12_15 rfl ?_
            refine aw_iconst (pc := 49) (v := (2 : Int32)) dX12_lay_49 (by decide) ?_
            obtain ⟨v8, e, h⟩ := op_bd h
            refine ow_aI (pc := 50) e dX12_lay_50 ?_
            refine aw_icmp_ge (pc := 51) 70 dX12_lay_51 (by decide) (fun z => ?_) (fun z => ?_)
            · replace h := (if_pos z).symm.trans h
              refine aw_iconst (pc := 70) (v := (0 : Int32)) dX12_lay_70 (by decide) ?_
              exact ow_zret (pc := 71) h dX12_lay_71 rfl
            · replace h := (if_neg z).symm.trans h
              refine aw_iload (pc := 54) 4 dX12_lay_54 rfl ?_
              obtain ⟨r9, e, h⟩ := op_bd h
              refine ow_cSi (pc := 56) [.int x4] ((c_X12_isDeep _ _ _ e).mono (by decide)) rfl dX12_lay_56 cw_X12_443 rfl (Nat.le_of_ble_eq_true rfl) ?_
              refine aw_if_eq (pc := 59) 70 dX12_lay_59 (by decide) (fun z => ?_) (fun z => ?_)
              · replace h := (if_pos z).symm.trans h
                refine aw_iconst (pc := 70) (v := (0 : Int32)) dX12_lay_70 (by decide) ?_
                exact ow_zret (pc := 71) h dX12_lay_71 rfl
              · replace h := (if_neg z).symm.trans h
                refine aw_iload (pc := 62) 5 dX12_lay_62 rfl ?_
                obtain ⟨r10, e, h⟩ := op_bd h
                refine ow_cSi (pc := 64) [.int x5] ((c_X12_isDeep _ _ _ e).mono (by decide)) rfl dX12_lay_64 cw_X12_443 rfl (Nat.le_of_ble_eq_true rfl) ?_
                refine aw_if_ne (pc := 67) 72 dX12_lay_67 (by decide) (fun z => ?_) (fun z => ?_)
                · replace h := (if_neg z).symm.trans h
                  refine aw_aload_n (pc := 72) 0 dX12_lay_72 rfl ?_
                  obtain ⟨r11, e, h⟩ := op_bd h
                  refine ow_cVv (pc := 73) [] ((c_X12_keepNow _ _ _ e).mono (by decide)) (op_ck_sh e) rfl dX12_lay_73 cw_X12_446 rfl (Nat.le_of_ble_eq_true rfl) ?_
                  refine aw_aload_n (pc := 76) 0 dX12_lay_76 rfl ?_
                  obtain ⟨v12, e, h⟩ := op_bd h
                  refine ow_gR (pc := 77) e dX12_lay_77 fd_X12_83 rfl ?_
                  refine aw_iload_n (pc := 80) 1 dX12_lay_80 rfl ?_
                  refine aw_iload_n (pc := 81) 2 dX12_lay_81 rfl ?_
                  obtain ⟨σ13, e, h⟩ := op_bd h
                  refine ow_sI (pc := 82) e dX12_lay_82 ?_
                  refine aw_aload_n (pc := 83) 0 dX12_lay_83 rfl ?_
                  obtain ⟨v14, e, h⟩ := op_bd h
                  refine ow_gR (pc := 84) e dX12_lay_84 fd_X12_86 rfl ?_
                  refine aw_iload_n (pc := 87) 1 dX12_lay_87 rfl ?_
                  refine aw_iload_n (pc := 88) 3 dX12_lay_88 rfl ?_
                  obtain ⟨σ15, e, h⟩ := op_bd h
                  refine ow_sI (pc := 89) e dX12_lay_89 ?_
                  refine aw_aload_n (pc := 90) 0 dX12_lay_90 rfl ?_
                  obtain ⟨v16, e, h⟩ := op_bd h
                  refine ow_gR (pc := 91) e dX12_lay_91 fd_X12_89 rfl ?_
                  refine aw_iload_n (pc := 94) 1 dX12_lay_94 rfl ?_
                  refine aw_iload (pc := 95) 4 dX12_lay_95 rfl ?_
                  obtain ⟨σ17, e, h⟩ := op_bd h
                  refine ow_sI (pc := 97) e dX12_lay_97 ?_
                  refine aw_aload_n (pc := 98) 0 dX12_lay_98 rfl ?_
                  obtain ⟨v18, e, h⟩ := op_bd h
                  refine ow_gR (pc := 99) e dX12_lay_99 fd_X12_92 rfl ?_
                  refine aw_iload_n (pc := 102) 1 dX12_lay_102 rfl ?_
                  refine aw_iload (pc := 103) 5 dX12_lay_103 rfl ?_
                  obtain ⟨σ19, e, h⟩ := op_bd h
                  refine ow_sI (pc := 105) e dX12_lay_105 ?_
                  refine aw_iconst (pc := 106) (v := (1 : Int32)) dX12_lay_106 (by decide) ?_
                  exact ow_zret (pc := 107) h dX12_lay_107 rfl
                · replace h := (if_pos z).symm.trans h
                  refine aw_iconst (pc := 70) (v := (0 : Int32)) dX12_lay_70 (by decide) ?_
                  exact ow_zret (pc := 71) h dX12_lay_71 rfl
theorem c_X12_lay {G : ah_G}   (x0 : Nat) (x1 : Int32) (x2 : Int32) (x3 : Int32) (x4 : Int32) (x5 : Int32) (σ : ah_H) (r : Int32 × ah_H) (h : f_X12_lay  x0 x1 x2 x3 x4 x5 σ = some r) : AM G m_X12_lay 1 0 0 [.ref x0, .int x1, .int x2, .int x3, .int x4, .int x5] σ (ah_ri r) := aw_enter (by decide) (Nat.le_of_ble_eq_true rfl) (c_X12_lay_0 _ _ _ _ _ _ _ _ (op_ck_k h))
def f_X12_take_0   (x0 : Nat) (x1 : Int32) (σ : ah_H) : Option (Int32 × ah_H) :=
  (op_pI 12 0 σ x0 (0 : Int32)).bind fun σ1 => (op_pI 12 42 σ1 x0 (0 : Int32)).bind fun σ2 => (f_X12_isCorner x0 x1 σ2).bind fun r3 => if r3.1 = 0 then ((op_rz (0 : Int32)).map fun q => (q, r3.2)) else ((f_X12_isLaid x0 x1 r3.2).bind fun r4 => if r4.1 = 0 then ((op_rz (0 : Int32)).map fun q => (q, r4.2)) else ((f_X12_keepNow x0 r4.2).bind fun r5 => (op_gR 12 38 r5 x0).bind fun v6 => (op_sI r5 v6 x1 (-1 : Int32)).bind fun σ7 => (op_rz (1 : Int32)).map fun q => (q, σ7)))
def f_X12_take  (x0 : Nat) (x1 : Int32) (σ : ah_H) : Option (Int32 × ah_H) := op_ck 12 σ x0 (f_X12_take_0 x0 x1 σ)
set_option maxRecDepth 100000 in
set_option maxHeartbeats 4000000 in
theorem c_X12_take_0 {G : ah_G}   : ∀ (x0 : Nat) (x1 : Int32) (σ : ah_H) (r : Int32 × ah_H), f_X12_take_0   x0 x1 σ = some r → AW G m_X12_take 1 0 0 0 [(0, .ref x0), (1, .int x1)] [] σ (ah_N G (ah_ri r)) := by
  intro x0 x1 σ r h
  unfold f_X12_take_0 at h
  refine aw_aload_n (pc := 0) 0 dX12_take_0 rfl ?_
  refine aw_iconst (pc := 1) (v := (0 : Int32)) dX12_take_1 (by decide) ?_
  obtain ⟨σ1, e, h⟩ := op_bd h
  refine ow_pI (pc := 2) e dX12_take_2 fd_X12_153 ?_
  refine aw_aload_n (pc := 5) 0 dX12_take_5 rfl ?_
  refine aw_iconst (pc := 6) (v := (0 : Int32)) dX12_take_6 (by decide) ?_
  obtain ⟨σ2, e, h⟩ := op_bd h
  refine ow_pI (pc := 7) e dX12_take_7 fd_X12_371 ?_
  refine aw_aload_n (pc := 10) 0 dX12_take_10 rfl ?_
  refine aw_iload_n (pc := 11) 1 dX12_take_11 rfl ?_
  obtain ⟨r3, e, h⟩ := op_bd h
  refine ow_cVi (pc := 12) [.int x1] ((c_X12_isCorner _ _ _ _ e).mono (by decide)) (op_ck_sh e) rfl dX12_take_12 cw_X12_327 rfl (Nat.le_of_ble_eq_true rfl) ?_
  refine aw_if_eq (pc := 15) 26 dX12_take_15 (by decide) (fun z => ?_) (fun z => ?_)
  · replace h := (if_pos z).symm.trans h
    refine aw_iconst (pc := 26) (v := (0 : Int32)) dX12_take_26 (by decide) ?_
    exact ow_zret (pc := 27) h dX12_take_27 rfl
  · replace h := (if_neg z).symm.trans h
    refine aw_aload_n (pc := 18) 0 dX12_take_18 rfl ?_
    refine aw_iload_n (pc := 19) 1 dX12_take_19 rfl ?_
    obtain ⟨r4, e, h⟩ := op_bd h
    refine ow_cVi (pc := 20) [.int x1] ((c_X12_isLaid _ _ _ _ e).mono (by decide)) (op_ck_sh e) rfl dX12_take_20 cw_X12_380 rfl (Nat.le_of_ble_eq_true rfl) ?_
    refine aw_if_ne (pc := 23) 28 dX12_take_23 (by decide) (fun z => ?_) (fun z => ?_)
    · replace h := (if_neg z).symm.trans h
      refine aw_aload_n (pc := 28) 0 dX12_take_28 rfl ?_
      obtain ⟨r5, e, h⟩ := op_bd h
      refine ow_cVv (pc := 29) [] ((c_X12_keepNow _ _ _ e).mono (by decide)) (op_ck_sh e) rfl dX12_take_29 cw_X12_446 rfl (Nat.le_of_ble_eq_true rfl) ?_
      refine aw_aload_n (pc := 32) 0 dX12_take_32 rfl ?_
      obtain ⟨v6, e, h⟩ := op_bd h
      refine ow_gR (pc := 33) e dX12_take_33 fd_X12_83 rfl ?_
      refine aw_iload_n (pc := 36) 1 dX12_take_36 rfl ?_
      refine aw_iconst (pc := 37) (v := (-1 : Int32)) dX12_take_37 (by decide) ?_
      obtain ⟨σ7, e, h⟩ := op_bd h
      refine ow_sI (pc := 38) e dX12_take_38 ?_
      refine aw_iconst (pc := 39) (v := (1 : Int32)) dX12_take_39 (by decide) ?_
      exact ow_zret (pc := 40) h dX12_take_40 rfl
    · replace h := (if_pos z).symm.trans h
      refine aw_iconst (pc := 26) (v := (0 : Int32)) dX12_take_26 (by decide) ?_
      exact ow_zret (pc := 27) h dX12_take_27 rfl
theorem c_X12_take {G : ah_G}   (x0 : Nat) (x1 : Int32) (σ : ah_H) (r : Int32 × ah_H) (h : f_X12_take  x0 x1 σ = some r) : AM G m_X12_take 1 0 0 [.ref x0, .int x1] σ (ah_ri r) := aw_enter (by decide) (Nat.le_of_ble_eq_true rfl) (c_X12_take_0 _ _ _ _ (op_ck_k h))
def f_X12_net_0   (x0 : Nat) (x1 : Int32) (x2 : Int32) (σ : ah_H) : Option (Int32 × ah_H) :=
  (op_pI 12 0 σ x0 (0 : Int32)).bind fun σ1 => (op_pI 12 42 σ1 x0 (0 : Int32)).bind fun σ2 => (f_X12_isCorner x0 x1 σ2).bind fun r3 => if r3.1 = 0 then (some ((-1 : Int32), r3.2)) else (if x2 < 0 then (some ((-1 : Int32), r3.2)) else (if x2 ≤ (5 : Int32) then ((f_X12_isLaid x0 x1 r3.2).bind fun r4 => if r4.1 = 0 then (if x2 = (5 : Int32) then (some ((-2147483648 : Int32), r4.2)) else (some ((-2 : Int32), r4.2))) else (if x2 = (0 : Int32) then ((f_X12_streetOf x0 x1 r4.2).bind fun r5 => some (r5.1, r5.2)) else (if x2 = (1 : Int32) then ((f_X12_pipeOf x0 x1 r4.2).bind fun r6 => some (r6.1, r6.2)) else (if x2 = (2 : Int32) then ((f_X12_aOf x0 x1 r4.2).bind fun r7 => some (r7.1, r7.2)) else (if x2 = (3 : Int32) then ((f_X12_bOf x0 x1 r4.2).bind fun r8 => some (r8.1, r8.2)) else (if x2 = (4 : Int32) then ((f_X12_to x0 x1 r4.2).bind fun r9 => some (r9.1, r9.2)) else ((f_X12_fallOf x0 x1 r4.2).bind fun r10 => some (r10.1, r10.2)))))))) else (some ((-1 : Int32), r3.2))))
def f_X12_net  (x0 : Nat) (x1 : Int32) (x2 : Int32) (σ : ah_H) : Option (Int32 × ah_H) := op_ck 12 σ x0 (f_X12_net_0 x0 x1 x2 σ)
set_option maxRecDepth 100000 in
set_option maxHeartbeats 4000000 in
theorem c_X12_net_0 {G : ah_G}   : ∀ (x0 : Nat) (x1 : Int32) (x2 : Int32) (σ : ah_H) (r : Int32 × ah_H), f_X12_net_0   x0 x1 x2 σ = some r → AW G m_X12_net 3 0 0 0 [(0, .ref x0), (1, .int x1), (2, .int x2)] [] σ (ah_N G (ah_ri r)) := by
  intro x0 x1 x2 σ r h
  unfold f_X12_net_0 at h
  refine aw_aload_n (pc := 0) 0 dX12_net_0 rfl ?_
  refine aw_iconst (pc := 1) (v := (0 : Int32)) dX12_net_1 (by decide) ?_
  obtain ⟨σ1, e, h⟩ := op_bd h
  refine ow_pI (pc := 2) e dX12_net_2 fd_X12_153 ?_
  refine aw_aload_n (pc := 5) 0 dX12_net_5 rfl ?_
  refine aw_iconst (pc := 6) (v := (0 : Int32)) dX12_net_6 (by decide) ?_
  obtain ⟨σ2, e, h⟩ := op_bd h
  refine ow_pI (pc := 7) e dX12_net_7 fd_X12_371 ?_
  refine aw_aload_n (pc := 10) 0 dX12_net_10 rfl ?_
  refine aw_iload_n (pc := 11) 1 dX12_net_11 rfl ?_
  obtain ⟨r3, e, h⟩ := op_bd h
  refine ow_cVi (pc := 12) [.int x1] ((c_X12_isCorner _ _ _ _ e).mono (by decide)) (op_ck_sh e) rfl dX12_net_12 cw_X12_327 rfl (Nat.le_of_ble_eq_true rfl) ?_
  refine aw_if_eq (pc := 15) 27 dX12_net_15 (by decide) (fun z => ?_) (fun z => ?_)
  · replace h := (if_pos z).symm.trans h
    refine aw_iconst (pc := 27) (v := (-1 : Int32)) dX12_net_27 (by decide) ?_
    exact ow_iret (pc := 28) h dX12_net_28 rfl
  · replace h := (if_neg z).symm.trans h
    refine aw_iload_n (pc := 18) 2 dX12_net_18 rfl ?_
    refine aw_if_lt (pc := 19) 27 dX12_net_19 (by decide) (fun z => ?_) (fun z => ?_)
    · replace h := (if_pos z).symm.trans h
      refine aw_iconst (pc := 27) (v := (-1 : Int32)) dX12_net_27 (by decide) ?_
      exact ow_iret (pc := 28) h dX12_net_28 rfl
    · replace h := (if_neg z).symm.trans h
      refine aw_iload_n (pc := 22) 2 dX12_net_22 rfl ?_
      refine aw_iconst (pc := 23) (v := (5 : Int32)) dX12_net_23 (by decide) ?_
      refine aw_icmp_le (pc := 24) 29 dX12_net_24 (by decide) (fun z => ?_) (fun z => ?_)
      · replace h := (if_pos z).symm.trans h
        refine aw_aload_n (pc := 29) 0 dX12_net_29 rfl ?_
        refine aw_iload_n (pc := 30) 1 dX12_net_30 rfl ?_
        obtain ⟨r4, e, h⟩ := op_bd h
        refine ow_cVi (pc := 31) [.int x1] ((c_X12_isLaid _ _ _ _ e).mono (by decide)) (op_ck_sh e) rfl dX12_net_31 cw_X12_380 rfl (Nat.le_of_ble_eq_true rfl) ?_
        refine aw_if_ne (pc := 34) 51 dX12_net_34 (by decide) (fun z => ?_) (fun z => ?_)
        · replace h := (if_neg z).symm.trans h
          refine aw_iload_n (pc := 51) 2 dX12_net_51 rfl ?_
          by_cases z0 : x2 = (0 : Int32)
          · replace h := (if_pos z0).symm.trans h
            refine aw_tableIn (pc := 52) (off := 36) 88 dX12_net_52 (by rw [z0]; decide) (by rw [z0]; decide) (by rw [z0]; decide) (by decide) ?_
            refine aw_aload_n (pc := 88) 0 dX12_net_88 rfl ?_
            refine aw_iload_n (pc := 89) 1 dX12_net_89 rfl ?_
            obtain ⟨r5, e, h⟩ := op_bd h
            refine ow_cVi (pc := 90) [.int x1] ((c_X12_streetOf _ _ _ _ e).mono (by decide)) (op_ck_sh e) rfl dX12_net_90 cw_X12_374 rfl (Nat.le_of_ble_eq_true rfl) ?_
            exact ow_iret (pc := 93) h dX12_net_93 rfl
          · replace h := (if_neg z0).symm.trans h
            by_cases z1 : x2 = (1 : Int32)
            · replace h := (if_pos z1).symm.trans h
              refine aw_tableIn (pc := 52) (off := 42) 94 dX12_net_52 (by rw [z1]; decide) (by rw [z1]; decide) (by rw [z1]; decide) (by decide) ?_
              refine aw_aload_n (pc := 94) 0 dX12_net_94 rfl ?_
              refine aw_iload_n (pc := 95) 1 dX12_net_95 rfl ?_
              obtain ⟨r6, e, h⟩ := op_bd h
              refine ow_cVi (pc := 96) [.int x1] ((c_X12_pipeOf _ _ _ _ e).mono (by decide)) (op_ck_sh e) rfl dX12_net_96 cw_X12_396 rfl (Nat.le_of_ble_eq_true rfl) ?_
              exact ow_iret (pc := 99) h dX12_net_99 rfl
            · replace h := (if_neg z1).symm.trans h
              by_cases z2 : x2 = (2 : Int32)
              · replace h := (if_pos z2).symm.trans h
                refine aw_tableIn (pc := 52) (off := 48) 100 dX12_net_52 (by rw [z2]; decide) (by rw [z2]; decide) (by rw [z2]; decide) (by decide) ?_
                refine aw_aload_n (pc := 100) 0 dX12_net_100 rfl ?_
                refine aw_iload_n (pc := 101) 1 dX12_net_101 rfl ?_
                obtain ⟨r7, e, h⟩ := op_bd h
                refine ow_cVi (pc := 102) [.int x1] ((c_X12_aOf _ _ _ _ e).mono (by decide)) (op_ck_sh e) rfl dX12_net_102 cw_X12_386 rfl (Nat.le_of_ble_eq_true rfl) ?_
                exact ow_iret (pc := 105) h dX12_net_105 rfl
              · replace h := (if_neg z2).symm.trans h
                by_cases z3 : x2 = (3 : Int32)
                · replace h := (if_pos z3).symm.trans h
                  refine aw_tableIn (pc := 52) (off := 54) 106 dX12_net_52 (by rw [z3]; decide) (by rw [z3]; decide) (by rw [z3]; decide) (by decide) ?_
                  refine aw_aload_n (pc := 106) 0 dX12_net_106 rfl ?_
                  refine aw_iload_n (pc := 107) 1 dX12_net_107 rfl ?_
                  obtain ⟨r8, e, h⟩ := op_bd h
                  refine ow_cVi (pc := 108) [.int x1] ((c_X12_bOf _ _ _ _ e).mono (by decide)) (op_ck_sh e) rfl dX12_net_108 cw_X12_389 rfl (Nat.le_of_ble_eq_true rfl) ?_
                  exact ow_iret (pc := 111) h dX12_net_111 rfl
                · replace h := (if_neg z3).symm.trans h
                  by_cases z4 : x2 = (4 : Int32)
                  · replace h := (if_pos z4).symm.trans h
                    refine aw_tableIn (pc := 52) (off := 60) 112 dX12_net_52 (by rw [z4]; decide) (by rw [z4]; decide) (by rw [z4]; decide) (by decide) ?_
                    refine aw_aload_n (pc := 112) 0 dX12_net_112 rfl ?_
                    refine aw_iload_n (pc := 113) 1 dX12_net_113 rfl ?_
                    obtain ⟨r9, e, h⟩ := op_bd h
                    refine ow_cVi (pc := 114) [.int x1] ((c_X12_to _ _ _ _ e).mono (by decide)) (op_ck_sh e) rfl dX12_net_114 cw_X12_383 rfl (Nat.le_of_ble_eq_true rfl) ?_
                    exact ow_iret (pc := 117) h dX12_net_117 rfl
                  · replace h := (if_neg z4).symm.trans h
                    have wz0 : ¬ (x2).toInt = 0 := fun q => z0 (Int32.toInt_inj.mp q)
                    have wz1 : ¬ (x2).toInt = 1 := fun q => z1 (Int32.toInt_inj.mp q)
                    have wz2 : ¬ (x2).toInt = 2 := fun q => z2 (Int32.toInt_inj.mp q)
                    have wz3 : ¬ (x2).toInt = 3 := fun q => z3 (Int32.toInt_inj.mp q)
                    have wz4 : ¬ (x2).toInt = 4 := fun q => z4 (Int32.toInt_inj.mp q)
                    refine aw_tableOut (pc := 52) 118 dX12_net_52 (by omega) (by decide) ?_
                    refine aw_aload_n (pc := 118) 0 dX12_net_118 rfl ?_
                    refine aw_iload_n (pc := 119) 1 dX12_net_119 rfl ?_
                    obtain ⟨r10, e, h⟩ := op_bd h
                    refine ow_cVi (pc := 120) [.int x1] ((c_X12_fallOf _ _ _ _ e).mono (by decide)) (op_ck_sh e) rfl dX12_net_120 cw_X12_399 rfl (Nat.le_of_ble_eq_true rfl) ?_
                    exact ow_iret (pc := 123) h dX12_net_123 rfl
        · replace h := (if_pos z).symm.trans h
          refine aw_iload_n (pc := 37) 2 dX12_net_37 rfl ?_
          refine aw_iconst (pc := 38) (v := (5 : Int32)) dX12_net_38 (by decide) ?_
          refine aw_icmp_ne (pc := 39) 48 dX12_net_39 (by decide) (fun z => ?_) (fun z => ?_)
          · replace h := (if_neg z).symm.trans h
            refine aw_bipush (pc := 48) (v := (-2 : Int32)) dX12_net_48 (by decide) ?_
            exact ow_iret (pc := 50) h dX12_net_50 rfl
          · replace h := (if_pos z).symm.trans h
            refine aw_ldcw (pc := 42) dX12_net_42 kc_X12_449 ?_
            refine aw_goto (pc := 45) 50 dX12_net_45 (by decide) ?_
            exact ow_iret (pc := 50) h dX12_net_50 rfl
      · replace h := (if_neg z).symm.trans h
        refine aw_iconst (pc := 27) (v := (-1 : Int32)) dX12_net_27 (by decide) ?_
        exact ow_iret (pc := 28) h dX12_net_28 rfl
theorem c_X12_net {G : ah_G}   (x0 : Nat) (x1 : Int32) (x2 : Int32) (σ : ah_H) (r : Int32 × ah_H) (h : f_X12_net  x0 x1 x2 σ = some r) : AM G m_X12_net 3 0 0 [.ref x0, .int x1, .int x2] σ (ah_ri r) := aw_enter (by decide) (Nat.le_of_ble_eq_true rfl) (c_X12_net_0 _ _ _ _ _ (op_ck_k h))
def f_X12_isThere_0   (x0 : Nat) (x1 : Int32) (σ : ah_H) : Option (Int32 × ah_H) :=
  (op_pI 12 42 σ x0 (0 : Int32)).bind fun σ1 => (f_X12_isCorner x0 x1 σ1).bind fun r2 => if r2.1 = 0 then ((op_rz (0 : Int32)).map fun q => (q, r2.2)) else ((f_X12_isLaid x0 x1 r2.2).bind fun r3 => if r3.1 = 0 then ((op_rz (0 : Int32)).map fun q => (q, r3.2)) else ((op_rz (1 : Int32)).map fun q => (q, r3.2)))
def f_X12_isThere  (x0 : Nat) (x1 : Int32) (σ : ah_H) : Option (Int32 × ah_H) := op_ck 12 σ x0 (f_X12_isThere_0 x0 x1 σ)
set_option maxRecDepth 100000 in
set_option maxHeartbeats 4000000 in
theorem c_X12_isThere_0 {G : ah_G}   : ∀ (x0 : Nat) (x1 : Int32) (σ : ah_H) (r : Int32 × ah_H), f_X12_isThere_0   x0 x1 σ = some r → AW G m_X12_isThere 1 0 0 0 [(0, .ref x0), (1, .int x1)] [] σ (ah_N G (ah_ri r)) := by
  intro x0 x1 σ r h
  unfold f_X12_isThere_0 at h
  refine aw_aload_n (pc := 0) 0 dX12_isThere_0 rfl ?_
  refine aw_iconst (pc := 1) (v := (0 : Int32)) dX12_isThere_1 (by decide) ?_
  obtain ⟨σ1, e, h⟩ := op_bd h
  refine ow_pI (pc := 2) e dX12_isThere_2 fd_X12_371 ?_
  refine aw_aload_n (pc := 5) 0 dX12_isThere_5 rfl ?_
  refine aw_iload_n (pc := 6) 1 dX12_isThere_6 rfl ?_
  obtain ⟨r2, e, h⟩ := op_bd h
  refine ow_cVi (pc := 7) [.int x1] ((c_X12_isCorner _ _ _ _ e).mono (by decide)) (op_ck_sh e) rfl dX12_isThere_7 cw_X12_327 rfl (Nat.le_of_ble_eq_true rfl) ?_
  refine aw_if_eq (pc := 10) 25 dX12_isThere_10 (by decide) (fun z => ?_) (fun z => ?_)
  · replace h := (if_pos z).symm.trans h
    refine aw_iconst (pc := 25) (v := (0 : Int32)) dX12_isThere_25 (by decide) ?_
    exact ow_zret (pc := 26) h dX12_isThere_26 rfl
  · replace h := (if_neg z).symm.trans h
    refine aw_aload_n (pc := 13) 0 dX12_isThere_13 rfl ?_
    refine aw_iload_n (pc := 14) 1 dX12_isThere_14 rfl ?_
    obtain ⟨r3, e, h⟩ := op_bd h
    refine ow_cVi (pc := 15) [.int x1] ((c_X12_isLaid _ _ _ _ e).mono (by decide)) (op_ck_sh e) rfl dX12_isThere_15 cw_X12_380 rfl (Nat.le_of_ble_eq_true rfl) ?_
    refine aw_if_eq (pc := 18) 25 dX12_isThere_18 (by decide) (fun z => ?_) (fun z => ?_)
    · replace h := (if_pos z).symm.trans h
      refine aw_iconst (pc := 25) (v := (0 : Int32)) dX12_isThere_25 (by decide) ?_
      exact ow_zret (pc := 26) h dX12_isThere_26 rfl
    · replace h := (if_neg z).symm.trans h
      refine aw_iconst (pc := 21) (v := (1 : Int32)) dX12_isThere_21 (by decide) ?_
      refine aw_goto (pc := 22) 26 dX12_isThere_22 (by decide) ?_
      exact ow_zret (pc := 26) h dX12_isThere_26 rfl
theorem c_X12_isThere {G : ah_G}   (x0 : Nat) (x1 : Int32) (σ : ah_H) (r : Int32 × ah_H) (h : f_X12_isThere  x0 x1 σ = some r) : AM G m_X12_isThere 1 0 0 [.ref x0, .int x1] σ (ah_ri r) := aw_enter (by decide) (Nat.le_of_ble_eq_true rfl) (c_X12_isThere_0 _ _ _ _ (op_ck_k h))
def f_X12_carries_0   (x0 : Nat) (x1 : Int32) (σ : ah_H) : Option (Int64 × ah_H) :=
  (op_pI 12 0 σ x0 (0 : Int32)).bind fun σ1 => (f_X12_isThere x0 x1 σ1).bind fun r2 => if r2.1 = 0 then (some ((-1 : Int64), r2.2)) else ((f_X12_carriesOf x0 x1 r2.2).bind fun r3 => some (r3.1, r3.2))
def f_X12_carries  (x0 : Nat) (x1 : Int32) (σ : ah_H) : Option (Int64 × ah_H) := op_ck 12 σ x0 (f_X12_carries_0 x0 x1 σ)
set_option maxRecDepth 100000 in
set_option maxHeartbeats 4000000 in
theorem c_X12_carries_0 {G : ah_G}   : ∀ (x0 : Nat) (x1 : Int32) (σ : ah_H) (r : Int64 × ah_H), f_X12_carries_0   x0 x1 σ = some r → AW G m_X12_carries 5 0 0 0 [(0, .ref x0), (1, .int x1)] [] σ (ah_N G (ah_rl r)) := by
  intro x0 x1 σ r h
  unfold f_X12_carries_0 at h
  refine aw_aload_n (pc := 0) 0 dX12_carries_0 rfl ?_
  refine aw_iconst (pc := 1) (v := (0 : Int32)) dX12_carries_1 (by decide) ?_
  obtain ⟨σ1, e, h⟩ := op_bd h
  refine ow_pI (pc := 2) e dX12_carries_2 fd_X12_153 ?_
  refine aw_aload_n (pc := 5) 0 dX12_carries_5 rfl ?_
  refine aw_iload_n (pc := 6) 1 dX12_carries_6 rfl ?_
  obtain ⟨r2, e, h⟩ := op_bd h
  refine ow_cVi (pc := 7) [.int x1] ((c_X12_isThere _ _ _ _ e).mono (by decide)) (op_ck_sh e) rfl dX12_carries_7 cw_X12_450 rfl (Nat.le_of_ble_eq_true rfl) ?_
  refine aw_if_eq (pc := 10) 21 dX12_carries_10 (by decide) (fun z => ?_) (fun z => ?_)
  · replace h := (if_pos z).symm.trans h
    refine aw_ldc2 (pc := 21) dX12_carries_21 kl_X12_432 ?_
    exact ow_lret (pc := 24) h dX12_carries_24 rfl
  · replace h := (if_neg z).symm.trans h
    refine aw_aload_n (pc := 13) 0 dX12_carries_13 rfl ?_
    refine aw_iload_n (pc := 14) 1 dX12_carries_14 rfl ?_
    obtain ⟨r3, e, h⟩ := op_bd h
    refine ow_cVl (pc := 15) [.int x1] ((c_X12_carriesOf _ _ _ _ e).mono (by decide)) (op_ck_sh e) rfl dX12_carries_15 cw_X12_419 rfl (Nat.le_of_ble_eq_true rfl) ?_
    refine aw_goto (pc := 18) 24 dX12_carries_18 (by decide) ?_
    exact ow_lret (pc := 24) h dX12_carries_24 rfl
theorem c_X12_carries {G : ah_G}   (x0 : Nat) (x1 : Int32) (σ : ah_H) (r : Int64 × ah_H) (h : f_X12_carries  x0 x1 σ = some r) : AM G m_X12_carries 5 0 0 [.ref x0, .int x1] σ (ah_rl r) := aw_enter (by decide) (Nat.le_of_ble_eq_true rfl) (c_X12_carries_0 _ _ _ _ (op_ck_k h))
def f_X12_liftOf_39  (K4 : Nat → Int32 → Int32 → Int32 → ah_H → Option (Int32 × ah_H)) (x0 : Nat) (x1 : Int32) (x2 : Int32) (x3 : Int32) (σ : ah_H) : Option (Int32 × ah_H) :=
  K4 x0 x1 x2 (x3 + (1 : Int32)) σ
def f_X12_liftOf_4_b  (K4 : Nat → Int32 → Int32 → Int32 → ah_H → Option (Int32 × ah_H)) (x0 : Nat) (x1 : Int32) (x2 : Int32) (x3 : Int32) (σ : ah_H) : Option (Int32 × ah_H) :=
  (op_gR 12 3 σ x0).bind fun v1 => (op_aI σ v1 (0 : Int32)).bind fun v2 => if v2 ≤ x3 then (some (x2, σ)) else ((f_X12_runsTo x0 x3 x1 σ).bind fun r3 => if r3.1 = 0 then (f_X12_liftOf_39 K4 x0 x1 x2 x3 r3.2) else ((f_X12_bOf x0 x3 r3.2).bind fun r4 => (f_X12_aOf x0 x1 r4.2).bind fun r5 => f_X12_liftOf_39 K4 x0 x1 (op_maxi x2 (r4.1 - r5.1)) x3 r5.2))
def f_X12_liftOf_4   : Nat → Nat → Int32 → Int32 → Int32 → ah_H → Option (Int32 × ah_H)
  | 0, _, _, _, _, _ => none
  | n + 1, x0, x1, x2, x3, σ => f_X12_liftOf_4_b (f_X12_liftOf_4 n) x0 x1 x2 x3 σ
def f_X12_liftOf_0   (x0 : Nat) (x1 : Int32) (σ : ah_H) : Option (Int32 × ah_H) :=
  f_X12_liftOf_4 5000 x0 x1 (0 : Int32) (0 : Int32) σ
def f_X12_liftOf  (x0 : Nat) (x1 : Int32) (σ : ah_H) : Option (Int32 × ah_H) := op_ck 12 σ x0 (f_X12_liftOf_0 x0 x1 σ)
set_option maxRecDepth 100000 in
set_option maxHeartbeats 4000000 in
theorem c_X12_liftOf_39 {G : ah_G}  (K4 : Nat → Int32 → Int32 → Int32 → ah_H → Option (Int32 × ah_H)) (hK4 : ∀ (x0 : Nat) (x1 : Int32) (x2 : Int32) (x3 : Int32) (σ : ah_H) (r : Int32 × ah_H), K4 x0 x1 x2 x3 σ = some r → AW G m_X12_liftOf 3 0 0 4 [(0, .ref x0), (1, .int x1), (2, .int x2), (3, .int x3)] [] σ (ah_N G (ah_ri r))) : ∀ (x0 : Nat) (x1 : Int32) (x2 : Int32) (x3 : Int32) (σ : ah_H) (r : Int32 × ah_H), f_X12_liftOf_39  K4 x0 x1 x2 x3 σ = some r → AW G m_X12_liftOf 3 0 0 39 [(0, .ref x0), (1, .int x1), (2, .int x2), (3, .int x3)] [] σ (ah_N G (ah_ri r)) := by
  intro x0 x1 x2 x3 σ r h
  unfold f_X12_liftOf_39 at h
  refine aw_iinc (pc := 39) 3 [(3, .int (x3 + (1 : Int32))), (0, .ref x0), (1, .int x1), (2, .int x2)] (x3 + (1 : Int32)) dX12_liftOf_39 rfl rfl (by decide) rfl ?_
  refine aw_goto (pc := 42) 4 dX12_liftOf_42 (by decide) ?_
  refine aw_sub [1, 2, 3, 0] rfl ?_
  exact hK4 _ _ _ _ _ _ h
set_option maxRecDepth 100000 in
set_option maxHeartbeats 4000000 in
theorem c_X12_liftOf_4_b {G : ah_G}  (K4 : Nat → Int32 → Int32 → Int32 → ah_H → Option (Int32 × ah_H)) (hK4 : ∀ (x0 : Nat) (x1 : Int32) (x2 : Int32) (x3 : Int32) (σ : ah_H) (r : Int32 × ah_H), K4 x0 x1 x2 x3 σ = some r → AW G m_X12_liftOf 3 0 0 4 [(0, .ref x0), (1, .int x1), (2, .int x2), (3, .int x3)] [] σ (ah_N G (ah_ri r))) : ∀ (x0 : Nat) (x1 : Int32) (x2 : Int32) (x3 : Int32) (σ : ah_H) (r : Int32 × ah_H), f_X12_liftOf_4_b  K4 x0 x1 x2 x3 σ = some r → AW G m_X12_liftOf 3 0 0 4 [(0, .ref x0), (1, .int x1), (2, .int x2), (3, .int x3)] [] σ (ah_N G (ah_ri r)) := by
  intro x0 x1 x2 x3 σ r h
  unfold f_X12_liftOf_4_b at h
  refine aw_iload_n (pc := 4) 3 dX12_liftOf_4 rfl ?_
  refine aw_aload_n (pc := 5) 0 dX12_liftOf_5 rfl ?_
  obtain ⟨v1, e, h⟩ := op_bd h
  refine ow_gR (pc := 6) e dX12_liftOf_6 fd_X12_15 rfl ?_
  refine aw_iconst (pc := 9) (v := (0 : Int32)) dX12_liftOf_9 (by decide) ?_
  obtain ⟨v2, e, h⟩ := op_bd h
  refine ow_aI (pc := 10) e dX12_liftOf_10 ?_
  refine aw_icmp_ge (pc := 11) 45 dX12_liftOf_11 (by decide) (fun z => ?_) (fun z => ?_)
  · replace h := (if_pos z).symm.trans h
    refine aw_iload_n (pc := 45) 2 dX12_liftOf_45 rfl ?_
    exact ow_iret (pc := 46) h dX12_liftOf_46 rfl
  · replace h := (if_neg z).symm.trans h
    refine aw_aload_n (pc := 14) 0 dX12_liftOf_14 rfl ?_
    refine aw_iload_n (pc := 15) 3 dX12_liftOf_15 rfl ?_
    refine aw_iload_n (pc := 16) 1 dX12_liftOf_16 rfl ?_
    obtain ⟨r3, e, h⟩ := op_bd h
    refine ow_cVi (pc := 17) [.int x3, .int x1] ((c_X12_runsTo _ _ _ _ _ e).mono (by decide)) (op_ck_sh e) rfl dX12_liftOf_17 cw_X12_416 rfl (Nat.le_of_ble_eq_true rfl) ?_
    refine aw_if_eq (pc := 20) 39 dX12_liftOf_20 (by decide) (fun z => ?_) (fun z => ?_)
    · replace h := (if_pos z).symm.trans h
      exact c_X12_liftOf_39 K4 hK4 _ _ _ _ _ _ h
    · replace h := (if_neg z).symm.trans h
      refine aw_iload_n (pc := 23) 2 dX12_liftOf_23 rfl ?_
      refine aw_aload_n (pc := 24) 0 dX12_liftOf_24 rfl ?_
      refine aw_iload_n (pc := 25) 3 dX12_liftOf_25 rfl ?_
      obtain ⟨r4, e, h⟩ := op_bd h
      refine ow_cVi (pc := 26) [.int x3] ((c_X12_bOf _ _ _ _ e).mono (by decide)) (op_ck_sh e) rfl dX12_liftOf_26 cw_X12_389 rfl (Nat.le_of_ble_eq_true rfl) ?_
      refine aw_aload_n (pc := 29) 0 dX12_liftOf_29 rfl ?_
      refine aw_iload_n (pc := 30) 1 dX12_liftOf_30 rfl ?_
      obtain ⟨r5, e, h⟩ := op_bd h
      refine ow_cVi (pc := 31) [.int x1] ((c_X12_aOf _ _ _ _ e).mono (by decide)) (op_ck_sh e) rfl dX12_liftOf_31 cw_X12_386 rfl (Nat.le_of_ble_eq_true rfl) ?_
      refine aw_isub (pc := 34) dX12_liftOf_34 ?_
      refine ow_maxi (pc := 35) dX12_liftOf_35 mt_X12_367 (Nat.le_of_ble_eq_true rfl) ?_
      refine aw_istore_n (pc := 38) [(2, .int (op_maxi x2 (r4.1 - r5.1))), (0, .ref x0), (1, .int x1), (3, .int x3)] dX12_liftOf_38 rfl (by decide) rfl ?_
      refine aw_sub [1, 2, 0, 3] rfl ?_
      exact c_X12_liftOf_39 K4 hK4 _ _ _ _ _ _ h
theorem c_X12_liftOf_4 {G : ah_G}   : ∀ (n : Nat) (x0 : Nat) (x1 : Int32) (x2 : Int32) (x3 : Int32) (σ : ah_H) (r : Int32 × ah_H), f_X12_liftOf_4   n x0 x1 x2 x3 σ = some r → AW G m_X12_liftOf 3 0 0 4 [(0, .ref x0), (1, .int x1), (2, .int x2), (3, .int x3)] [] σ (ah_N G (ah_ri r)) := by
  intro n
  induction n with
  | zero => intro x0 x1 x2 x3 σ r h; cases h
  | succ n ih => intro x0 x1 x2 x3 σ r h; exact c_X12_liftOf_4_b   _ ih x0 x1 x2 x3 σ r h
set_option maxRecDepth 100000 in
set_option maxHeartbeats 4000000 in
theorem c_X12_liftOf_0 {G : ah_G}   : ∀ (x0 : Nat) (x1 : Int32) (σ : ah_H) (r : Int32 × ah_H), f_X12_liftOf_0   x0 x1 σ = some r → AW G m_X12_liftOf 3 0 0 0 [(0, .ref x0), (1, .int x1)] [] σ (ah_N G (ah_ri r)) := by
  intro x0 x1 σ r h
  unfold f_X12_liftOf_0 at h
  refine aw_iconst (pc := 0) (v := (0 : Int32)) dX12_liftOf_0 (by decide) ?_
  refine aw_istore_n (pc := 1) [(2, .int (0 : Int32)), (0, .ref x0), (1, .int x1)] dX12_liftOf_1 rfl (by decide) rfl ?_
  refine aw_iconst (pc := 2) (v := (0 : Int32)) dX12_liftOf_2 (by decide) ?_
  refine aw_istore_n (pc := 3) [(3, .int (0 : Int32)), (2, .int (0 : Int32)), (0, .ref x0), (1, .int x1)] dX12_liftOf_3 rfl (by decide) rfl ?_
  refine aw_sub [2, 3, 1, 0] rfl ?_
  exact c_X12_liftOf_4  _ _ _ _ _ _ _ h
theorem c_X12_liftOf {G : ah_G}   (x0 : Nat) (x1 : Int32) (σ : ah_H) (r : Int32 × ah_H) (h : f_X12_liftOf  x0 x1 σ = some r) : AM G m_X12_liftOf 3 0 0 [.ref x0, .int x1] σ (ah_ri r) := aw_enter (by decide) (Nat.le_of_ble_eq_true rfl) (c_X12_liftOf_0 _ _ _ _ (op_ck_k h))
def f_X12_costOf_0   (x0 : Nat) (x1 : Int32) (σ : ah_H) : Option (Int64 × ah_H) :=
  (f_X12_pipeOf x0 x1 σ).bind fun r1 => (f_X12_streetOf x0 x1 r1.2).bind fun r2 => (f_X12_aOf x0 x1 r2.2).bind fun r3 => (f_X12_bOf x0 x1 r3.2).bind fun r4 => (f_X12_costBy x0 x1 r1.1 r2.1 r3.1 r4.1 r4.2).bind fun r5 => some (r5.1, r5.2)
def f_X12_costOf  (x0 : Nat) (x1 : Int32) (σ : ah_H) : Option (Int64 × ah_H) := op_ck 12 σ x0 (f_X12_costOf_0 x0 x1 σ)
set_option maxRecDepth 100000 in
set_option maxHeartbeats 4000000 in
theorem c_X12_costOf_0 {G : ah_G}   : ∀ (x0 : Nat) (x1 : Int32) (σ : ah_H) (r : Int64 × ah_H), f_X12_costOf_0   x0 x1 σ = some r → AW G m_X12_costOf 4 0 0 0 [(0, .ref x0), (1, .int x1)] [] σ (ah_N G (ah_rl r)) := by
  intro x0 x1 σ r h
  unfold f_X12_costOf_0 at h
  refine aw_aload_n (pc := 0) 0 dX12_costOf_0 rfl ?_
  refine aw_iload_n (pc := 1) 1 dX12_costOf_1 rfl ?_
  refine aw_aload_n (pc := 2) 0 dX12_costOf_2 rfl ?_
  refine aw_iload_n (pc := 3) 1 dX12_costOf_3 rfl ?_
  obtain ⟨r1, e, h⟩ := op_bd h
  refine ow_cVi (pc := 4) [.int x1] ((c_X12_pipeOf _ _ _ _ e).mono (by decide)) (op_ck_sh e) rfl dX12_costOf_4 cw_X12_396 rfl (Nat.le_of_ble_eq_true rfl) ?_
  refine aw_aload_n (pc := 7) 0 dX12_costOf_7 rfl ?_
  refine aw_iload_n (pc := 8) 1 dX12_costOf_8 rfl ?_
  obtain ⟨r2, e, h⟩ := op_bd h
  refine ow_cVi (pc := 9) [.int x1] ((c_X12_streetOf _ _ _ _ e).mono (by decide)) (op_ck_sh e) rfl dX12_costOf_9 cw_X12_374 rfl (Nat.le_of_ble_eq_true rfl) ?_
  refine aw_aload_n (pc := 12) 0 dX12_costOf_12 rfl ?_
  refine aw_iload_n (pc := 13) 1 dX12_costOf_13 rfl ?_
  obtain ⟨r3, e, h⟩ := op_bd h
  refine ow_cVi (pc := 14) [.int x1] ((c_X12_aOf _ _ _ _ e).mono (by decide)) (op_ck_sh e) rfl dX12_costOf_14 cw_X12_386 rfl (Nat.le_of_ble_eq_true rfl) ?_
  refine aw_aload_n (pc := 17) 0 dX12_costOf_17 rfl ?_
  refine aw_iload_n (pc := 18) 1 dX12_costOf_18 rfl ?_
  obtain ⟨r4, e, h⟩ := op_bd h
  refine ow_cVi (pc := 19) [.int x1] ((c_X12_bOf _ _ _ _ e).mono (by decide)) (op_ck_sh e) rfl dX12_costOf_19 cw_X12_389 rfl (Nat.le_of_ble_eq_true rfl) ?_
  obtain ⟨r5, e, h⟩ := op_bd h
  refine ow_cVl (pc := 22) [.int x1, .int r1.1, .int r2.1, .int r3.1, .int r4.1] ((c_X12_costBy _ _ _ _ _ _ _ _ e).mono (by decide)) (op_ck_sh e) rfl dX12_costOf_22 cw_X12_453 rfl (Nat.le_of_ble_eq_true rfl) ?_
  exact ow_lret (pc := 25) h dX12_costOf_25 rfl
theorem c_X12_costOf {G : ah_G}   (x0 : Nat) (x1 : Int32) (σ : ah_H) (r : Int64 × ah_H) (h : f_X12_costOf  x0 x1 σ = some r) : AM G m_X12_costOf 4 0 0 [.ref x0, .int x1] σ (ah_rl r) := aw_enter (by decide) (Nat.le_of_ble_eq_true rfl) (c_X12_costOf_0 _ _ _ _ (op_ck_k h))
def f_X12_cost_0   (x0 : Nat) (x1 : Int32) (x2 : Int32) (σ : ah_H) : Option (Int64 × ah_H) :=
  (op_pI 12 0 σ x0 (0 : Int32)).bind fun σ1 => (f_X12_isThere x0 x1 σ1).bind fun r2 => if r2.1 = 0 then (some ((-1 : Int64), r2.2)) else (if x2 < 0 then (some ((-1 : Int64), r2.2)) else (if x2 ≤ (1 : Int32) then ((f_X12_run x0 (0 : Int32) r2.2).bind fun r3 => if x2 = 0 then ((f_X12_costOf x0 x1 r3).bind fun r7 => some (r7.1, r7.2)) else ((f_X12_liftOf x0 x1 r3).bind fun r4 => (f_X12_greatest x0 x1 r4.2).bind fun r5 => (f_X12_pumpBy x0 r4.1 r5.1 r5.2).bind fun r6 => some (r6.1, r6.2))) else (some ((-1 : Int64), r2.2))))
def f_X12_cost  (x0 : Nat) (x1 : Int32) (x2 : Int32) (σ : ah_H) : Option (Int64 × ah_H) := op_ck 12 σ x0 (f_X12_cost_0 x0 x1 x2 σ)
set_option maxRecDepth 100000 in
set_option maxHeartbeats 4000000 in
theorem c_X12_cost_0 {G : ah_G}   : ∀ (x0 : Nat) (x1 : Int32) (x2 : Int32) (σ : ah_H) (r : Int64 × ah_H), f_X12_cost_0   x0 x1 x2 σ = some r → AW G m_X12_cost 7 0 0 0 [(0, .ref x0), (1, .int x1), (2, .int x2)] [] σ (ah_N G (ah_rl r)) := by
  intro x0 x1 x2 σ r h
  unfold f_X12_cost_0 at h
  refine aw_aload_n (pc := 0) 0 dX12_cost_0 rfl ?_
  refine aw_iconst (pc := 1) (v := (0 : Int32)) dX12_cost_1 (by decide) ?_
  obtain ⟨σ1, e, h⟩ := op_bd h
  refine ow_pI (pc := 2) e dX12_cost_2 fd_X12_153 ?_
  refine aw_aload_n (pc := 5) 0 dX12_cost_5 rfl ?_
  refine aw_iload_n (pc := 6) 1 dX12_cost_6 rfl ?_
  obtain ⟨r2, e, h⟩ := op_bd h
  refine ow_cVi (pc := 7) [.int x1] ((c_X12_isThere _ _ _ _ e).mono (by decide)) (op_ck_sh e) rfl dX12_cost_7 cw_X12_450 rfl (Nat.le_of_ble_eq_true rfl) ?_
  refine aw_if_eq (pc := 10) 22 dX12_cost_10 (by decide) (fun z => ?_) (fun z => ?_)
  · replace h := (if_pos z).symm.trans h
    refine aw_ldc2 (pc := 22) dX12_cost_22 kl_X12_432 ?_
    exact ow_lret (pc := 25) h dX12_cost_25 rfl
  · replace h := (if_neg z).symm.trans h
    refine aw_iload_n (pc := 13) 2 dX12_cost_13 rfl ?_
    refine aw_if_lt (pc := 14) 22 dX12_cost_14 (by decide) (fun z => ?_) (fun z => ?_)
    · replace h := (if_pos z).symm.trans h
      refine aw_ldc2 (pc := 22) dX12_cost_22 kl_X12_432 ?_
      exact ow_lret (pc := 25) h dX12_cost_25 rfl
    · replace h := (if_neg z).symm.trans h
      refine aw_iload_n (pc := 17) 2 dX12_cost_17 rfl ?_
      refine aw_iconst (pc := 18) (v := (1 : Int32)) dX12_cost_18 (by decide) ?_
      refine aw_icmp_le (pc := 19) 26 dX12_cost_19 (by decide) (fun z => ?_) (fun z => ?_)
      · replace h := (if_pos z).symm.trans h
        refine aw_aload_n (pc := 26) 0 dX12_cost_26 rfl ?_
        refine aw_iconst (pc := 27) (v := (0 : Int32)) dX12_cost_27 (by decide) ?_
        obtain ⟨r3, e, h⟩ := op_bd h
        refine ow_cVv (pc := 28) [.int (0 : Int32)] ((c_X12_run _ _ _ _ e).mono (by decide)) (op_ck_sh e) rfl dX12_cost_28 cw_X12_457 rfl (Nat.le_of_ble_eq_true rfl) ?_
        refine aw_iload_n (pc := 31) 2 dX12_cost_31 rfl ?_
        refine aw_if_ne (pc := 32) 43 dX12_cost_32 (by decide) (fun z => ?_) (fun z => ?_)
        · replace h := (if_neg z).symm.trans h
          refine aw_aload_n (pc := 43) 0 dX12_cost_43 rfl ?_
          refine aw_aload_n (pc := 44) 0 dX12_cost_44 rfl ?_
          refine aw_iload_n (pc := 45) 1 dX12_cost_45 rfl ?_
          obtain ⟨r4, e, h⟩ := op_bd h
          refine ow_cVi (pc := 46) [.int x1] ((c_X12_liftOf _ _ _ _ e).mono (by decide)) (op_ck_sh e) rfl dX12_cost_46 cw_X12_464 rfl (Nat.le_of_ble_eq_true rfl) ?_
          refine aw_aload_n (pc := 49) 0 dX12_cost_49 rfl ?_
          refine aw_iload_n (pc := 50) 1 dX12_cost_50 rfl ?_
          obtain ⟨r5, e, h⟩ := op_bd h
          refine ow_cVl (pc := 51) [.int x1] ((c_X12_greatest _ _ _ _ e).mono (by decide)) (op_ck_sh e) rfl dX12_cost_51 cw_X12_467 rfl (Nat.le_of_ble_eq_true rfl) ?_
          obtain ⟨r6, e, h⟩ := op_bd h
          refine ow_cVl (pc := 54) [.int r4.1, .long r5.1] ((c_X12_pumpBy _ _ _ _ _ e).mono (by decide)) (op_ck_sh e) rfl dX12_cost_54 cw_X12_470 rfl (Nat.le_of_ble_eq_true rfl) ?_
          exact ow_lret (pc := 57) h dX12_cost_57 rfl
        · replace h := (if_pos z).symm.trans h
          refine aw_aload_n (pc := 35) 0 dX12_cost_35 rfl ?_
          refine aw_iload_n (pc := 36) 1 dX12_cost_36 rfl ?_
          obtain ⟨r7, e, h⟩ := op_bd h
          refine ow_cVl (pc := 37) [.int x1] ((c_X12_costOf _ _ _ _ e).mono (by decide)) (op_ck_sh e) rfl dX12_cost_37 cw_X12_461 rfl (Nat.le_of_ble_eq_true rfl) ?_
          refine aw_goto (pc := 40) 57 dX12_cost_40 (by decide) ?_
          exact ow_lret (pc := 57) h dX12_cost_57 rfl
      · replace h := (if_neg z).symm.trans h
        refine aw_ldc2 (pc := 22) dX12_cost_22 kl_X12_432 ?_
        exact ow_lret (pc := 25) h dX12_cost_25 rfl
theorem c_X12_cost {G : ah_G}   (x0 : Nat) (x1 : Int32) (x2 : Int32) (σ : ah_H) (r : Int64 × ah_H) (h : f_X12_cost  x0 x1 x2 σ = some r) : AM G m_X12_cost 7 0 0 [.ref x0, .int x1, .int x2] σ (ah_rl r) := aw_enter (by decide) (Nat.le_of_ble_eq_true rfl) (c_X12_cost_0 _ _ _ _ _ (op_ck_k h))
def f_X12_all_60  (K19 : Nat → Int64 → Int32 → ah_H → Option (Int64 × ah_H)) (x0 : Nat) (x1 : Int64) (x3 : Int32) (σ : ah_H) : Option (Int64 × ah_H) :=
  K19 x0 x1 (x3 + (1 : Int32)) σ
def f_X12_all_19_b  (K19 : Nat → Int64 → Int32 → ah_H → Option (Int64 × ah_H)) (x0 : Nat) (x1 : Int64) (x3 : Int32) (σ : ah_H) : Option (Int64 × ah_H) :=
  (op_gR 12 3 σ x0).bind fun v1 => (op_aI σ v1 (0 : Int32)).bind fun v2 => if v2 ≤ x3 then (some (x1, σ)) else ((f_X12_isLaid x0 x3 σ).bind fun r3 => if r3.1 = 0 then (f_X12_all_60 K19 x0 x1 x3 r3.2) else ((f_X12_costOf x0 x3 r3.2).bind fun r4 => (f_X12_liftOf x0 x3 r4.2).bind fun r5 => (f_X12_greatest x0 x3 r5.2).bind fun r6 => (f_X12_pumpBy x0 r5.1 r6.1 r6.2).bind fun r7 => f_X12_all_60 K19 x0 (x1 + (r4.1 + r7.1)) x3 r7.2))
def f_X12_all_19   : Nat → Nat → Int64 → Int32 → ah_H → Option (Int64 × ah_H)
  | 0, _, _, _, _ => none
  | n + 1, x0, x1, x3, σ => f_X12_all_19_b (f_X12_all_19 n) x0 x1 x3 σ
def f_X12_all_0   (x0 : Nat) (σ : ah_H) : Option (Int64 × ah_H) :=
  (op_pI 12 0 σ x0 (0 : Int32)).bind fun σ1 => (op_pI 12 42 σ1 x0 (0 : Int32)).bind fun σ2 => (f_X12_run x0 (0 : Int32) σ2).bind fun r3 => f_X12_all_19 5000 x0 (0 : Int64) (0 : Int32) r3
def f_X12_all  (x0 : Nat) (σ : ah_H) : Option (Int64 × ah_H) := op_ck 12 σ x0 (f_X12_all_0 x0 σ)
set_option maxRecDepth 100000 in
set_option maxHeartbeats 4000000 in
theorem c_X12_all_60 {G : ah_G}  (K19 : Nat → Int64 → Int32 → ah_H → Option (Int64 × ah_H)) (hK19 : ∀ (x0 : Nat) (x1 : Int64) (x3 : Int32) (σ : ah_H) (r : Int64 × ah_H), K19 x0 x1 x3 σ = some r → AW G m_X12_all 7 0 0 19 [(0, .ref x0), (1, .long x1), (3, .int x3)] [] σ (ah_N G (ah_rl r))) : ∀ (x0 : Nat) (x1 : Int64) (x3 : Int32) (σ : ah_H) (r : Int64 × ah_H), f_X12_all_60  K19 x0 x1 x3 σ = some r → AW G m_X12_all 7 0 0 60 [(0, .ref x0), (1, .long x1), (3, .int x3)] [] σ (ah_N G (ah_rl r)) := by
  intro x0 x1 x3 σ r h
  unfold f_X12_all_60 at h
  refine aw_iinc (pc := 60) 2 [(3, .int (x3 + (1 : Int32))), (0, .ref x0), (1, .long x1)] (x3 + (1 : Int32)) dX12_all_60 rfl rfl (by decide) rfl ?_
  refine aw_goto (pc := 63) 19 dX12_all_63 (by decide) ?_
  refine aw_sub [1, 2, 0] rfl ?_
  exact hK19 _ _ _ _ _ h
set_option maxRecDepth 100000 in
set_option maxHeartbeats 4000000 in
theorem c_X12_all_19_b {G : ah_G}  (K19 : Nat → Int64 → Int32 → ah_H → Option (Int64 × ah_H)) (hK19 : ∀ (x0 : Nat) (x1 : Int64) (x3 : Int32) (σ : ah_H) (r : Int64 × ah_H), K19 x0 x1 x3 σ = some r → AW G m_X12_all 7 0 0 19 [(0, .ref x0), (1, .long x1), (3, .int x3)] [] σ (ah_N G (ah_rl r))) : ∀ (x0 : Nat) (x1 : Int64) (x3 : Int32) (σ : ah_H) (r : Int64 × ah_H), f_X12_all_19_b  K19 x0 x1 x3 σ = some r → AW G m_X12_all 7 0 0 19 [(0, .ref x0), (1, .long x1), (3, .int x3)] [] σ (ah_N G (ah_rl r)) := by
  intro x0 x1 x3 σ r h
  unfold f_X12_all_19_b at h
  refine aw_iload_n (pc := 19) 2 dX12_all_19 rfl ?_
  refine aw_aload_n (pc := 20) 0 dX12_all_20 rfl ?_
  obtain ⟨v1, e, h⟩ := op_bd h
  refine ow_gR (pc := 21) e dX12_all_21 fd_X12_15 rfl ?_
  refine aw_iconst (pc := 24) (v := (0 : Int32)) dX12_all_24 (by decide) ?_
  obtain ⟨v2, e, h⟩ := op_bd h
  refine ow_aI (pc := 25) e dX12_all_25 ?_
  refine aw_icmp_ge (pc := 26) 66 dX12_all_26 (by decide) (fun z => ?_) (fun z => ?_)
  · replace h := (if_pos z).symm.trans h
    refine aw_lload_n (pc := 66) 1 dX12_all_66 rfl ?_
    exact ow_lret (pc := 67) h dX12_all_67 rfl
  · replace h := (if_neg z).symm.trans h
    refine aw_aload_n (pc := 29) 0 dX12_all_29 rfl ?_
    refine aw_iload_n (pc := 30) 2 dX12_all_30 rfl ?_
    obtain ⟨r3, e, h⟩ := op_bd h
    refine ow_cVi (pc := 31) [.int x3] ((c_X12_isLaid _ _ _ _ e).mono (by decide)) (op_ck_sh e) rfl dX12_all_31 cw_X12_380 rfl (Nat.le_of_ble_eq_true rfl) ?_
    refine aw_if_eq (pc := 34) 60 dX12_all_34 (by decide) (fun z => ?_) (fun z => ?_)
    · replace h := (if_pos z).symm.trans h
      exact c_X12_all_60 K19 hK19 _ _ _ _ _ h
    · replace h := (if_neg z).symm.trans h
      refine aw_lload_n (pc := 37) 1 dX12_all_37 rfl ?_
      refine aw_aload_n (pc := 38) 0 dX12_all_38 rfl ?_
      refine aw_iload_n (pc := 39) 2 dX12_all_39 rfl ?_
      obtain ⟨r4, e, h⟩ := op_bd h
      refine ow_cVl (pc := 40) [.int x3] ((c_X12_costOf _ _ _ _ e).mono (by decide)) (op_ck_sh e) rfl dX12_all_40 cw_X12_461 rfl (Nat.le_of_ble_eq_true rfl) ?_
      refine aw_aload_n (pc := 43) 0 dX12_all_43 rfl ?_
      refine aw_aload_n (pc := 44) 0 dX12_all_44 rfl ?_
      refine aw_iload_n (pc := 45) 2 dX12_all_45 rfl ?_
      obtain ⟨r5, e, h⟩ := op_bd h
      refine ow_cVi (pc := 46) [.int x3] ((c_X12_liftOf _ _ _ _ e).mono (by decide)) (op_ck_sh e) rfl dX12_all_46 cw_X12_464 rfl (Nat.le_of_ble_eq_true rfl) ?_
      refine aw_aload_n (pc := 49) 0 dX12_all_49 rfl ?_
      refine aw_iload_n (pc := 50) 2 dX12_all_50 rfl ?_
      obtain ⟨r6, e, h⟩ := op_bd h
      refine ow_cVl (pc := 51) [.int x3] ((c_X12_greatest _ _ _ _ e).mono (by decide)) (op_ck_sh e) rfl dX12_all_51 cw_X12_467 rfl (Nat.le_of_ble_eq_true rfl) ?_
      obtain ⟨r7, e, h⟩ := op_bd h
      refine ow_cVl (pc := 54) [.int r5.1, .long r6.1] ((c_X12_pumpBy _ _ _ _ _ e).mono (by decide)) (op_ck_sh e) rfl dX12_all_54 cw_X12_470 rfl (Nat.le_of_ble_eq_true rfl) ?_
      refine aw_ladd (pc := 57) dX12_all_57 ?_
      refine aw_ladd (pc := 58) dX12_all_58 ?_
      refine aw_lstore_n (pc := 59) [(1, .long (x1 + (r4.1 + r7.1))), (0, .ref x0), (3, .int x3)] dX12_all_59 rfl (by decide) rfl ?_
      refine aw_sub [1, 0, 2] rfl ?_
      exact c_X12_all_60 K19 hK19 _ _ _ _ _ h
theorem c_X12_all_19 {G : ah_G}   : ∀ (n : Nat) (x0 : Nat) (x1 : Int64) (x3 : Int32) (σ : ah_H) (r : Int64 × ah_H), f_X12_all_19   n x0 x1 x3 σ = some r → AW G m_X12_all 7 0 0 19 [(0, .ref x0), (1, .long x1), (3, .int x3)] [] σ (ah_N G (ah_rl r)) := by
  intro n
  induction n with
  | zero => intro x0 x1 x3 σ r h; cases h
  | succ n ih => intro x0 x1 x3 σ r h; exact c_X12_all_19_b   _ ih x0 x1 x3 σ r h
set_option maxRecDepth 100000 in
set_option maxHeartbeats 4000000 in
theorem c_X12_all_0 {G : ah_G}   : ∀ (x0 : Nat) (σ : ah_H) (r : Int64 × ah_H), f_X12_all_0   x0 σ = some r → AW G m_X12_all 7 0 0 0 [(0, .ref x0)] [] σ (ah_N G (ah_rl r)) := by
  intro x0 σ r h
  unfold f_X12_all_0 at h
  refine aw_aload_n (pc := 0) 0 dX12_all_0 rfl ?_
  refine aw_iconst (pc := 1) (v := (0 : Int32)) dX12_all_1 (by decide) ?_
  obtain ⟨σ1, e, h⟩ := op_bd h
  refine ow_pI (pc := 2) e dX12_all_2 fd_X12_153 ?_
  refine aw_aload_n (pc := 5) 0 dX12_all_5 rfl ?_
  refine aw_iconst (pc := 6) (v := (0 : Int32)) dX12_all_6 (by decide) ?_
  obtain ⟨σ2, e, h⟩ := op_bd h
  refine ow_pI (pc := 7) e dX12_all_7 fd_X12_371 ?_
  refine aw_aload_n (pc := 10) 0 dX12_all_10 rfl ?_
  refine aw_iconst (pc := 11) (v := (0 : Int32)) dX12_all_11 (by decide) ?_
  obtain ⟨r3, e, h⟩ := op_bd h
  refine ow_cVv (pc := 12) [.int (0 : Int32)] ((c_X12_run _ _ _ _ e).mono (by decide)) (op_ck_sh e) rfl dX12_all_12 cw_X12_457 rfl (Nat.le_of_ble_eq_true rfl) ?_
  refine aw_lconst (pc := 15) (v := (0 : Int64)) dX12_all_15 (by decide) ?_
  refine aw_lstore_n (pc := 16) [(1, .long (0 : Int64)), (0, .ref x0)] dX12_all_16 rfl (by decide) rfl ?_
  refine aw_iconst (pc := 17) (v := (0 : Int32)) dX12_all_17 (by decide) ?_
  refine aw_istore_n (pc := 18) [(3, .int (0 : Int32)), (1, .long (0 : Int64)), (0, .ref x0)] dX12_all_18 rfl (by decide) rfl ?_
  refine aw_sub [2, 1, 0] rfl ?_
  exact c_X12_all_19  _ _ _ _ _ _ h
theorem c_X12_all {G : ah_G}   (x0 : Nat) (σ : ah_H) (r : Int64 × ah_H) (h : f_X12_all  x0 σ = some r) : AM G m_X12_all 7 0 0 [.ref x0] σ (ah_rl r) := aw_enter (by decide) (Nat.le_of_ble_eq_true rfl) (c_X12_all_0 _ _ _ (op_ck_k h))
def f_X12_isCovered_0   (x0 : Nat) (x1 : Int32) (σ : ah_H) : Option (Int32 × ah_H) :=
  (op_gR 12 3 σ x0).bind fun v1 => (op_aI σ v1 (8 : Int32)).bind fun v2 => if x1 < v2 then ((op_rz (0 : Int32)).map fun q => (q, σ)) else ((op_gR 12 3 σ x0).bind fun v3 => (op_aI σ v3 (9 : Int32)).bind fun v4 => if v4 < x1 then ((op_rz (0 : Int32)).map fun q => (q, σ)) else ((op_rz (1 : Int32)).map fun q => (q, σ)))
def f_X12_isCovered  (x0 : Nat) (x1 : Int32) (σ : ah_H) : Option (Int32 × ah_H) := op_ck 12 σ x0 (f_X12_isCovered_0 x0 x1 σ)
set_option maxRecDepth 100000 in
set_option maxHeartbeats 4000000 in
theorem c_X12_isCovered_0 {G : ah_G}   : ∀ (x0 : Nat) (x1 : Int32) (σ : ah_H) (r : Int32 × ah_H), f_X12_isCovered_0   x0 x1 σ = some r → AW G m_X12_isCovered 0 0 0 0 [(0, .ref x0), (1, .int x1)] [] σ (ah_N G (ah_ri r)) := by
  intro x0 x1 σ r h
  unfold f_X12_isCovered_0 at h
  refine aw_iload_n (pc := 0) 1 dX12_isCovered_0 rfl ?_
  refine aw_aload_n (pc := 1) 0 dX12_isCovered_1 rfl ?_
  obtain ⟨v1, e, h⟩ := op_bd h
  refine ow_gR (pc := 2) e dX12_isCovered_2 fd_X12_15 rfl ?_
  refine aw_bipush (pc := 5) (v := (8 : Int32)) dX12_isCovered_5 (by decide) ?_
  obtain ⟨v2, e, h⟩ := op_bd h
  refine ow_aI (pc := 7) e dX12_isCovered_7 ?_
  refine aw_icmp_lt (pc := 8) 26 dX12_isCovered_8 (by decide) (fun z => ?_) (fun z => ?_)
  · replace h := (if_pos z).symm.trans h
    refine aw_iconst (pc := 26) (v := (0 : Int32)) dX12_isCovered_26 (by decide) ?_
    exact ow_zret (pc := 27) h dX12_isCovered_27 rfl
  · replace h := (if_neg z).symm.trans h
    refine aw_iload_n (pc := 11) 1 dX12_isCovered_11 rfl ?_
    refine aw_aload_n (pc := 12) 0 dX12_isCovered_12 rfl ?_
    obtain ⟨v3, e, h⟩ := op_bd h
    refine ow_gR (pc := 13) e dX12_isCovered_13 fd_X12_15 rfl ?_
    refine aw_bipush (pc := 16) (v := (9 : Int32)) dX12_isCovered_16 (by decide) ?_
    obtain ⟨v4, e, h⟩ := op_bd h
    refine ow_aI (pc := 18) e dX12_isCovered_18 ?_
    refine aw_icmp_gt (pc := 19) 26 dX12_isCovered_19 (by decide) (fun z => ?_) (fun z => ?_)
    · replace h := (if_pos z).symm.trans h
      refine aw_iconst (pc := 26) (v := (0 : Int32)) dX12_isCovered_26 (by decide) ?_
      exact ow_zret (pc := 27) h dX12_isCovered_27 rfl
    · replace h := (if_neg z).symm.trans h
      refine aw_iconst (pc := 22) (v := (1 : Int32)) dX12_isCovered_22 (by decide) ?_
      refine aw_goto (pc := 23) 27 dX12_isCovered_23 (by decide) ?_
      exact ow_zret (pc := 27) h dX12_isCovered_27 rfl
theorem c_X12_isCovered {G : ah_G}   (x0 : Nat) (x1 : Int32) (σ : ah_H) (r : Int32 × ah_H) (h : f_X12_isCovered  x0 x1 σ = some r) : AM G m_X12_isCovered 0 0 0 [.ref x0, .int x1] σ (ah_ri r) := aw_enter (by decide) (Nat.le_of_ble_eq_true rfl) (c_X12_isCovered_0 _ _ _ _ (op_ck_k h))
def f_X12_breaks_126  (K82 : Nat → Int32 → Int32 → ah_H → Option (Int32 × ah_H)) (x0 : Nat) (x1 : Int32) (x3 : Int32) (σ : ah_H) : Option (Int32 × ah_H) :=
  K82 x0 x1 (x3 + (1 : Int32)) σ
def f_X12_breaks_150   (x0 : Nat) (x1 : Int32) (σ : ah_H) : Option (Int32 × ah_H) :=
  (f_X12_greatest x0 x1 σ).bind fun r1 => (f_X12_carriesOf x0 x1 r1.2).bind fun r2 => if (lg_cmp r1.1 r2.1) ≤ 0 then (some ((0 : Int32), r2.2)) else (some ((6 : Int32), r2.2))
def f_X12_breaks_132   (x0 : Nat) (x1 : Int32) (σ : ah_H) : Option (Int32 × ah_H) :=
  (f_X12_liftOf x0 x1 σ).bind fun r1 => if r1.1 ≤ 0 then (f_X12_breaks_150 x0 x1 r1.2) else ((f_X12_hasLaw x0 (2 : Int32) r1.2).bind fun r2 => if r2.1 = 0 then (some ((5 : Int32), r2.2)) else (f_X12_breaks_150 x0 x1 r2.2))
def f_X12_breaks_82_b  (K82 : Nat → Int32 → Int32 → ah_H → Option (Int32 × ah_H)) (x0 : Nat) (x1 : Int32) (x3 : Int32) (σ : ah_H) : Option (Int32 × ah_H) :=
  (op_gR 12 3 σ x0).bind fun v1 => (op_aI σ v1 (0 : Int32)).bind fun v2 => if v2 ≤ x3 then (f_X12_breaks_132 x0 x1 σ) else ((f_X12_runsTo x0 x3 x1 σ).bind fun r3 => if r3.1 = 0 then (f_X12_breaks_126 K82 x0 x1 x3 r3.2) else ((op_gR 12 13 r3.2 x0).bind fun v4 => (f_X12_pipeOf x0 x3 r3.2).bind fun r5 => (op_aI r5.2 v4 r5.1).bind fun v6 => (op_gR 12 13 r5.2 x0).bind fun v7 => (f_X12_pipeOf x0 x1 r5.2).bind fun r8 => (op_aI r8.2 v7 r8.1).bind fun v9 => if v6 ≤ v9 then (f_X12_breaks_126 K82 x0 x1 x3 r8.2) else (some ((4 : Int32), r8.2))))
def f_X12_breaks_82   : Nat → Nat → Int32 → Int32 → ah_H → Option (Int32 × ah_H)
  | 0, _, _, _, _ => none
  | n + 1, x0, x1, x3, σ => f_X12_breaks_82_b (f_X12_breaks_82 n) x0 x1 x3 σ
def f_X12_breaks_0   (x0 : Nat) (x1 : Int32) (σ : ah_H) : Option (Int32 × ah_H) :=
  (f_X12_streetOf x0 x1 σ).bind fun r1 => (f_X12_aOf x0 x1 r1.2).bind fun r2 => (f_X12_isCovered x0 r2.1 r2.2).bind fun r3 => if r3.1 = 0 then (some ((1 : Int32), r3.2)) else ((f_X12_bOf x0 x1 r3.2).bind fun r4 => (f_X12_isCovered x0 r4.1 r4.2).bind fun r5 => if r5.1 = 0 then (some ((1 : Int32), r5.2)) else ((f_X12_fallOf x0 x1 r5.2).bind fun r6 => (op_gR 12 10 r6.2 x0).bind fun v7 => (op_aI r6.2 v7 r1.1).bind fun v8 => (op_gR 12 3 r6.2 x0).bind fun v9 => (op_aI r6.2 v9 (6 : Int32)).bind fun v10 => if (v8 * v10) ≤ r6.1 then ((f_X12_fallOf x0 x1 r6.2).bind fun r11 => (op_gR 12 10 r11.2 x0).bind fun v12 => (op_aI r11.2 v12 r1.1).bind fun v13 => (op_gR 12 3 r11.2 x0).bind fun v14 => (op_aI r11.2 v14 (7 : Int32)).bind fun v15 => if r11.1 ≤ (v13 * v15) then (f_X12_breaks_82 5000 x0 x1 (0 : Int32) r11.2) else (some ((3 : Int32), r11.2))) else (some ((2 : Int32), r6.2))))
def f_X12_breaks  (x0 : Nat) (x1 : Int32) (σ : ah_H) : Option (Int32 × ah_H) := op_ck 12 σ x0 (f_X12_breaks_0 x0 x1 σ)
set_option maxRecDepth 100000 in
set_option maxHeartbeats 4000000 in
theorem c_X12_breaks_126 {G : ah_G}  (K82 : Nat → Int32 → Int32 → ah_H → Option (Int32 × ah_H)) (hK82 : ∀ (x0 : Nat) (x1 : Int32) (x3 : Int32) (σ : ah_H) (r : Int32 × ah_H), K82 x0 x1 x3 σ = some r → AW G m_X12_breaks 5 0 0 82 [(0, .ref x0), (1, .int x1), (3, .int x3)] [] σ (ah_N G (ah_ri r))) : ∀ (x0 : Nat) (x1 : Int32) (x3 : Int32) (σ : ah_H) (r : Int32 × ah_H), f_X12_breaks_126  K82 x0 x1 x3 σ = some r → AW G m_X12_breaks 5 0 0 126 [(0, .ref x0), (1, .int x1), (3, .int x3)] [] σ (ah_N G (ah_ri r)) := by
  intro x0 x1 x3 σ r h
  unfold f_X12_breaks_126 at h
  refine aw_iinc (pc := 126) 2 [(3, .int (x3 + (1 : Int32))), (0, .ref x0), (1, .int x1)] (x3 + (1 : Int32)) dX12_breaks_126 rfl rfl (by decide) rfl ?_
  refine aw_goto (pc := 129) 82 dX12_breaks_129 (by decide) ?_
  refine aw_sub [1, 2, 0] rfl ?_
  exact hK82 _ _ _ _ _ h
set_option maxRecDepth 100000 in
set_option maxHeartbeats 4000000 in
theorem c_X12_breaks_150 {G : ah_G}   : ∀ (x0 : Nat) (x1 : Int32) (σ : ah_H) (r : Int32 × ah_H), f_X12_breaks_150   x0 x1 σ = some r → AW G m_X12_breaks 5 0 0 150 [(0, .ref x0), (1, .int x1)] [] σ (ah_N G (ah_ri r)) := by
  intro x0 x1 σ r h
  unfold f_X12_breaks_150 at h
  refine aw_aload_n (pc := 150) 0 dX12_breaks_150 rfl ?_
  refine aw_iload_n (pc := 151) 1 dX12_breaks_151 rfl ?_
  obtain ⟨r1, e, h⟩ := op_bd h
  refine ow_cVl (pc := 152) [.int x1] ((c_X12_greatest _ _ _ _ e).mono (by decide)) (op_ck_sh e) rfl dX12_breaks_152 cw_X12_467 rfl (Nat.le_of_ble_eq_true rfl) ?_
  refine aw_aload_n (pc := 155) 0 dX12_breaks_155 rfl ?_
  refine aw_iload_n (pc := 156) 1 dX12_breaks_156 rfl ?_
  obtain ⟨r2, e, h⟩ := op_bd h
  refine ow_cVl (pc := 157) [.int x1] ((c_X12_carriesOf _ _ _ _ e).mono (by decide)) (op_ck_sh e) rfl dX12_breaks_157 cw_X12_419 rfl (Nat.le_of_ble_eq_true rfl) ?_
  refine aw_lcmp (pc := 160) dX12_breaks_160 ?_
  refine aw_if_le (pc := 161) 169 dX12_breaks_161 (by decide) (fun z => ?_) (fun z => ?_)
  · replace h := (if_pos z).symm.trans h
    refine aw_iconst (pc := 169) (v := (0 : Int32)) dX12_breaks_169 (by decide) ?_
    exact ow_iret (pc := 170) h dX12_breaks_170 rfl
  · replace h := (if_neg z).symm.trans h
    refine aw_bipush (pc := 164) (v := (6 : Int32)) dX12_breaks_164 (by decide) ?_
    refine aw_goto (pc := 166) 170 dX12_breaks_166 (by decide) ?_
    exact ow_iret (pc := 170) h dX12_breaks_170 rfl
set_option maxRecDepth 100000 in
set_option maxHeartbeats 4000000 in
theorem c_X12_breaks_132 {G : ah_G}   : ∀ (x0 : Nat) (x1 : Int32) (σ : ah_H) (r : Int32 × ah_H), f_X12_breaks_132   x0 x1 σ = some r → AW G m_X12_breaks 5 0 0 132 [(0, .ref x0), (1, .int x1)] [] σ (ah_N G (ah_ri r)) := by
  intro x0 x1 σ r h
  unfold f_X12_breaks_132 at h
  refine aw_aload_n (pc := 132) 0 dX12_breaks_132 rfl ?_
  refine aw_iload_n (pc := 133) 1 dX12_breaks_133 rfl ?_
  obtain ⟨r1, e, h⟩ := op_bd h
  refine ow_cVi (pc := 134) [.int x1] ((c_X12_liftOf _ _ _ _ e).mono (by decide)) (op_ck_sh e) rfl dX12_breaks_134 cw_X12_464 rfl (Nat.le_of_ble_eq_true rfl) ?_
  refine aw_if_le (pc := 137) 150 dX12_breaks_137 (by decide) (fun z => ?_) (fun z => ?_)
  · replace h := (if_pos z).symm.trans h
    exact c_X12_breaks_150  _ _ _ _ h
  · replace h := (if_neg z).symm.trans h
    refine aw_aload_n (pc := 140) 0 dX12_breaks_140 rfl ?_
    refine aw_iconst (pc := 141) (v := (2 : Int32)) dX12_breaks_141 (by decide) ?_
    obtain ⟨r2, e, h⟩ := op_bd h
    refine ow_cVi (pc := 142) [.int (2 : Int32)] ((c_X12_hasLaw _ _ _ _ e).mono (by decide)) (op_ck_sh e) rfl dX12_breaks_142 cw_X12_360 rfl (Nat.le_of_ble_eq_true rfl) ?_
    refine aw_if_ne (pc := 145) 150 dX12_breaks_145 (by decide) (fun z => ?_) (fun z => ?_)
    · replace h := (if_neg z).symm.trans h
      exact c_X12_breaks_150  _ _ _ _ h
    · replace h := (if_pos z).symm.trans h
      refine aw_iconst (pc := 148) (v := (5 : Int32)) dX12_breaks_148 (by decide) ?_
      exact ow_iret (pc := 149) h dX12_breaks_149 rfl
set_option maxRecDepth 100000 in
set_option maxHeartbeats 4000000 in
theorem c_X12_breaks_82_b {G : ah_G}  (K82 : Nat → Int32 → Int32 → ah_H → Option (Int32 × ah_H)) (hK82 : ∀ (x0 : Nat) (x1 : Int32) (x3 : Int32) (σ : ah_H) (r : Int32 × ah_H), K82 x0 x1 x3 σ = some r → AW G m_X12_breaks 5 0 0 82 [(0, .ref x0), (1, .int x1), (3, .int x3)] [] σ (ah_N G (ah_ri r))) : ∀ (x0 : Nat) (x1 : Int32) (x3 : Int32) (σ : ah_H) (r : Int32 × ah_H), f_X12_breaks_82_b  K82 x0 x1 x3 σ = some r → AW G m_X12_breaks 5 0 0 82 [(0, .ref x0), (1, .int x1), (3, .int x3)] [] σ (ah_N G (ah_ri r)) := by
  intro x0 x1 x3 σ r h
  unfold f_X12_breaks_82_b at h
  refine aw_iload_n (pc := 82) 2 dX12_breaks_82 rfl ?_
  refine aw_aload_n (pc := 83) 0 dX12_breaks_83 rfl ?_
  obtain ⟨v1, e, h⟩ := op_bd h
  refine ow_gR (pc := 84) e dX12_breaks_84 fd_X12_15 rfl ?_
  refine aw_iconst (pc := 87) (v := (0 : Int32)) dX12_breaks_87 (by decide) ?_
  obtain ⟨v2, e, h⟩ := op_bd h
  refine ow_aI (pc := 88) e dX12_breaks_88 ?_
  refine aw_icmp_ge (pc := 89) 132 dX12_breaks_89 (by decide) (fun z => ?_) (fun z => ?_)
  · replace h := (if_pos z).symm.trans h
    refine aw_sub [0, 1] rfl ?_
    exact c_X12_breaks_132  _ _ _ _ h
  · replace h := (if_neg z).symm.trans h
    refine aw_aload_n (pc := 92) 0 dX12_breaks_92 rfl ?_
    refine aw_iload_n (pc := 93) 2 dX12_breaks_93 rfl ?_
    refine aw_iload_n (pc := 94) 1 dX12_breaks_94 rfl ?_
    obtain ⟨r3, e, h⟩ := op_bd h
    refine ow_cVi (pc := 95) [.int x3, .int x1] ((c_X12_runsTo _ _ _ _ _ e).mono (by decide)) (op_ck_sh e) rfl dX12_breaks_95 cw_X12_416 rfl (Nat.le_of_ble_eq_true rfl) ?_
    refine aw_if_eq (pc := 98) 126 dX12_breaks_98 (by decide) (fun z => ?_) (fun z => ?_)
    · replace h := (if_pos z).symm.trans h
      exact c_X12_breaks_126 K82 hK82 _ _ _ _ _ h
    · replace h := (if_neg z).symm.trans h
      refine aw_aload_n (pc := 101) 0 dX12_breaks_101 rfl ?_
      obtain ⟨v4, e, h⟩ := op_bd h
      refine ow_gR (pc := 102) e dX12_breaks_102 fd_X12_45 rfl ?_
      refine aw_aload_n (pc := 105) 0 dX12_breaks_105 rfl ?_
      refine aw_iload_n (pc := 106) 2 dX12_breaks_106 rfl ?_
      obtain ⟨r5, e, h⟩ := op_bd h
      refine ow_cVi (pc := 107) [.int x3] ((c_X12_pipeOf _ _ _ _ e).mono (by decide)) (op_ck_sh e) rfl dX12_breaks_107 cw_X12_396 rfl (Nat.le_of_ble_eq_true rfl) ?_
      obtain ⟨v6, e, h⟩ := op_bd h
      refine ow_aI (pc := 110) e dX12_breaks_110 ?_
      refine aw_aload_n (pc := 111) 0 dX12_breaks_111 rfl ?_
      obtain ⟨v7, e, h⟩ := op_bd h
      refine ow_gR (pc := 112) e dX12_breaks_112 fd_X12_45 rfl ?_
      refine aw_aload_n (pc := 115) 0 dX12_breaks_115 rfl ?_
      refine aw_iload_n (pc := 116) 1 dX12_breaks_116 rfl ?_
      obtain ⟨r8, e, h⟩ := op_bd h
      refine ow_cVi (pc := 117) [.int x1] ((c_X12_pipeOf _ _ _ _ e).mono (by decide)) (op_ck_sh e) rfl dX12_breaks_117 cw_X12_396 rfl (Nat.le_of_ble_eq_true rfl) ?_
      obtain ⟨v9, e, h⟩ := op_bd h
      refine ow_aI (pc := 120) e dX12_breaks_120 ?_
      refine aw_icmp_le (pc := 121) 126 dX12_breaks_121 (by decide) (fun z => ?_) (fun z => ?_)
      · replace h := (if_pos z).symm.trans h
        exact c_X12_breaks_126 K82 hK82 _ _ _ _ _ h
      · replace h := (if_neg z).symm.trans h
        refine aw_iconst (pc := 124) (v := (4 : Int32)) dX12_breaks_124 (by decide) ?_
        exact ow_iret (pc := 125) h dX12_breaks_125 rfl
theorem c_X12_breaks_82 {G : ah_G}   : ∀ (n : Nat) (x0 : Nat) (x1 : Int32) (x3 : Int32) (σ : ah_H) (r : Int32 × ah_H), f_X12_breaks_82   n x0 x1 x3 σ = some r → AW G m_X12_breaks 5 0 0 82 [(0, .ref x0), (1, .int x1), (3, .int x3)] [] σ (ah_N G (ah_ri r)) := by
  intro n
  induction n with
  | zero => intro x0 x1 x3 σ r h; cases h
  | succ n ih => intro x0 x1 x3 σ r h; exact c_X12_breaks_82_b   _ ih x0 x1 x3 σ r h
set_option maxRecDepth 100000 in
set_option maxHeartbeats 4000000 in
theorem c_X12_breaks_0 {G : ah_G}   : ∀ (x0 : Nat) (x1 : Int32) (σ : ah_H) (r : Int32 × ah_H), f_X12_breaks_0   x0 x1 σ = some r → AW G m_X12_breaks 5 0 0 0 [(0, .ref x0), (1, .int x1)] [] σ (ah_N G (ah_ri r)) := by
  intro x0 x1 σ r h
  unfold f_X12_breaks_0 at h
  refine aw_aload_n (pc := 0) 0 dX12_breaks_0 rfl ?_
  refine aw_iload_n (pc := 1) 1 dX12_breaks_1 rfl ?_
  obtain ⟨r1, e, h⟩ := op_bd h
  refine ow_cVi (pc := 2) [.int x1] ((c_X12_streetOf _ _ _ _ e).mono (by decide)) (op_ck_sh e) rfl dX12_breaks_2 cw_X12_374 rfl (Nat.le_of_ble_eq_true rfl) ?_
  refine aw_istore_n (pc := 5) [(2, .int r1.1), (0, .ref x0), (1, .int x1)] dX12_breaks_5 rfl (by decide) rfl ?_
  refine aw_aload_n (pc := 6) 1 dX12_breaks_6 rfl ?_
  refine aw_aload_n (pc := 7) 1 dX12_breaks_7 rfl ?_
  refine aw_iload_n (pc := 8) 2 dX12_breaks_8 rfl ?_
  obtain ⟨r2, e, h⟩ := op_bd h
  refine ow_cVi (pc := 9) [.int x1] ((c_X12_aOf _ _ _ _ e).mono (by decide)) (op_ck_sh e) rfl dX12_breaks_9 cw_X12_386 rfl (Nat.le_of_ble_eq_true rfl) ?_
  obtain ⟨r3, e, h⟩ := op_bd h
  refine ow_cVi (pc := 12) [.int r2.1] ((c_X12_isCovered _ _ _ _ e).mono (by decide)) (op_ck_sh e) rfl dX12_breaks_12 cw_X12_473 rfl (Nat.le_of_ble_eq_true rfl) ?_
  refine aw_if_eq (pc := 15) 30 dX12_breaks_15 (by decide) (fun z => ?_) (fun z => ?_)
  · replace h := (if_pos z).symm.trans h
    refine aw_iconst (pc := 30) (v := (1 : Int32)) dX12_breaks_30 (by decide) ?_
    exact ow_iret (pc := 31) h dX12_breaks_31 rfl
  · replace h := (if_neg z).symm.trans h
    refine aw_aload_n (pc := 18) 1 dX12_breaks_18 rfl ?_
    refine aw_aload_n (pc := 19) 1 dX12_breaks_19 rfl ?_
    refine aw_iload_n (pc := 20) 2 dX12_breaks_20 rfl ?_
    obtain ⟨r4, e, h⟩ := op_bd h
    refine ow_cVi (pc := 21) [.int x1] ((c_X12_bOf _ _ _ _ e).mono (by decide)) (op_ck_sh e) rfl dX12_breaks_21 cw_X12_389 rfl (Nat.le_of_ble_eq_true rfl) ?_
    obtain ⟨r5, e, h⟩ := op_bd h
    refine ow_cVi (pc := 24) [.int r4.1] ((c_X12_isCovered _ _ _ _ e).mono (by decide)) (op_ck_sh e) rfl dX12_breaks_24 cw_X12_473 rfl (Nat.le_of_ble_eq_true rfl) ?_
    refine aw_if_ne (pc := 27) 32 dX12_breaks_27 (by decide) (fun z => ?_) (fun z => ?_)
    · replace h := (if_neg z).symm.trans h
      refine aw_aload_n (pc := 32) 1 dX12_breaks_32 rfl ?_
      refine aw_iload_n (pc := 33) 2 dX12_breaks_33 rfl ?_
      obtain ⟨r6, e, h⟩ := op_bd h
      refine ow_cVi (pc := 34) [.int x1] ((c_X12_fallOf _ _ _ _ e).mono (by decide)) (op_ck_sh e) rfl dX12_breaks_34 cw_X12_399 rfl (Nat.le_of_ble_eq_true rfl) ?_
      refine aw_aload_n (pc := 37) 1 dX12_breaks_37 rfl ?_
      obtain ⟨v7, e, h⟩ := op_bd h
      refine ow_gR (pc := 38) e dX12_breaks_38 fd_X12_36 rfl ?_
      refine aw_iload_n (pc := 41) 0 dX12_breaks_41 rfl ?_
      obtain ⟨v8, e, h⟩ := op_bd h
      refine ow_aI (pc := 42) e dX12_breaks_42 ?_
      refine aw_aload_n (pc := 43) 1 dX12_breaks_43 rfl ?_
      obtain ⟨v9, e, h⟩ := op_bd h
      refine ow_gR (pc := 44) e dX12_breaks_44 fd_X12_15 rfl ?_
      refine aw_bipush (pc := 47) (v := (6 : Int32)) dX12_breaks_47 (by decide) ?_
      obtain ⟨v10, e, h⟩ := op_bd h
      refine ow_aI (pc := 49) e dX12_breaks_49 ?_
      refine aw_imul (pc := 50) dX12_breaks_50 ?_
      refine aw_icmp_ge (pc := 51) 56 dX12_breaks_51 (by decide) (fun z => ?_) (fun z => ?_)
      · replace h := (if_pos z).symm.trans h
        refine aw_aload_n (pc := 56) 1 dX12_breaks_56 rfl ?_
        refine aw_iload_n (pc := 57) 2 dX12_breaks_57 rfl ?_
        obtain ⟨r11, e, h⟩ := op_bd h
        refine ow_cVi (pc := 58) [.int x1] ((c_X12_fallOf _ _ _ _ e).mono (by decide)) (op_ck_sh e) rfl dX12_breaks_58 cw_X12_399 rfl (Nat.le_of_ble_eq_true rfl) ?_
        refine aw_aload_n (pc := 61) 1 dX12_breaks_61 rfl ?_
        obtain ⟨v12, e, h⟩ := op_bd h
        refine ow_gR (pc := 62) e dX12_breaks_62 fd_X12_36 rfl ?_
        refine aw_iload_n (pc := 65) 0 dX12_breaks_65 rfl ?_
        obtain ⟨v13, e, h⟩ := op_bd h
        refine ow_aI (pc := 66) e dX12_breaks_66 ?_
        refine aw_aload_n (pc := 67) 1 dX12_breaks_67 rfl ?_
        obtain ⟨v14, e, h⟩ := op_bd h
        refine ow_gR (pc := 68) e dX12_breaks_68 fd_X12_15 rfl ?_
        refine aw_bipush (pc := 71) (v := (7 : Int32)) dX12_breaks_71 (by decide) ?_
        obtain ⟨v15, e, h⟩ := op_bd h
        refine ow_aI (pc := 73) e dX12_breaks_73 ?_
        refine aw_imul (pc := 74) dX12_breaks_74 ?_
        refine aw_icmp_le (pc := 75) 80 dX12_breaks_75 (by decide) (fun z => ?_) (fun z => ?_)
        · replace h := (if_pos z).symm.trans h
          refine aw_iconst (pc := 80) (v := (0 : Int32)) dX12_breaks_80 (by decide) ?_
          refine aw_istore_n (pc := 81) [(3, .int (0 : Int32)), (2, .int r1.1), (0, .ref x0), (1, .int x1)] dX12_breaks_81 rfl (by decide) rfl ?_
          refine aw_sub [2, 3, 0] rfl ?_
          exact c_X12_breaks_82  _ _ _ _ _ _ h
        · replace h := (if_neg z).symm.trans h
          refine aw_iconst (pc := 78) (v := (3 : Int32)) dX12_breaks_78 (by decide) ?_
          exact ow_iret (pc := 79) h dX12_breaks_79 rfl
      · replace h := (if_neg z).symm.trans h
        refine aw_iconst (pc := 54) (v := (2 : Int32)) dX12_breaks_54 (by decide) ?_
        exact ow_iret (pc := 55) h dX12_breaks_55 rfl
    · replace h := (if_pos z).symm.trans h
      refine aw_iconst (pc := 30) (v := (1 : Int32)) dX12_breaks_30 (by decide) ?_
      exact ow_iret (pc := 31) h dX12_breaks_31 rfl
theorem c_X12_breaks {G : ah_G}   (x0 : Nat) (x1 : Int32) (σ : ah_H) (r : Int32 × ah_H) (h : f_X12_breaks  x0 x1 σ = some r) : AM G m_X12_breaks 5 0 0 [.ref x0, .int x1] σ (ah_ri r) := aw_enter (by decide) (Nat.le_of_ble_eq_true rfl) (c_X12_breaks_0 _ _ _ _ (op_ck_k h))
def f_X12_broken_0   (x0 : Nat) (x1 : Int32) (σ : ah_H) : Option (Int32 × ah_H) :=
  (op_pI 12 0 σ x0 (0 : Int32)).bind fun σ1 => (op_pI 12 42 σ1 x0 (0 : Int32)).bind fun σ2 => (f_X12_isCorner x0 x1 σ2).bind fun r3 => if r3.1 = 0 then (some ((-1 : Int32), r3.2)) else ((f_X12_isLaid x0 x1 r3.2).bind fun r4 => if r4.1 = 0 then (some ((-2 : Int32), r4.2)) else ((f_X12_run x0 (0 : Int32) r4.2).bind fun r5 => (f_X12_breaks x0 x1 r5).bind fun r6 => some (r6.1, r6.2)))
def f_X12_broken  (x0 : Nat) (x1 : Int32) (σ : ah_H) : Option (Int32 × ah_H) := op_ck 12 σ x0 (f_X12_broken_0 x0 x1 σ)
set_option maxRecDepth 100000 in
set_option maxHeartbeats 4000000 in
theorem c_X12_broken_0 {G : ah_G}   : ∀ (x0 : Nat) (x1 : Int32) (σ : ah_H) (r : Int32 × ah_H), f_X12_broken_0   x0 x1 σ = some r → AW G m_X12_broken 7 0 0 0 [(0, .ref x0), (1, .int x1)] [] σ (ah_N G (ah_ri r)) := by
  intro x0 x1 σ r h
  unfold f_X12_broken_0 at h
  refine aw_aload_n (pc := 0) 0 dX12_broken_0 rfl ?_
  refine aw_iconst (pc := 1) (v := (0 : Int32)) dX12_broken_1 (by decide) ?_
  obtain ⟨σ1, e, h⟩ := op_bd h
  refine ow_pI (pc := 2) e dX12_broken_2 fd_X12_153 ?_
  refine aw_aload_n (pc := 5) 0 dX12_broken_5 rfl ?_
  refine aw_iconst (pc := 6) (v := (0 : Int32)) dX12_broken_6 (by decide) ?_
  obtain ⟨σ2, e, h⟩ := op_bd h
  refine ow_pI (pc := 7) e dX12_broken_7 fd_X12_371 ?_
  refine aw_aload_n (pc := 10) 0 dX12_broken_10 rfl ?_
  refine aw_iload_n (pc := 11) 1 dX12_broken_11 rfl ?_
  obtain ⟨r3, e, h⟩ := op_bd h
  refine ow_cVi (pc := 12) [.int x1] ((c_X12_isCorner _ _ _ _ e).mono (by decide)) (op_ck_sh e) rfl dX12_broken_12 cw_X12_327 rfl (Nat.le_of_ble_eq_true rfl) ?_
  refine aw_if_ne (pc := 15) 20 dX12_broken_15 (by decide) (fun z => ?_) (fun z => ?_)
  · replace h := (if_neg z).symm.trans h
    refine aw_aload_n (pc := 20) 0 dX12_broken_20 rfl ?_
    refine aw_iload_n (pc := 21) 1 dX12_broken_21 rfl ?_
    obtain ⟨r4, e, h⟩ := op_bd h
    refine ow_cVi (pc := 22) [.int x1] ((c_X12_isLaid _ _ _ _ e).mono (by decide)) (op_ck_sh e) rfl dX12_broken_22 cw_X12_380 rfl (Nat.le_of_ble_eq_true rfl) ?_
    refine aw_if_ne (pc := 25) 31 dX12_broken_25 (by decide) (fun z => ?_) (fun z => ?_)
    · replace h := (if_neg z).symm.trans h
      refine aw_aload_n (pc := 31) 0 dX12_broken_31 rfl ?_
      refine aw_iconst (pc := 32) (v := (0 : Int32)) dX12_broken_32 (by decide) ?_
      obtain ⟨r5, e, h⟩ := op_bd h
      refine ow_cVv (pc := 33) [.int (0 : Int32)] ((c_X12_run _ _ _ _ e).mono (by decide)) (op_ck_sh e) rfl dX12_broken_33 cw_X12_457 rfl (Nat.le_of_ble_eq_true rfl) ?_
      refine aw_aload_n (pc := 36) 0 dX12_broken_36 rfl ?_
      refine aw_iload_n (pc := 37) 1 dX12_broken_37 rfl ?_
      obtain ⟨r6, e, h⟩ := op_bd h
      refine ow_cVi (pc := 38) [.int x1] ((c_X12_breaks _ _ _ _ e).mono (by decide)) (op_ck_sh e) rfl dX12_broken_38 cw_X12_476 rfl (Nat.le_of_ble_eq_true rfl) ?_
      exact ow_iret (pc := 41) h dX12_broken_41 rfl
    · replace h := (if_pos z).symm.trans h
      refine aw_bipush (pc := 28) (v := (-2 : Int32)) dX12_broken_28 (by decide) ?_
      exact ow_iret (pc := 30) h dX12_broken_30 rfl
  · replace h := (if_pos z).symm.trans h
    refine aw_iconst (pc := 18) (v := (-1 : Int32)) dX12_broken_18 (by decide) ?_
    exact ow_iret (pc := 19) h dX12_broken_19 rfl
theorem c_X12_broken {G : ah_G}   (x0 : Nat) (x1 : Int32) (σ : ah_H) (r : Int32 × ah_H) (h : f_X12_broken  x0 x1 σ = some r) : AM G m_X12_broken 7 0 0 [.ref x0, .int x1] σ (ah_ri r) := aw_enter (by decide) (Nat.le_of_ble_eq_true rfl) (c_X12_broken_0 _ _ _ _ (op_ck_k h))
def f_X12_isJoined_14_b  (K14 : Nat → Int32 → ah_H → Option (Int32 × ah_H)) (x0 : Nat) (x1 : Int32) (σ : ah_H) : Option (Int32 × ah_H) :=
  (op_gR 12 3 σ x0).bind fun v1 => (op_aI σ v1 (0 : Int32)).bind fun v2 => if v2 ≤ x1 then ((op_rz (1 : Int32)).map fun q => (q, σ)) else ((f_X12_comesToRiver x0 x1 σ).bind fun r3 => if r3.1 = 0 then ((op_rz (0 : Int32)).map fun q => (q, r3.2)) else (K14 x0 (x1 + (1 : Int32)) r3.2))
def f_X12_isJoined_14   : Nat → Nat → Int32 → ah_H → Option (Int32 × ah_H)
  | 0, _, _, _ => none
  | n + 1, x0, x1, σ => f_X12_isJoined_14_b (f_X12_isJoined_14 n) x0 x1 σ
def f_X12_isJoined_0   (x0 : Nat) (σ : ah_H) : Option (Int32 × ah_H) :=
  (op_gR 12 3 σ x0).bind fun v1 => (op_aI σ v1 (4 : Int32)).bind fun v2 => if v2 = (-1 : Int32) then ((op_rz (0 : Int32)).map fun q => (q, σ)) else (f_X12_isJoined_14 5000 x0 (0 : Int32) σ)
def f_X12_isJoined  (x0 : Nat) (σ : ah_H) : Option (Int32 × ah_H) := op_ck 12 σ x0 (f_X12_isJoined_0 x0 σ)
set_option maxRecDepth 100000 in
set_option maxHeartbeats 4000000 in
theorem c_X12_isJoined_14_b {G : ah_G}  (K14 : Nat → Int32 → ah_H → Option (Int32 × ah_H)) (hK14 : ∀ (x0 : Nat) (x1 : Int32) (σ : ah_H) (r : Int32 × ah_H), K14 x0 x1 σ = some r → AW G m_X12_isJoined 3 0 0 14 [(0, .ref x0), (1, .int x1)] [] σ (ah_N G (ah_ri r))) : ∀ (x0 : Nat) (x1 : Int32) (σ : ah_H) (r : Int32 × ah_H), f_X12_isJoined_14_b  K14 x0 x1 σ = some r → AW G m_X12_isJoined 3 0 0 14 [(0, .ref x0), (1, .int x1)] [] σ (ah_N G (ah_ri r)) := by
  intro x0 x1 σ r h
  unfold f_X12_isJoined_14_b at h
  refine aw_iload_n (pc := 14) 1 dX12_isJoined_14 rfl ?_
  refine aw_aload_n (pc := 15) 0 dX12_isJoined_15 rfl ?_
  obtain ⟨v1, e, h⟩ := op_bd h
  refine ow_gR (pc := 16) e dX12_isJoined_16 fd_X12_15 rfl ?_
  refine aw_iconst (pc := 19) (v := (0 : Int32)) dX12_isJoined_19 (by decide) ?_
  obtain ⟨v2, e, h⟩ := op_bd h
  refine ow_aI (pc := 20) e dX12_isJoined_20 ?_
  refine aw_icmp_ge (pc := 21) 40 dX12_isJoined_21 (by decide) (fun z => ?_) (fun z => ?_)
  · replace h := (if_pos z).symm.trans h
    refine aw_iconst (pc := 40) (v := (1 : Int32)) dX12_isJoined_40 (by decide) ?_
    exact ow_zret (pc := 41) h dX12_isJoined_41 rfl
  · replace h := (if_neg z).symm.trans h
    refine aw_aload_n (pc := 24) 0 dX12_isJoined_24 rfl ?_
    refine aw_iload_n (pc := 25) 1 dX12_isJoined_25 rfl ?_
    obtain ⟨r3, e, h⟩ := op_bd h
    refine ow_cVi (pc := 26) [.int x1] ((c_X12_comesToRiver _ _ _ _ e).mono (by decide)) (op_ck_sh e) rfl dX12_isJoined_26 cw_X12_479 rfl (Nat.le_of_ble_eq_true rfl) ?_
    refine aw_if_ne (pc := 29) 34 dX12_isJoined_29 (by decide) (fun z => ?_) (fun z => ?_)
    · replace h := (if_neg z).symm.trans h
      refine aw_iinc (pc := 34) 1 [(1, .int (x1 + (1 : Int32))), (0, .ref x0)] (x1 + (1 : Int32)) dX12_isJoined_34 rfl rfl (by decide) rfl ?_
      refine aw_goto (pc := 37) 14 dX12_isJoined_37 (by decide) ?_
      refine aw_sub [1, 0] rfl ?_
      exact hK14 _ _ _ _ h
    · replace h := (if_pos z).symm.trans h
      refine aw_iconst (pc := 32) (v := (0 : Int32)) dX12_isJoined_32 (by decide) ?_
      exact ow_zret (pc := 33) h dX12_isJoined_33 rfl
theorem c_X12_isJoined_14 {G : ah_G}   : ∀ (n : Nat) (x0 : Nat) (x1 : Int32) (σ : ah_H) (r : Int32 × ah_H), f_X12_isJoined_14   n x0 x1 σ = some r → AW G m_X12_isJoined 3 0 0 14 [(0, .ref x0), (1, .int x1)] [] σ (ah_N G (ah_ri r)) := by
  intro n
  induction n with
  | zero => intro x0 x1 σ r h; cases h
  | succ n ih => intro x0 x1 σ r h; exact c_X12_isJoined_14_b   _ ih x0 x1 σ r h
set_option maxRecDepth 100000 in
set_option maxHeartbeats 4000000 in
theorem c_X12_isJoined_0 {G : ah_G}   : ∀ (x0 : Nat) (σ : ah_H) (r : Int32 × ah_H), f_X12_isJoined_0   x0 σ = some r → AW G m_X12_isJoined 3 0 0 0 [(0, .ref x0)] [] σ (ah_N G (ah_ri r)) := by
  intro x0 σ r h
  unfold f_X12_isJoined_0 at h
  refine aw_aload_n (pc := 0) 0 dX12_isJoined_0 rfl ?_
  obtain ⟨v1, e, h⟩ := op_bd h
  refine ow_gR (pc := 1) e dX12_isJoined_1 fd_X12_15 rfl ?_
  refine aw_iconst (pc := 4) (v := (4 : Int32)) dX12_isJoined_4 (by decide) ?_
  obtain ⟨v2, e, h⟩ := op_bd h
  refine ow_aI (pc := 5) e dX12_isJoined_5 ?_
  refine aw_iconst (pc := 6) (v := (-1 : Int32)) dX12_isJoined_6 (by decide) ?_
  refine aw_icmp_ne (pc := 7) 12 dX12_isJoined_7 (by decide) (fun z => ?_) (fun z => ?_)
  · replace h := (if_neg z).symm.trans h
    refine aw_iconst (pc := 12) (v := (0 : Int32)) dX12_isJoined_12 (by decide) ?_
    refine aw_istore_n (pc := 13) [(1, .int (0 : Int32)), (0, .ref x0)] dX12_isJoined_13 rfl (by decide) rfl ?_
    refine aw_sub [1, 0] rfl ?_
    exact c_X12_isJoined_14  _ _ _ _ _ h
  · replace h := (if_pos z).symm.trans h
    refine aw_iconst (pc := 10) (v := (0 : Int32)) dX12_isJoined_10 (by decide) ?_
    exact ow_zret (pc := 11) h dX12_isJoined_11 rfl
theorem c_X12_isJoined {G : ah_G}   (x0 : Nat) (σ : ah_H) (r : Int32 × ah_H) (h : f_X12_isJoined  x0 σ = some r) : AM G m_X12_isJoined 3 0 0 [.ref x0] σ (ah_ri r) := aw_enter (by decide) (Nat.le_of_ble_eq_true rfl) (c_X12_isJoined_0 _ _ _ (op_ck_k h))
def f_X12_judged_74   (x0 : Nat) (x1 : Int32) (x2 : Int32) (σ : ah_H) : Option (Int32 × ah_H) :=
  if x1 = 0 then ((f_X12_breaks x0 x2 σ).bind fun r1 => some (r1.1, r1.2)) else (some (x2, σ))
def f_X12_judged_88  (K46 : Nat → Int32 → Int32 → ah_H → Option (Int32 × ah_H)) (x0 : Nat) (x1 : Int32) (x2 : Int32) (σ : ah_H) : Option (Int32 × ah_H) :=
  K46 x0 x1 (x2 + (1 : Int32)) σ
def f_X12_judged_146   (x1 : Int32) (x2 : Int32) (σ : ah_H) : Option (Int32 × ah_H) :=
  if x1 = 0 then (some ((8 : Int32), σ)) else (some (x2, σ))
def f_X12_judged_157  (K96 : Nat → Int32 → Int32 → ah_H → Option (Int32 × ah_H)) (x0 : Nat) (x1 : Int32) (x2 : Int32) (σ : ah_H) : Option (Int32 × ah_H) :=
  K96 x0 x1 (x2 + (1 : Int32)) σ
def f_X12_judged_163   (x1 : Int32) (σ : ah_H) : Option (Int32 × ah_H) :=
  if x1 = 0 then (some ((0 : Int32), σ)) else (some ((-1 : Int32), σ))
def f_X12_judged_96_b  (K96 : Nat → Int32 → Int32 → ah_H → Option (Int32 × ah_H)) (x0 : Nat) (x1 : Int32) (x2 : Int32) (σ : ah_H) : Option (Int32 × ah_H) :=
  (op_gR 12 3 σ x0).bind fun v1 => (op_aI σ v1 (0 : Int32)).bind fun v2 => if v2 ≤ x2 then (f_X12_judged_163 x1 σ) else ((op_gR 12 3 σ x0).bind fun v3 => (op_aI σ v3 (4 : Int32)).bind fun v4 => (f_X12_runsTo x0 x2 v4 σ).bind fun r5 => if r5.1 = 0 then (f_X12_judged_157 K96 x0 x1 x2 r5.2) else ((op_gR 12 5 r5.2 x0).bind fun v6 => (op_gR 12 3 r5.2 x0).bind fun v7 => (op_aI r5.2 v7 (4 : Int32)).bind fun v8 => (op_aI r5.2 v6 v8).bind fun v9 => (f_X12_bOf x0 x2 r5.2).bind fun r10 => (op_gR 12 3 r10.2 x0).bind fun v11 => (op_aI r10.2 v11 (5 : Int32)).bind fun v12 => if v12 ≤ (v9 - r10.1) then (f_X12_judged_157 K96 x0 x1 x2 r10.2) else (f_X12_judged_146 x1 x2 r10.2)))
def f_X12_judged_96   : Nat → Nat → Int32 → Int32 → ah_H → Option (Int32 × ah_H)
  | 0, _, _, _, _ => none
  | n + 1, x0, x1, x2, σ => f_X12_judged_96_b (f_X12_judged_96 n) x0 x1 x2 σ
def f_X12_judged_94   (x0 : Nat) (x1 : Int32) (σ : ah_H) : Option (Int32 × ah_H) :=
  f_X12_judged_96 5000 x0 x1 (0 : Int32) σ
def f_X12_judged_46_b  (K46 : Nat → Int32 → Int32 → ah_H → Option (Int32 × ah_H)) (x0 : Nat) (x1 : Int32) (x2 : Int32) (σ : ah_H) : Option (Int32 × ah_H) :=
  (op_gR 12 3 σ x0).bind fun v1 => (op_aI σ v1 (0 : Int32)).bind fun v2 => if v2 ≤ x2 then (f_X12_judged_94 x0 x1 σ) else ((op_gR 12 3 σ x0).bind fun v3 => (op_aI σ v3 (4 : Int32)).bind fun v4 => if x2 = v4 then (f_X12_judged_88 K46 x0 x1 x2 σ) else ((f_X12_breaks x0 x2 σ).bind fun r5 => if r5.1 = 0 then (f_X12_judged_88 K46 x0 x1 x2 r5.2) else (f_X12_judged_74 x0 x1 x2 r5.2)))
def f_X12_judged_46   : Nat → Nat → Int32 → Int32 → ah_H → Option (Int32 × ah_H)
  | 0, _, _, _, _ => none
  | n + 1, x0, x1, x2, σ => f_X12_judged_46_b (f_X12_judged_46 n) x0 x1 x2 σ
def f_X12_judged_0   (x0 : Nat) (x1 : Int32) (σ : ah_H) : Option (Int32 × ah_H) :=
  (op_pI 12 0 σ x0 (0 : Int32)).bind fun σ1 => if x1 < 0 then (some ((-1 : Int32), σ1)) else (if x1 ≤ (1 : Int32) then ((op_pI 12 42 σ1 x0 (0 : Int32)).bind fun σ2 => (f_X12_isJoined x0 σ2).bind fun r3 => if r3.1 = 0 then (if x1 = 0 then (some ((7 : Int32), r3.2)) else (some ((-1 : Int32), r3.2))) else ((f_X12_run x0 (0 : Int32) r3.2).bind fun r4 => f_X12_judged_46 5000 x0 x1 (0 : Int32) r4)) else (some ((-1 : Int32), σ1)))
def f_X12_judged  (x0 : Nat) (x1 : Int32) (σ : ah_H) : Option (Int32 × ah_H) := op_ck 12 σ x0 (f_X12_judged_0 x0 x1 σ)
set_option maxRecDepth 100000 in
set_option maxHeartbeats 4000000 in
theorem c_X12_judged_74 {G : ah_G}   : ∀ (x0 : Nat) (x1 : Int32) (x2 : Int32) (σ : ah_H) (r : Int32 × ah_H), f_X12_judged_74   x0 x1 x2 σ = some r → AW G m_X12_judged 7 0 0 74 [(0, .ref x0), (1, .int x1), (2, .int x2)] [] σ (ah_N G (ah_ri r)) := by
  intro x0 x1 x2 σ r h
  unfold f_X12_judged_74 at h
  refine aw_iload_n (pc := 74) 1 dX12_judged_74 rfl ?_
  refine aw_if_ne (pc := 75) 86 dX12_judged_75 (by decide) (fun z => ?_) (fun z => ?_)
  · replace h := (if_neg z).symm.trans h
    refine aw_iload_n (pc := 86) 2 dX12_judged_86 rfl ?_
    exact ow_iret (pc := 87) h dX12_judged_87 rfl
  · replace h := (if_pos z).symm.trans h
    refine aw_aload_n (pc := 78) 0 dX12_judged_78 rfl ?_
    refine aw_iload_n (pc := 79) 2 dX12_judged_79 rfl ?_
    obtain ⟨r1, e, h⟩ := op_bd h
    refine ow_cVi (pc := 80) [.int x2] ((c_X12_breaks _ _ _ _ e).mono (by decide)) (op_ck_sh e) rfl dX12_judged_80 cw_X12_476 rfl (Nat.le_of_ble_eq_true rfl) ?_
    refine aw_goto (pc := 83) 87 dX12_judged_83 (by decide) ?_
    exact ow_iret (pc := 87) h dX12_judged_87 rfl
set_option maxRecDepth 100000 in
set_option maxHeartbeats 4000000 in
theorem c_X12_judged_88 {G : ah_G}  (K46 : Nat → Int32 → Int32 → ah_H → Option (Int32 × ah_H)) (hK46 : ∀ (x0 : Nat) (x1 : Int32) (x2 : Int32) (σ : ah_H) (r : Int32 × ah_H), K46 x0 x1 x2 σ = some r → AW G m_X12_judged 7 0 0 46 [(0, .ref x0), (1, .int x1), (2, .int x2)] [] σ (ah_N G (ah_ri r))) : ∀ (x0 : Nat) (x1 : Int32) (x2 : Int32) (σ : ah_H) (r : Int32 × ah_H), f_X12_judged_88  K46 x0 x1 x2 σ = some r → AW G m_X12_judged 7 0 0 88 [(0, .ref x0), (1, .int x1), (2, .int x2)] [] σ (ah_N G (ah_ri r)) := by
  intro x0 x1 x2 σ r h
  unfold f_X12_judged_88 at h
  refine aw_iinc (pc := 88) 2 [(2, .int (x2 + (1 : Int32))), (0, .ref x0), (1, .int x1)] (x2 + (1 : Int32)) dX12_judged_88 rfl rfl (by decide) rfl ?_
  refine aw_goto (pc := 91) 46 dX12_judged_91 (by decide) ?_
  refine aw_sub [1, 2, 0] rfl ?_
  exact hK46 _ _ _ _ _ h
set_option maxRecDepth 100000 in
set_option maxHeartbeats 4000000 in
theorem c_X12_judged_146 {G : ah_G}   : ∀ (x1 : Int32) (x2 : Int32) (σ : ah_H) (r : Int32 × ah_H), f_X12_judged_146   x1 x2 σ = some r → AW G m_X12_judged 7 0 0 146 [(1, .int x1), (2, .int x2)] [] σ (ah_N G (ah_ri r)) := by
  intro x1 x2 σ r h
  unfold f_X12_judged_146 at h
  refine aw_iload_n (pc := 146) 0 dX12_judged_146 rfl ?_
  refine aw_if_ne (pc := 147) 155 dX12_judged_147 (by decide) (fun z => ?_) (fun z => ?_)
  · replace h := (if_neg z).symm.trans h
    refine aw_iload_n (pc := 155) 1 dX12_judged_155 rfl ?_
    exact ow_iret (pc := 156) h dX12_judged_156 rfl
  · replace h := (if_pos z).symm.trans h
    refine aw_bipush (pc := 150) (v := (8 : Int32)) dX12_judged_150 (by decide) ?_
    refine aw_goto (pc := 152) 156 dX12_judged_152 (by decide) ?_
    exact ow_iret (pc := 156) h dX12_judged_156 rfl
set_option maxRecDepth 100000 in
set_option maxHeartbeats 4000000 in
theorem c_X12_judged_157 {G : ah_G}  (K96 : Nat → Int32 → Int32 → ah_H → Option (Int32 × ah_H)) (hK96 : ∀ (x0 : Nat) (x1 : Int32) (x2 : Int32) (σ : ah_H) (r : Int32 × ah_H), K96 x0 x1 x2 σ = some r → AW G m_X12_judged 7 0 0 96 [(0, .ref x0), (1, .int x1), (2, .int x2)] [] σ (ah_N G (ah_ri r))) : ∀ (x0 : Nat) (x1 : Int32) (x2 : Int32) (σ : ah_H) (r : Int32 × ah_H), f_X12_judged_157  K96 x0 x1 x2 σ = some r → AW G m_X12_judged 7 0 0 157 [(0, .ref x0), (1, .int x1), (2, .int x2)] [] σ (ah_N G (ah_ri r)) := by
  intro x0 x1 x2 σ r h
  unfold f_X12_judged_157 at h
  refine aw_iinc (pc := 157) 2 [(2, .int (x2 + (1 : Int32))), (0, .ref x0), (1, .int x1)] (x2 + (1 : Int32)) dX12_judged_157 rfl rfl (by decide) rfl ?_
  refine aw_goto (pc := 160) 96 dX12_judged_160 (by decide) ?_
  refine aw_sub [1, 2, 0] rfl ?_
  exact hK96 _ _ _ _ _ h
set_option maxRecDepth 100000 in
set_option maxHeartbeats 4000000 in
theorem c_X12_judged_163 {G : ah_G}   : ∀ (x1 : Int32) (σ : ah_H) (r : Int32 × ah_H), f_X12_judged_163   x1 σ = some r → AW G m_X12_judged 7 0 0 163 [(1, .int x1)] [] σ (ah_N G (ah_ri r)) := by
  intro x1 σ r h
  unfold f_X12_judged_163 at h
  refine aw_iload_n (pc := 163) 0 dX12_judged_163 rfl ?_
  refine aw_if_ne (pc := 164) 171 dX12_judged_164 (by decide) (fun z => ?_) (fun z => ?_)
  · replace h := (if_neg z).symm.trans h
    refine aw_iconst (pc := 171) (v := (-1 : Int32)) dX12_judged_171 (by decide) ?_
    exact ow_iret (pc := 172) h dX12_judged_172 rfl
  · replace h := (if_pos z).symm.trans h
    refine aw_iconst (pc := 167) (v := (0 : Int32)) dX12_judged_167 (by decide) ?_
    refine aw_goto (pc := 168) 172 dX12_judged_168 (by decide) ?_
    exact ow_iret (pc := 172) h dX12_judged_172 rfl
set_option maxRecDepth 100000 in
set_option maxHeartbeats 4000000 in
theorem c_X12_judged_96_b {G : ah_G}  (K96 : Nat → Int32 → Int32 → ah_H → Option (Int32 × ah_H)) (hK96 : ∀ (x0 : Nat) (x1 : Int32) (x2 : Int32) (σ : ah_H) (r : Int32 × ah_H), K96 x0 x1 x2 σ = some r → AW G m_X12_judged 7 0 0 96 [(0, .ref x0), (1, .int x1), (2, .int x2)] [] σ (ah_N G (ah_ri r))) : ∀ (x0 : Nat) (x1 : Int32) (x2 : Int32) (σ : ah_H) (r : Int32 × ah_H), f_X12_judged_96_b  K96 x0 x1 x2 σ = some r → AW G m_X12_judged 7 0 0 96 [(0, .ref x0), (1, .int x1), (2, .int x2)] [] σ (ah_N G (ah_ri r)) := by
  intro x0 x1 x2 σ r h
  unfold f_X12_judged_96_b at h
  refine aw_iload_n (pc := 96) 2 dX12_judged_96 rfl ?_
  refine aw_aload_n (pc := 97) 0 dX12_judged_97 rfl ?_
  obtain ⟨v1, e, h⟩ := op_bd h
  refine ow_gR (pc := 98) e dX12_judged_98 fd_X12_15 rfl ?_
  refine aw_iconst (pc := 101) (v := (0 : Int32)) dX12_judged_101 (by decide) ?_
  obtain ⟨v2, e, h⟩ := op_bd h
  refine ow_aI (pc := 102) e dX12_judged_102 ?_
  refine aw_icmp_ge (pc := 103) 163 dX12_judged_103 (by decide) (fun z => ?_) (fun z => ?_)
  · replace h := (if_pos z).symm.trans h
    refine aw_sub [1] rfl ?_
    exact c_X12_judged_163  _ _ _ h
  · replace h := (if_neg z).symm.trans h
    refine aw_aload_n (pc := 106) 0 dX12_judged_106 rfl ?_
    refine aw_iload_n (pc := 107) 2 dX12_judged_107 rfl ?_
    refine aw_aload_n (pc := 108) 0 dX12_judged_108 rfl ?_
    obtain ⟨v3, e, h⟩ := op_bd h
    refine ow_gR (pc := 109) e dX12_judged_109 fd_X12_15 rfl ?_
    refine aw_iconst (pc := 112) (v := (4 : Int32)) dX12_judged_112 (by decide) ?_
    obtain ⟨v4, e, h⟩ := op_bd h
    refine ow_aI (pc := 113) e dX12_judged_113 ?_
    obtain ⟨r5, e, h⟩ := op_bd h
    refine ow_cVi (pc := 114) [.int x2, .int v4] ((c_X12_runsTo _ _ _ _ _ e).mono (by decide)) (op_ck_sh e) rfl dX12_judged_114 cw_X12_416 rfl (Nat.le_of_ble_eq_true rfl) ?_
    refine aw_if_eq (pc := 117) 157 dX12_judged_117 (by decide) (fun z => ?_) (fun z => ?_)
    · replace h := (if_pos z).symm.trans h
      exact c_X12_judged_157 K96 hK96 _ _ _ _ _ h
    · replace h := (if_neg z).symm.trans h
      refine aw_aload_n (pc := 120) 0 dX12_judged_120 rfl ?_
      obtain ⟨v6, e, h⟩ := op_bd h
      refine ow_gR (pc := 121) e dX12_judged_121 fd_X12_21 rfl ?_
      refine aw_aload_n (pc := 124) 0 dX12_judged_124 rfl ?_
      obtain ⟨v7, e, h⟩ := op_bd h
      refine ow_gR (pc := 125) e dX12_judged_125 fd_X12_15 rfl ?_
      refine aw_iconst (pc := 128) (v := (4 : Int32)) dX12_judged_128 (by decide) ?_
      obtain ⟨v8, e, h⟩ := op_bd h
      refine ow_aI (pc := 129) e dX12_judged_129 ?_
      obtain ⟨v9, e, h⟩ := op_bd h
      refine ow_aI (pc := 130) e dX12_judged_130 ?_
      refine aw_aload_n (pc := 131) 0 dX12_judged_131 rfl ?_
      refine aw_iload_n (pc := 132) 2 dX12_judged_132 rfl ?_
      obtain ⟨r10, e, h⟩ := op_bd h
      refine ow_cVi (pc := 133) [.int x2] ((c_X12_bOf _ _ _ _ e).mono (by decide)) (op_ck_sh e) rfl dX12_judged_133 cw_X12_389 rfl (Nat.le_of_ble_eq_true rfl) ?_
      refine aw_isub (pc := 136) dX12_judged_136 ?_
      refine aw_aload_n (pc := 137) 0 dX12_judged_137 rfl ?_
      obtain ⟨v11, e, h⟩ := op_bd h
      refine ow_gR (pc := 138) e dX12_judged_138 fd_X12_15 rfl ?_
      refine aw_iconst (pc := 141) (v := (5 : Int32)) dX12_judged_141 (by decide) ?_
      obtain ⟨v12, e, h⟩ := op_bd h
      refine ow_aI (pc := 142) e dX12_judged_142 ?_
      refine aw_icmp_ge (pc := 143) 157 dX12_judged_143 (by decide) (fun z => ?_) (fun z => ?_)
      · replace h := (if_pos z).symm.trans h
        exact c_X12_judged_157 K96 hK96 _ _ _ _ _ h
      · replace h := (if_neg z).symm.trans h
        refine aw_sub [1, 2] rfl ?_
        exact c_X12_judged_146  _ _ _ _ h
theorem c_X12_judged_96 {G : ah_G}   : ∀ (n : Nat) (x0 : Nat) (x1 : Int32) (x2 : Int32) (σ : ah_H) (r : Int32 × ah_H), f_X12_judged_96   n x0 x1 x2 σ = some r → AW G m_X12_judged 7 0 0 96 [(0, .ref x0), (1, .int x1), (2, .int x2)] [] σ (ah_N G (ah_ri r)) := by
  intro n
  induction n with
  | zero => intro x0 x1 x2 σ r h; cases h
  | succ n ih => intro x0 x1 x2 σ r h; exact c_X12_judged_96_b   _ ih x0 x1 x2 σ r h
set_option maxRecDepth 100000 in
set_option maxHeartbeats 4000000 in
theorem c_X12_judged_94 {G : ah_G}   : ∀ (x0 : Nat) (x1 : Int32) (σ : ah_H) (r : Int32 × ah_H), f_X12_judged_94   x0 x1 σ = some r → AW G m_X12_judged 7 0 0 94 [(0, .ref x0), (1, .int x1)] [] σ (ah_N G (ah_ri r)) := by
  intro x0 x1 σ r h
  unfold f_X12_judged_94 at h
  refine aw_iconst (pc := 94) (v := (0 : Int32)) dX12_judged_94 (by decide) ?_
  refine aw_istore_n (pc := 95) [(2, .int (0 : Int32)), (0, .ref x0), (1, .int x1)] dX12_judged_95 rfl (by decide) rfl ?_
  refine aw_sub [1, 2, 0] rfl ?_
  exact c_X12_judged_96  _ _ _ _ _ _ h
set_option maxRecDepth 100000 in
set_option maxHeartbeats 4000000 in
theorem c_X12_judged_46_b {G : ah_G}  (K46 : Nat → Int32 → Int32 → ah_H → Option (Int32 × ah_H)) (hK46 : ∀ (x0 : Nat) (x1 : Int32) (x2 : Int32) (σ : ah_H) (r : Int32 × ah_H), K46 x0 x1 x2 σ = some r → AW G m_X12_judged 7 0 0 46 [(0, .ref x0), (1, .int x1), (2, .int x2)] [] σ (ah_N G (ah_ri r))) : ∀ (x0 : Nat) (x1 : Int32) (x2 : Int32) (σ : ah_H) (r : Int32 × ah_H), f_X12_judged_46_b  K46 x0 x1 x2 σ = some r → AW G m_X12_judged 7 0 0 46 [(0, .ref x0), (1, .int x1), (2, .int x2)] [] σ (ah_N G (ah_ri r)) := by
  intro x0 x1 x2 σ r h
  unfold f_X12_judged_46_b at h
  refine aw_iload_n (pc := 46) 2 dX12_judged_46 rfl ?_
  refine aw_aload_n (pc := 47) 0 dX12_judged_47 rfl ?_
  obtain ⟨v1, e, h⟩ := op_bd h
  refine ow_gR (pc := 48) e dX12_judged_48 fd_X12_15 rfl ?_
  refine aw_iconst (pc := 51) (v := (0 : Int32)) dX12_judged_51 (by decide) ?_
  obtain ⟨v2, e, h⟩ := op_bd h
  refine ow_aI (pc := 52) e dX12_judged_52 ?_
  refine aw_icmp_ge (pc := 53) 94 dX12_judged_53 (by decide) (fun z => ?_) (fun z => ?_)
  · replace h := (if_pos z).symm.trans h
    refine aw_sub [0, 1] rfl ?_
    exact c_X12_judged_94  _ _ _ _ h
  · replace h := (if_neg z).symm.trans h
    refine aw_iload_n (pc := 56) 2 dX12_judged_56 rfl ?_
    refine aw_aload_n (pc := 57) 0 dX12_judged_57 rfl ?_
    obtain ⟨v3, e, h⟩ := op_bd h
    refine ow_gR (pc := 58) e dX12_judged_58 fd_X12_15 rfl ?_
    refine aw_iconst (pc := 61) (v := (4 : Int32)) dX12_judged_61 (by decide) ?_
    obtain ⟨v4, e, h⟩ := op_bd h
    refine ow_aI (pc := 62) e dX12_judged_62 ?_
    refine aw_icmp_eq (pc := 63) 88 dX12_judged_63 (by decide) (fun z => ?_) (fun z => ?_)
    · replace h := (if_pos z).symm.trans h
      exact c_X12_judged_88 K46 hK46 _ _ _ _ _ h
    · replace h := (if_neg z).symm.trans h
      refine aw_aload_n (pc := 66) 0 dX12_judged_66 rfl ?_
      refine aw_iload_n (pc := 67) 2 dX12_judged_67 rfl ?_
      obtain ⟨r5, e, h⟩ := op_bd h
      refine ow_cVi (pc := 68) [.int x2] ((c_X12_breaks _ _ _ _ e).mono (by decide)) (op_ck_sh e) rfl dX12_judged_68 cw_X12_476 rfl (Nat.le_of_ble_eq_true rfl) ?_
      refine aw_if_eq (pc := 71) 88 dX12_judged_71 (by decide) (fun z => ?_) (fun z => ?_)
      · replace h := (if_pos z).symm.trans h
        exact c_X12_judged_88 K46 hK46 _ _ _ _ _ h
      · replace h := (if_neg z).symm.trans h
        exact c_X12_judged_74  _ _ _ _ _ h
theorem c_X12_judged_46 {G : ah_G}   : ∀ (n : Nat) (x0 : Nat) (x1 : Int32) (x2 : Int32) (σ : ah_H) (r : Int32 × ah_H), f_X12_judged_46   n x0 x1 x2 σ = some r → AW G m_X12_judged 7 0 0 46 [(0, .ref x0), (1, .int x1), (2, .int x2)] [] σ (ah_N G (ah_ri r)) := by
  intro n
  induction n with
  | zero => intro x0 x1 x2 σ r h; cases h
  | succ n ih => intro x0 x1 x2 σ r h; exact c_X12_judged_46_b   _ ih x0 x1 x2 σ r h
set_option maxRecDepth 100000 in
set_option maxHeartbeats 4000000 in
theorem c_X12_judged_0 {G : ah_G}   : ∀ (x0 : Nat) (x1 : Int32) (σ : ah_H) (r : Int32 × ah_H), f_X12_judged_0   x0 x1 σ = some r → AW G m_X12_judged 7 0 0 0 [(0, .ref x0), (1, .int x1)] [] σ (ah_N G (ah_ri r)) := by
  intro x0 x1 σ r h
  unfold f_X12_judged_0 at h
  refine aw_aload_n (pc := 0) 0 dX12_judged_0 rfl ?_
  refine aw_iconst (pc := 1) (v := (0 : Int32)) dX12_judged_1 (by decide) ?_
  obtain ⟨σ1, e, h⟩ := op_bd h
  refine ow_pI (pc := 2) e dX12_judged_2 fd_X12_153 ?_
  refine aw_iload_n (pc := 5) 1 dX12_judged_5 rfl ?_
  refine aw_if_lt (pc := 6) 14 dX12_judged_6 (by decide) (fun z => ?_) (fun z => ?_)
  · replace h := (if_pos z).symm.trans h
    refine aw_iconst (pc := 14) (v := (-1 : Int32)) dX12_judged_14 (by decide) ?_
    exact ow_iret (pc := 15) h dX12_judged_15 rfl
  · replace h := (if_neg z).symm.trans h
    refine aw_iload_n (pc := 9) 1 dX12_judged_9 rfl ?_
    refine aw_iconst (pc := 10) (v := (1 : Int32)) dX12_judged_10 (by decide) ?_
    refine aw_icmp_le (pc := 11) 16 dX12_judged_11 (by decide) (fun z => ?_) (fun z => ?_)
    · replace h := (if_pos z).symm.trans h
      refine aw_aload_n (pc := 16) 0 dX12_judged_16 rfl ?_
      refine aw_iconst (pc := 17) (v := (0 : Int32)) dX12_judged_17 (by decide) ?_
      obtain ⟨σ2, e, h⟩ := op_bd h
      refine ow_pI (pc := 18) e dX12_judged_18 fd_X12_371 ?_
      refine aw_aload_n (pc := 21) 0 dX12_judged_21 rfl ?_
      obtain ⟨r3, e, h⟩ := op_bd h
      refine ow_cVi (pc := 22) [] ((c_X12_isJoined _ _ _ e).mono (by decide)) (op_ck_sh e) rfl dX12_judged_22 cw_X12_482 rfl (Nat.le_of_ble_eq_true rfl) ?_
      refine aw_if_ne (pc := 25) 39 dX12_judged_25 (by decide) (fun z => ?_) (fun z => ?_)
      · replace h := (if_neg z).symm.trans h
        refine aw_aload_n (pc := 39) 0 dX12_judged_39 rfl ?_
        refine aw_iconst (pc := 40) (v := (0 : Int32)) dX12_judged_40 (by decide) ?_
        obtain ⟨r4, e, h⟩ := op_bd h
        refine ow_cVv (pc := 41) [.int (0 : Int32)] ((c_X12_run _ _ _ _ e).mono (by decide)) (op_ck_sh e) rfl dX12_judged_41 cw_X12_457 rfl (Nat.le_of_ble_eq_true rfl) ?_
        refine aw_iconst (pc := 44) (v := (0 : Int32)) dX12_judged_44 (by decide) ?_
        refine aw_istore_n (pc := 45) [(2, .int (0 : Int32)), (0, .ref x0), (1, .int x1)] dX12_judged_45 rfl (by decide) rfl ?_
        refine aw_sub [1, 2, 0] rfl ?_
        exact c_X12_judged_46  _ _ _ _ _ _ h
      · replace h := (if_pos z).symm.trans h
        refine aw_iload_n (pc := 28) 1 dX12_judged_28 rfl ?_
        refine aw_if_ne (pc := 29) 37 dX12_judged_29 (by decide) (fun z => ?_) (fun z => ?_)
        · replace h := (if_neg z).symm.trans h
          refine aw_iconst (pc := 37) (v := (-1 : Int32)) dX12_judged_37 (by decide) ?_
          exact ow_iret (pc := 38) h dX12_judged_38 rfl
        · replace h := (if_pos z).symm.trans h
          refine aw_bipush (pc := 32) (v := (7 : Int32)) dX12_judged_32 (by decide) ?_
          refine aw_goto (pc := 34) 38 dX12_judged_34 (by decide) ?_
          exact ow_iret (pc := 38) h dX12_judged_38 rfl
    · replace h := (if_neg z).symm.trans h
      refine aw_iconst (pc := 14) (v := (-1 : Int32)) dX12_judged_14 (by decide) ?_
      exact ow_iret (pc := 15) h dX12_judged_15 rfl
theorem c_X12_judged {G : ah_G}   (x0 : Nat) (x1 : Int32) (σ : ah_H) (r : Int32 × ah_H) (h : f_X12_judged  x0 x1 σ = some r) : AM G m_X12_judged 7 0 0 [.ref x0, .int x1] σ (ah_ri r) := aw_enter (by decide) (Nat.le_of_ble_eq_true rfl) (c_X12_judged_0 _ _ _ _ (op_ck_k h))
def f_X12_isHour_0   (x0 : Int32) (σ : ah_H) : Option (Int32 × ah_H) :=
  if x0 < 0 then ((op_rz (0 : Int32)).map fun q => (q, σ)) else (if (30 : Int32) ≤ x0 then ((op_rz (0 : Int32)).map fun q => (q, σ)) else ((op_rz (1 : Int32)).map fun q => (q, σ)))
def f_X12_isHour  (x0 : Int32) (σ : ah_H) : Option (Int32 × ah_H) := f_X12_isHour_0 x0 σ
set_option maxRecDepth 100000 in
set_option maxHeartbeats 4000000 in
theorem c_X12_isHour_0 {G : ah_G}   : ∀ (x0 : Int32) (σ : ah_H) (r : Int32 × ah_H), f_X12_isHour_0   x0 σ = some r → AW G m_X12_isHour 0 0 0 0 [(0, .int x0)] [] σ (ah_N G (ah_ri r)) := by
  intro x0 σ r h
  unfold f_X12_isHour_0 at h
  refine aw_iload_n (pc := 0) 0 dX12_isHour_0 rfl ?_
  refine aw_if_lt (pc := 1) 14 dX12_isHour_1 (by decide) (fun z => ?_) (fun z => ?_)
  · replace h := (if_pos z).symm.trans h
    refine aw_iconst (pc := 14) (v := (0 : Int32)) dX12_isHour_14 (by decide) ?_
    exact ow_zret (pc := 15) h dX12_isHour_15 rfl
  · replace h := (if_neg z).symm.trans h
    refine aw_iload_n (pc := 4) 0 dX12_isHour_4 rfl ?_
    refine aw_bipush (pc := 5) (v := (30 : Int32)) dX12_isHour_5 (by decide) ?_
    refine aw_icmp_ge (pc := 7) 14 dX12_isHour_7 (by decide) (fun z => ?_) (fun z => ?_)
    · replace h := (if_pos z).symm.trans h
      refine aw_iconst (pc := 14) (v := (0 : Int32)) dX12_isHour_14 (by decide) ?_
      exact ow_zret (pc := 15) h dX12_isHour_15 rfl
    · replace h := (if_neg z).symm.trans h
      refine aw_iconst (pc := 10) (v := (1 : Int32)) dX12_isHour_10 (by decide) ?_
      refine aw_goto (pc := 11) 15 dX12_isHour_11 (by decide) ?_
      exact ow_zret (pc := 15) h dX12_isHour_15 rfl
theorem c_X12_isHour {G : ah_G}   (x0 : Int32) (σ : ah_H) (r : Int32 × ah_H) (h : f_X12_isHour  x0 σ = some r) : AM G m_X12_isHour 0 0 0 [.int x0] σ (ah_ri r) := aw_enter (by decide) (Nat.le_of_ble_eq_true rfl) (c_X12_isHour_0 _ _ _ h)
def f_X12_flow_0   (x0 : Nat) (x1 : Int32) (x2 : Int32) (x3 : Int32) (σ : ah_H) : Option (Int64 × ah_H) :=
  (op_pI 12 0 σ x0 (0 : Int32)).bind fun σ1 => (f_X12_isThere x0 x1 σ1).bind fun r2 => if r2.1 = 0 then (some ((-1 : Int64), r2.2)) else ((f_X12_isRain x0 x2 r2.2).bind fun r3 => if r3.1 = 0 then (some ((-1 : Int64), r3.2)) else ((f_X12_isHour x3 r3.2).bind fun r4 => if r4.1 = 0 then (some ((-1 : Int64), r4.2)) else ((f_X12_run x0 (0 : Int32) r4.2).bind fun r5 => (op_gR 12 43 r5 x0).bind fun v6 => (f_X12_atFlow x1 x2 x3 r5).bind fun r7 => (op_aL r7.2 v6 r7.1).bind fun v8 => some (v8, r7.2))))
def f_X12_flow  (x0 : Nat) (x1 : Int32) (x2 : Int32) (x3 : Int32) (σ : ah_H) : Option (Int64 × ah_H) := op_ck 12 σ x0 (f_X12_flow_0 x0 x1 x2 x3 σ)
set_option maxRecDepth 100000 in
set_option maxHeartbeats 4000000 in
theorem c_X12_flow_0 {G : ah_G}   : ∀ (x0 : Nat) (x1 : Int32) (x2 : Int32) (x3 : Int32) (σ : ah_H) (r : Int64 × ah_H), f_X12_flow_0   x0 x1 x2 x3 σ = some r → AW G m_X12_flow 7 0 0 0 [(0, .ref x0), (1, .int x1), (2, .int x2), (3, .int x3)] [] σ (ah_N G (ah_rl r)) := by
  intro x0 x1 x2 x3 σ r h
  unfold f_X12_flow_0 at h
  refine aw_aload_n (pc := 0) 0 dX12_flow_0 rfl ?_
  refine aw_iconst (pc := 1) (v := (0 : Int32)) dX12_flow_1 (by decide) ?_
  obtain ⟨σ1, e, h⟩ := op_bd h
  refine ow_pI (pc := 2) e dX12_flow_2 fd_X12_153 ?_
  refine aw_aload_n (pc := 5) 0 dX12_flow_5 rfl ?_
  refine aw_iload_n (pc := 6) 1 dX12_flow_6 rfl ?_
  obtain ⟨r2, e, h⟩ := op_bd h
  refine ow_cVi (pc := 7) [.int x1] ((c_X12_isThere _ _ _ _ e).mono (by decide)) (op_ck_sh e) rfl dX12_flow_7 cw_X12_450 rfl (Nat.le_of_ble_eq_true rfl) ?_
  refine aw_if_eq (pc := 10) 28 dX12_flow_10 (by decide) (fun z => ?_) (fun z => ?_)
  · replace h := (if_pos z).symm.trans h
    refine aw_ldc2 (pc := 28) dX12_flow_28 kl_X12_432 ?_
    exact ow_lret (pc := 31) h dX12_flow_31 rfl
  · replace h := (if_neg z).symm.trans h
    refine aw_aload_n (pc := 13) 0 dX12_flow_13 rfl ?_
    refine aw_iload_n (pc := 14) 2 dX12_flow_14 rfl ?_
    obtain ⟨r3, e, h⟩ := op_bd h
    refine ow_cVi (pc := 15) [.int x2] ((c_X12_isRain _ _ _ _ e).mono (by decide)) (op_ck_sh e) rfl dX12_flow_15 cw_X12_486 rfl (Nat.le_of_ble_eq_true rfl) ?_
    refine aw_if_eq (pc := 18) 28 dX12_flow_18 (by decide) (fun z => ?_) (fun z => ?_)
    · replace h := (if_pos z).symm.trans h
      refine aw_ldc2 (pc := 28) dX12_flow_28 kl_X12_432 ?_
      exact ow_lret (pc := 31) h dX12_flow_31 rfl
    · replace h := (if_neg z).symm.trans h
      refine aw_iload_n (pc := 21) 3 dX12_flow_21 rfl ?_
      obtain ⟨r4, e, h⟩ := op_bd h
      refine ow_cSi (pc := 22) [.int x3] ((c_X12_isHour _ _ _ e).mono (by decide)) rfl dX12_flow_22 cw_X12_489 rfl (Nat.le_of_ble_eq_true rfl) ?_
      refine aw_if_ne (pc := 25) 32 dX12_flow_25 (by decide) (fun z => ?_) (fun z => ?_)
      · replace h := (if_neg z).symm.trans h
        refine aw_aload_n (pc := 32) 0 dX12_flow_32 rfl ?_
        refine aw_iconst (pc := 33) (v := (0 : Int32)) dX12_flow_33 (by decide) ?_
        obtain ⟨r5, e, h⟩ := op_bd h
        refine ow_cVv (pc := 34) [.int (0 : Int32)] ((c_X12_run _ _ _ _ e).mono (by decide)) (op_ck_sh e) rfl dX12_flow_34 cw_X12_457 rfl (Nat.le_of_ble_eq_true rfl) ?_
        refine aw_aload_n (pc := 37) 0 dX12_flow_37 rfl ?_
        obtain ⟨v6, e, h⟩ := op_bd h
        refine ow_gR (pc := 38) e dX12_flow_38 fd_X12_95 rfl ?_
        refine aw_iload_n (pc := 41) 1 dX12_flow_41 rfl ?_
        refine aw_iload_n (pc := 42) 2 dX12_flow_42 rfl ?_
        refine aw_iload_n (pc := 43) 3 dX12_flow_43 rfl ?_
        obtain ⟨r7, e, h⟩ := op_bd h
        refine ow_cSi (pc := 44) [.int x1, .int x2, .int x3] ((c_X12_atFlow _ _ _ _ _ e).mono (by decide)) rfl dX12_flow_44 cw_X12_425 rfl (Nat.le_of_ble_eq_true rfl) ?_
        obtain ⟨v8, e, h⟩ := op_bd h
        refine ow_aL (pc := 47) e dX12_flow_47 ?_
        exact ow_lret (pc := 48) h dX12_flow_48 rfl
      · replace h := (if_pos z).symm.trans h
        refine aw_ldc2 (pc := 28) dX12_flow_28 kl_X12_432 ?_
        exact ow_lret (pc := 31) h dX12_flow_31 rfl
theorem c_X12_flow {G : ah_G}   (x0 : Nat) (x1 : Int32) (x2 : Int32) (x3 : Int32) (σ : ah_H) (r : Int64 × ah_H) (h : f_X12_flow  x0 x1 x2 x3 σ = some r) : AM G m_X12_flow 7 0 0 [.ref x0, .int x1, .int x2, .int x3] σ (ah_rl r) := aw_enter (by decide) (Nat.le_of_ble_eq_true rfl) (c_X12_flow_0 _ _ _ _ _ _ (op_ck_k h))
def f_X12_flooded_0   (x0 : Nat) (x1 : Int32) (x2 : Int32) (x3 : Int32) (σ : ah_H) : Option (Int64 × ah_H) :=
  (op_pI 12 0 σ x0 (0 : Int32)).bind fun σ1 => (f_X12_isThere x0 x1 σ1).bind fun r2 => if r2.1 = 0 then (some ((-1 : Int64), r2.2)) else ((f_X12_isRain x0 x2 r2.2).bind fun r3 => if r3.1 = 0 then (some ((-1 : Int64), r3.2)) else ((f_X12_isHour x3 r3.2).bind fun r4 => if r4.1 = 0 then (some ((-1 : Int64), r4.2)) else ((f_X12_run x0 (1 : Int32) r4.2).bind fun r5 => (op_gR 12 44 r5 x0).bind fun v6 => (f_X12_atFlow x1 x2 x3 r5).bind fun r7 => (op_aL r7.2 v6 r7.1).bind fun v8 => some (v8, r7.2))))
def f_X12_flooded  (x0 : Nat) (x1 : Int32) (x2 : Int32) (x3 : Int32) (σ : ah_H) : Option (Int64 × ah_H) := op_ck 12 σ x0 (f_X12_flooded_0 x0 x1 x2 x3 σ)
set_option maxRecDepth 100000 in
set_option maxHeartbeats 4000000 in
theorem c_X12_flooded_0 {G : ah_G}   : ∀ (x0 : Nat) (x1 : Int32) (x2 : Int32) (x3 : Int32) (σ : ah_H) (r : Int64 × ah_H), f_X12_flooded_0   x0 x1 x2 x3 σ = some r → AW G m_X12_flooded 7 0 0 0 [(0, .ref x0), (1, .int x1), (2, .int x2), (3, .int x3)] [] σ (ah_N G (ah_rl r)) := by
  intro x0 x1 x2 x3 σ r h
  unfold f_X12_flooded_0 at h
  refine aw_aload_n (pc := 0) 0 dX12_flooded_0 rfl ?_
  refine aw_iconst (pc := 1) (v := (0 : Int32)) dX12_flooded_1 (by decide) ?_
  obtain ⟨σ1, e, h⟩ := op_bd h
  refine ow_pI (pc := 2) e dX12_flooded_2 fd_X12_153 ?_
  refine aw_aload_n (pc := 5) 0 dX12_flooded_5 rfl ?_
  refine aw_iload_n (pc := 6) 1 dX12_flooded_6 rfl ?_
  obtain ⟨r2, e, h⟩ := op_bd h
  refine ow_cVi (pc := 7) [.int x1] ((c_X12_isThere _ _ _ _ e).mono (by decide)) (op_ck_sh e) rfl dX12_flooded_7 cw_X12_450 rfl (Nat.le_of_ble_eq_true rfl) ?_
  refine aw_if_eq (pc := 10) 28 dX12_flooded_10 (by decide) (fun z => ?_) (fun z => ?_)
  · replace h := (if_pos z).symm.trans h
    refine aw_ldc2 (pc := 28) dX12_flooded_28 kl_X12_432 ?_
    exact ow_lret (pc := 31) h dX12_flooded_31 rfl
  · replace h := (if_neg z).symm.trans h
    refine aw_aload_n (pc := 13) 0 dX12_flooded_13 rfl ?_
    refine aw_iload_n (pc := 14) 2 dX12_flooded_14 rfl ?_
    obtain ⟨r3, e, h⟩ := op_bd h
    refine ow_cVi (pc := 15) [.int x2] ((c_X12_isRain _ _ _ _ e).mono (by decide)) (op_ck_sh e) rfl dX12_flooded_15 cw_X12_486 rfl (Nat.le_of_ble_eq_true rfl) ?_
    refine aw_if_eq (pc := 18) 28 dX12_flooded_18 (by decide) (fun z => ?_) (fun z => ?_)
    · replace h := (if_pos z).symm.trans h
      refine aw_ldc2 (pc := 28) dX12_flooded_28 kl_X12_432 ?_
      exact ow_lret (pc := 31) h dX12_flooded_31 rfl
    · replace h := (if_neg z).symm.trans h
      refine aw_iload_n (pc := 21) 3 dX12_flooded_21 rfl ?_
      obtain ⟨r4, e, h⟩ := op_bd h
      refine ow_cSi (pc := 22) [.int x3] ((c_X12_isHour _ _ _ e).mono (by decide)) rfl dX12_flooded_22 cw_X12_489 rfl (Nat.le_of_ble_eq_true rfl) ?_
      refine aw_if_ne (pc := 25) 32 dX12_flooded_25 (by decide) (fun z => ?_) (fun z => ?_)
      · replace h := (if_neg z).symm.trans h
        refine aw_aload_n (pc := 32) 0 dX12_flooded_32 rfl ?_
        refine aw_iconst (pc := 33) (v := (1 : Int32)) dX12_flooded_33 (by decide) ?_
        obtain ⟨r5, e, h⟩ := op_bd h
        refine ow_cVv (pc := 34) [.int (1 : Int32)] ((c_X12_run _ _ _ _ e).mono (by decide)) (op_ck_sh e) rfl dX12_flooded_34 cw_X12_457 rfl (Nat.le_of_ble_eq_true rfl) ?_
        refine aw_aload_n (pc := 37) 0 dX12_flooded_37 rfl ?_
        obtain ⟨v6, e, h⟩ := op_bd h
        refine ow_gR (pc := 38) e dX12_flooded_38 fd_X12_98 rfl ?_
        refine aw_iload_n (pc := 41) 1 dX12_flooded_41 rfl ?_
        refine aw_iload_n (pc := 42) 2 dX12_flooded_42 rfl ?_
        refine aw_iload_n (pc := 43) 3 dX12_flooded_43 rfl ?_
        obtain ⟨r7, e, h⟩ := op_bd h
        refine ow_cSi (pc := 44) [.int x1, .int x2, .int x3] ((c_X12_atFlow _ _ _ _ _ e).mono (by decide)) rfl dX12_flooded_44 cw_X12_425 rfl (Nat.le_of_ble_eq_true rfl) ?_
        obtain ⟨v8, e, h⟩ := op_bd h
        refine ow_aL (pc := 47) e dX12_flooded_47 ?_
        exact ow_lret (pc := 48) h dX12_flooded_48 rfl
      · replace h := (if_pos z).symm.trans h
        refine aw_ldc2 (pc := 28) dX12_flooded_28 kl_X12_432 ?_
        exact ow_lret (pc := 31) h dX12_flooded_31 rfl
theorem c_X12_flooded {G : ah_G}   (x0 : Nat) (x1 : Int32) (x2 : Int32) (x3 : Int32) (σ : ah_H) (r : Int64 × ah_H) (h : f_X12_flooded  x0 x1 x2 x3 σ = some r) : AM G m_X12_flooded 7 0 0 [.ref x0, .int x1, .int x2, .int x3] σ (ah_rl r) := aw_enter (by decide) (Nat.le_of_ble_eq_true rfl) (c_X12_flooded_0 _ _ _ _ _ _ (op_ck_k h))
def f_X12_floods_75  (K32 : Nat → Int32 → Int64 → Int32 → ah_H → Option (Int64 × ah_H)) (x0 : Nat) (x1 : Int32) (x2 : Int64) (x4 : Int32) (σ : ah_H) : Option (Int64 × ah_H) :=
  K32 x0 x1 x2 (x4 + (1 : Int32)) σ
def f_X12_floods_46_b  (K32 : Nat → Int32 → Int64 → Int32 → ah_H → Option (Int64 × ah_H)) (K46 : Nat → Int32 → Int64 → Int32 → Int32 → ah_H → Option (Int64 × ah_H)) (x0 : Nat) (x1 : Int32) (x2 : Int64) (x4 : Int32) (x5 : Int32) (σ : ah_H) : Option (Int64 × ah_H) :=
  if (30 : Int32) ≤ x5 then (f_X12_floods_75 K32 x0 x1 x2 x4 σ) else ((op_gR 12 44 σ x0).bind fun v1 => (f_X12_atFlow x4 x1 x5 σ).bind fun r2 => (op_aL r2.2 v1 r2.1).bind fun v3 => K46 x0 x1 (x2 + v3) x4 (x5 + (1 : Int32)) r2.2)
def f_X12_floods_46  (K32 : Nat → Int32 → Int64 → Int32 → ah_H → Option (Int64 × ah_H)) : Nat → Nat → Int32 → Int64 → Int32 → Int32 → ah_H → Option (Int64 × ah_H)
  | 0, _, _, _, _, _, _ => none
  | n + 1, x0, x1, x2, x4, x5, σ => f_X12_floods_46_b K32 (f_X12_floods_46 K32 n) x0 x1 x2 x4 x5 σ
def f_X12_floods_32_b  (K32 : Nat → Int32 → Int64 → Int32 → ah_H → Option (Int64 × ah_H)) (x0 : Nat) (x1 : Int32) (x2 : Int64) (x4 : Int32) (σ : ah_H) : Option (Int64 × ah_H) :=
  (op_gR 12 3 σ x0).bind fun v1 => (op_aI σ v1 (0 : Int32)).bind fun v2 => if v2 ≤ x4 then (some (x2, σ)) else (f_X12_floods_46 K32 5000 x0 x1 x2 x4 (0 : Int32) σ)
def f_X12_floods_32   : Nat → Nat → Int32 → Int64 → Int32 → ah_H → Option (Int64 × ah_H)
  | 0, _, _, _, _, _ => none
  | n + 1, x0, x1, x2, x4, σ => f_X12_floods_32_b (f_X12_floods_32 n) x0 x1 x2 x4 σ
def f_X12_floods_0   (x0 : Nat) (x1 : Int32) (σ : ah_H) : Option (Int64 × ah_H) :=
  (op_pI 12 0 σ x0 (0 : Int32)).bind fun σ1 => (f_X12_isRain x0 x1 σ1).bind fun r2 => if r2.1 = 0 then (some ((-1 : Int64), r2.2)) else ((op_pI 12 42 r2.2 x0 (0 : Int32)).bind fun σ3 => (f_X12_run x0 (1 : Int32) σ3).bind fun r4 => f_X12_floods_32 5000 x0 x1 (0 : Int64) (0 : Int32) r4)
def f_X12_floods  (x0 : Nat) (x1 : Int32) (σ : ah_H) : Option (Int64 × ah_H) := op_ck 12 σ x0 (f_X12_floods_0 x0 x1 σ)
set_option maxRecDepth 100000 in
set_option maxHeartbeats 4000000 in
theorem c_X12_floods_75 {G : ah_G}  (K32 : Nat → Int32 → Int64 → Int32 → ah_H → Option (Int64 × ah_H)) (hK32 : ∀ (x0 : Nat) (x1 : Int32) (x2 : Int64) (x4 : Int32) (σ : ah_H) (r : Int64 × ah_H), K32 x0 x1 x2 x4 σ = some r → AW G m_X12_floods 7 0 0 32 [(0, .ref x0), (1, .int x1), (2, .long x2), (4, .int x4)] [] σ (ah_N G (ah_rl r))) : ∀ (x0 : Nat) (x1 : Int32) (x2 : Int64) (x4 : Int32) (σ : ah_H) (r : Int64 × ah_H), f_X12_floods_75  K32 x0 x1 x2 x4 σ = some r → AW G m_X12_floods 7 0 0 75 [(0, .ref x0), (1, .int x1), (2, .long x2), (4, .int x4)] [] σ (ah_N G (ah_rl r)) := by
  intro x0 x1 x2 x4 σ r h
  unfold f_X12_floods_75 at h
  refine aw_iinc (pc := 75) 3 [(4, .int (x4 + (1 : Int32))), (0, .ref x0), (1, .int x1), (2, .long x2)] (x4 + (1 : Int32)) dX12_floods_75 rfl rfl (by decide) rfl ?_
  refine aw_goto (pc := 78) 32 dX12_floods_78 (by decide) ?_
  refine aw_sub [1, 2, 3, 0] rfl ?_
  exact hK32 _ _ _ _ _ _ h
set_option maxRecDepth 100000 in
set_option maxHeartbeats 4000000 in
theorem c_X12_floods_46_b {G : ah_G}  (K32 : Nat → Int32 → Int64 → Int32 → ah_H → Option (Int64 × ah_H)) (hK32 : ∀ (x0 : Nat) (x1 : Int32) (x2 : Int64) (x4 : Int32) (σ : ah_H) (r : Int64 × ah_H), K32 x0 x1 x2 x4 σ = some r → AW G m_X12_floods 7 0 0 32 [(0, .ref x0), (1, .int x1), (2, .long x2), (4, .int x4)] [] σ (ah_N G (ah_rl r))) (K46 : Nat → Int32 → Int64 → Int32 → Int32 → ah_H → Option (Int64 × ah_H)) (hK46 : ∀ (x0 : Nat) (x1 : Int32) (x2 : Int64) (x4 : Int32) (x5 : Int32) (σ : ah_H) (r : Int64 × ah_H), K46 x0 x1 x2 x4 x5 σ = some r → AW G m_X12_floods 7 0 0 46 [(0, .ref x0), (1, .int x1), (2, .long x2), (4, .int x4), (5, .int x5)] [] σ (ah_N G (ah_rl r))) : ∀ (x0 : Nat) (x1 : Int32) (x2 : Int64) (x4 : Int32) (x5 : Int32) (σ : ah_H) (r : Int64 × ah_H), f_X12_floods_46_b  K32 K46 x0 x1 x2 x4 x5 σ = some r → AW G m_X12_floods 7 0 0 46 [(0, .ref x0), (1, .int x1), (2, .long x2), (4, .int x4), (5, .int x5)] [] σ (ah_N G (ah_rl r)) := by
  intro x0 x1 x2 x4 x5 σ r h
  unfold f_X12_floods_46_b at h
  refine aw_iload (pc := 46) 4 dX12_floods_46 rfl ?_
  refine aw_bipush (pc := 48) (v := (30 : Int32)) dX12_floods_48 (by decide) ?_
  refine aw_icmp_ge (pc := 50) 75 dX12_floods_50 (by decide) (fun z => ?_) (fun z => ?_)
  · replace h := (if_pos z).symm.trans h
    refine aw_sub [0, 1, 2, 3] rfl ?_
    exact c_X12_floods_75 K32 hK32 _ _ _ _ _ _ h
  · replace h := (if_neg z).symm.trans h
    refine aw_lload_n (pc := 53) 2 dX12_floods_53 rfl ?_
    refine aw_aload_n (pc := 54) 0 dX12_floods_54 rfl ?_
    obtain ⟨v1, e, h⟩ := op_bd h
    refine ow_gR (pc := 55) e dX12_floods_55 fd_X12_98 rfl ?_
    refine aw_iload (pc := 58) 3 dX12_floods_58 rfl ?_
    refine aw_iload_n (pc := 60) 1 dX12_floods_60 rfl ?_
    refine aw_iload (pc := 61) 4 dX12_floods_61 rfl ?_
    obtain ⟨r2, e, h⟩ := op_bd h
    refine ow_cSi (pc := 63) [.int x4, .int x1, .int x5] ((c_X12_atFlow _ _ _ _ _ e).mono (by decide)) rfl dX12_floods_63 cw_X12_425 rfl (Nat.le_of_ble_eq_true rfl) ?_
    obtain ⟨v3, e, h⟩ := op_bd h
    refine ow_aL (pc := 66) e dX12_floods_66 ?_
    refine aw_ladd (pc := 67) dX12_floods_67 ?_
    refine aw_lstore_n (pc := 68) [(2, .long (x2 + v3)), (0, .ref x0), (1, .int x1), (4, .int x4), (5, .int x5)] dX12_floods_68 rfl (by decide) rfl ?_
    refine aw_iinc (pc := 69) 4 [(5, .int (x5 + (1 : Int32))), (2, .long (x2 + v3)), (0, .ref x0), (1, .int x1), (4, .int x4)] (x5 + (1 : Int32)) dX12_floods_69 rfl rfl (by decide) rfl ?_
    refine aw_goto (pc := 72) 46 dX12_floods_72 (by decide) ?_
    refine aw_sub [2, 3, 1, 4, 0] rfl ?_
    exact hK46 _ _ _ _ _ _ _ h
theorem c_X12_floods_46 {G : ah_G}  (K32 : Nat → Int32 → Int64 → Int32 → ah_H → Option (Int64 × ah_H)) (hK32 : ∀ (x0 : Nat) (x1 : Int32) (x2 : Int64) (x4 : Int32) (σ : ah_H) (r : Int64 × ah_H), K32 x0 x1 x2 x4 σ = some r → AW G m_X12_floods 7 0 0 32 [(0, .ref x0), (1, .int x1), (2, .long x2), (4, .int x4)] [] σ (ah_N G (ah_rl r))) : ∀ (n : Nat) (x0 : Nat) (x1 : Int32) (x2 : Int64) (x4 : Int32) (x5 : Int32) (σ : ah_H) (r : Int64 × ah_H), f_X12_floods_46  K32 n x0 x1 x2 x4 x5 σ = some r → AW G m_X12_floods 7 0 0 46 [(0, .ref x0), (1, .int x1), (2, .long x2), (4, .int x4), (5, .int x5)] [] σ (ah_N G (ah_rl r)) := by
  intro n
  induction n with
  | zero => intro x0 x1 x2 x4 x5 σ r h; cases h
  | succ n ih => intro x0 x1 x2 x4 x5 σ r h; exact c_X12_floods_46_b  K32 hK32 _ ih x0 x1 x2 x4 x5 σ r h
set_option maxRecDepth 100000 in
set_option maxHeartbeats 4000000 in
theorem c_X12_floods_32_b {G : ah_G}  (K32 : Nat → Int32 → Int64 → Int32 → ah_H → Option (Int64 × ah_H)) (hK32 : ∀ (x0 : Nat) (x1 : Int32) (x2 : Int64) (x4 : Int32) (σ : ah_H) (r : Int64 × ah_H), K32 x0 x1 x2 x4 σ = some r → AW G m_X12_floods 7 0 0 32 [(0, .ref x0), (1, .int x1), (2, .long x2), (4, .int x4)] [] σ (ah_N G (ah_rl r))) : ∀ (x0 : Nat) (x1 : Int32) (x2 : Int64) (x4 : Int32) (σ : ah_H) (r : Int64 × ah_H), f_X12_floods_32_b  K32 x0 x1 x2 x4 σ = some r → AW G m_X12_floods 7 0 0 32 [(0, .ref x0), (1, .int x1), (2, .long x2), (4, .int x4)] [] σ (ah_N G (ah_rl r)) := by
  intro x0 x1 x2 x4 σ r h
  unfold f_X12_floods_32_b at h
  refine aw_iload (pc := 32) 3 dX12_floods_32 rfl ?_
  refine aw_aload_n (pc := 34) 0 dX12_floods_34 rfl ?_
  obtain ⟨v1, e, h⟩ := op_bd h
  refine ow_gR (pc := 35) e dX12_floods_35 fd_X12_15 rfl ?_
  refine aw_iconst (pc := 38) (v := (0 : Int32)) dX12_floods_38 (by decide) ?_
  obtain ⟨v2, e, h⟩ := op_bd h
  refine ow_aI (pc := 39) e dX12_floods_39 ?_
  refine aw_icmp_ge (pc := 40) 81 dX12_floods_40 (by decide) (fun z => ?_) (fun z => ?_)
  · replace h := (if_pos z).symm.trans h
    refine aw_lload_n (pc := 81) 2 dX12_floods_81 rfl ?_
    exact ow_lret (pc := 82) h dX12_floods_82 rfl
  · replace h := (if_neg z).symm.trans h
    refine aw_iconst (pc := 43) (v := (0 : Int32)) dX12_floods_43 (by decide) ?_
    refine aw_istore (pc := 44) [(5, .int (0 : Int32)), (0, .ref x0), (1, .int x1), (2, .long x2), (4, .int x4)] dX12_floods_44 (by decide) rfl ?_
    refine aw_sub [1, 2, 3, 4, 0] rfl ?_
    exact c_X12_floods_46 K32 hK32 _ _ _ _ _ _ _ _ h
theorem c_X12_floods_32 {G : ah_G}   : ∀ (n : Nat) (x0 : Nat) (x1 : Int32) (x2 : Int64) (x4 : Int32) (σ : ah_H) (r : Int64 × ah_H), f_X12_floods_32   n x0 x1 x2 x4 σ = some r → AW G m_X12_floods 7 0 0 32 [(0, .ref x0), (1, .int x1), (2, .long x2), (4, .int x4)] [] σ (ah_N G (ah_rl r)) := by
  intro n
  induction n with
  | zero => intro x0 x1 x2 x4 σ r h; cases h
  | succ n ih => intro x0 x1 x2 x4 σ r h; exact c_X12_floods_32_b   _ ih x0 x1 x2 x4 σ r h
set_option maxRecDepth 100000 in
set_option maxHeartbeats 4000000 in
theorem c_X12_floods_0 {G : ah_G}   : ∀ (x0 : Nat) (x1 : Int32) (σ : ah_H) (r : Int64 × ah_H), f_X12_floods_0   x0 x1 σ = some r → AW G m_X12_floods 7 0 0 0 [(0, .ref x0), (1, .int x1)] [] σ (ah_N G (ah_rl r)) := by
  intro x0 x1 σ r h
  unfold f_X12_floods_0 at h
  refine aw_aload_n (pc := 0) 0 dX12_floods_0 rfl ?_
  refine aw_iconst (pc := 1) (v := (0 : Int32)) dX12_floods_1 (by decide) ?_
  obtain ⟨σ1, e, h⟩ := op_bd h
  refine ow_pI (pc := 2) e dX12_floods_2 fd_X12_153 ?_
  refine aw_aload_n (pc := 5) 0 dX12_floods_5 rfl ?_
  refine aw_iload_n (pc := 6) 1 dX12_floods_6 rfl ?_
  obtain ⟨r2, e, h⟩ := op_bd h
  refine ow_cVi (pc := 7) [.int x1] ((c_X12_isRain _ _ _ _ e).mono (by decide)) (op_ck_sh e) rfl dX12_floods_7 cw_X12_486 rfl (Nat.le_of_ble_eq_true rfl) ?_
  refine aw_if_ne (pc := 10) 17 dX12_floods_10 (by decide) (fun z => ?_) (fun z => ?_)
  · replace h := (if_neg z).symm.trans h
    refine aw_aload_n (pc := 17) 0 dX12_floods_17 rfl ?_
    refine aw_iconst (pc := 18) (v := (0 : Int32)) dX12_floods_18 (by decide) ?_
    obtain ⟨σ3, e, h⟩ := op_bd h
    refine ow_pI (pc := 19) e dX12_floods_19 fd_X12_371 ?_
    refine aw_aload_n (pc := 22) 0 dX12_floods_22 rfl ?_
    refine aw_iconst (pc := 23) (v := (1 : Int32)) dX12_floods_23 (by decide) ?_
    obtain ⟨r4, e, h⟩ := op_bd h
    refine ow_cVv (pc := 24) [.int (1 : Int32)] ((c_X12_run _ _ _ _ e).mono (by decide)) (op_ck_sh e) rfl dX12_floods_24 cw_X12_457 rfl (Nat.le_of_ble_eq_true rfl) ?_
    refine aw_lconst (pc := 27) (v := (0 : Int64)) dX12_floods_27 (by decide) ?_
    refine aw_lstore_n (pc := 28) [(2, .long (0 : Int64)), (0, .ref x0), (1, .int x1)] dX12_floods_28 rfl (by decide) rfl ?_
    refine aw_iconst (pc := 29) (v := (0 : Int32)) dX12_floods_29 (by decide) ?_
    refine aw_istore (pc := 30) [(4, .int (0 : Int32)), (2, .long (0 : Int64)), (0, .ref x0), (1, .int x1)] dX12_floods_30 (by decide) rfl ?_
    refine aw_sub [2, 3, 1, 0] rfl ?_
    exact c_X12_floods_32  _ _ _ _ _ _ _ h
  · replace h := (if_pos z).symm.trans h
    refine aw_ldc2 (pc := 13) dX12_floods_13 kl_X12_432 ?_
    exact ow_lret (pc := 16) h dX12_floods_16 rfl
theorem c_X12_floods {G : ah_G}   (x0 : Nat) (x1 : Int32) (σ : ah_H) (r : Int64 × ah_H) (h : f_X12_floods  x0 x1 σ = some r) : AM G m_X12_floods 7 0 0 [.ref x0, .int x1] σ (ah_rl r) := aw_enter (by decide) (Nat.le_of_ble_eq_true rfl) (c_X12_floods_0 _ _ _ _ (op_ck_k h))
def f_X12_worst_0   (x0 : Nat) (x1 : Int32) (x2 : Int32) (σ : ah_H) : Option (Int64 × ah_H) :=
  (op_pI 12 0 σ x0 (0 : Int32)).bind fun σ1 => (f_X12_isThere x0 x1 σ1).bind fun r2 => if r2.1 = 0 then (some ((-1 : Int64), r2.2)) else ((op_gR 12 3 r2.2 x0).bind fun v3 => (op_aI r2.2 v3 (3 : Int32)).bind fun v4 => if v4 = 0 then (some ((-1 : Int64), r2.2)) else (if x2 < 0 then (some ((-1 : Int64), r2.2)) else (if x2 ≤ (2 : Int32) then ((f_X12_run x0 (0 : Int32) r2.2).bind fun r5 => (f_X12_greatest x0 x1 r5).bind fun r6 => if x2 = 0 then (some (r6.1, r6.2)) else (if x2 = (1 : Int32) then ((op_gI 12 46 r6.2 x0).bind fun v8 => some ((Int32.toInt64 v8), r6.2)) else ((op_gI 12 47 r6.2 x0).bind fun v7 => some ((Int32.toInt64 v7), r6.2)))) else (some ((-1 : Int64), r2.2)))))
def f_X12_worst  (x0 : Nat) (x1 : Int32) (x2 : Int32) (σ : ah_H) : Option (Int64 × ah_H) := op_ck 12 σ x0 (f_X12_worst_0 x0 x1 x2 σ)
set_option maxRecDepth 100000 in
set_option maxHeartbeats 4000000 in
theorem c_X12_worst_0 {G : ah_G}   : ∀ (x0 : Nat) (x1 : Int32) (x2 : Int32) (σ : ah_H) (r : Int64 × ah_H), f_X12_worst_0   x0 x1 x2 σ = some r → AW G m_X12_worst 7 0 0 0 [(0, .ref x0), (1, .int x1), (2, .int x2)] [] σ (ah_N G (ah_rl r)) := by
  intro x0 x1 x2 σ r h
  unfold f_X12_worst_0 at h
  refine aw_aload_n (pc := 0) 0 dX12_worst_0 rfl ?_
  refine aw_iconst (pc := 1) (v := (0 : Int32)) dX12_worst_1 (by decide) ?_
  obtain ⟨σ1, e, h⟩ := op_bd h
  refine ow_pI (pc := 2) e dX12_worst_2 fd_X12_153 ?_
  refine aw_aload_n (pc := 5) 0 dX12_worst_5 rfl ?_
  refine aw_iload_n (pc := 6) 1 dX12_worst_6 rfl ?_
  obtain ⟨r2, e, h⟩ := op_bd h
  refine ow_cVi (pc := 7) [.int x1] ((c_X12_isThere _ _ _ _ e).mono (by decide)) (op_ck_sh e) rfl dX12_worst_7 cw_X12_450 rfl (Nat.le_of_ble_eq_true rfl) ?_
  refine aw_if_eq (pc := 10) 31 dX12_worst_10 (by decide) (fun z => ?_) (fun z => ?_)
  · replace h := (if_pos z).symm.trans h
    refine aw_ldc2 (pc := 31) dX12_worst_31 kl_X12_432 ?_
    exact ow_lret (pc := 34) h dX12_worst_34 rfl
  · replace h := (if_neg z).symm.trans h
    refine aw_aload_n (pc := 13) 0 dX12_worst_13 rfl ?_
    obtain ⟨v3, e, h⟩ := op_bd h
    refine ow_gR (pc := 14) e dX12_worst_14 fd_X12_15 rfl ?_
    refine aw_iconst (pc := 17) (v := (3 : Int32)) dX12_worst_17 (by decide) ?_
    obtain ⟨v4, e, h⟩ := op_bd h
    refine ow_aI (pc := 18) e dX12_worst_18 ?_
    refine aw_if_eq (pc := 19) 31 dX12_worst_19 (by decide) (fun z => ?_) (fun z => ?_)
    · replace h := (if_pos z).symm.trans h
      refine aw_ldc2 (pc := 31) dX12_worst_31 kl_X12_432 ?_
      exact ow_lret (pc := 34) h dX12_worst_34 rfl
    · replace h := (if_neg z).symm.trans h
      refine aw_iload_n (pc := 22) 2 dX12_worst_22 rfl ?_
      refine aw_if_lt (pc := 23) 31 dX12_worst_23 (by decide) (fun z => ?_) (fun z => ?_)
      · replace h := (if_pos z).symm.trans h
        refine aw_ldc2 (pc := 31) dX12_worst_31 kl_X12_432 ?_
        exact ow_lret (pc := 34) h dX12_worst_34 rfl
      · replace h := (if_neg z).symm.trans h
        refine aw_iload_n (pc := 26) 2 dX12_worst_26 rfl ?_
        refine aw_iconst (pc := 27) (v := (2 : Int32)) dX12_worst_27 (by decide) ?_
        refine aw_icmp_le (pc := 28) 35 dX12_worst_28 (by decide) (fun z => ?_) (fun z => ?_)
        · replace h := (if_pos z).symm.trans h
          refine aw_aload_n (pc := 35) 0 dX12_worst_35 rfl ?_
          refine aw_iconst (pc := 36) (v := (0 : Int32)) dX12_worst_36 (by decide) ?_
          obtain ⟨r5, e, h⟩ := op_bd h
          refine ow_cVv (pc := 37) [.int (0 : Int32)] ((c_X12_run _ _ _ _ e).mono (by decide)) (op_ck_sh e) rfl dX12_worst_37 cw_X12_457 rfl (Nat.le_of_ble_eq_true rfl) ?_
          refine aw_aload_n (pc := 40) 0 dX12_worst_40 rfl ?_
          refine aw_iload_n (pc := 41) 1 dX12_worst_41 rfl ?_
          obtain ⟨r6, e, h⟩ := op_bd h
          refine ow_cVl (pc := 42) [.int x1] ((c_X12_greatest _ _ _ _ e).mono (by decide)) (op_ck_sh e) rfl dX12_worst_42 cw_X12_467 rfl (Nat.le_of_ble_eq_true rfl) ?_
          refine aw_lstore_n (pc := 45) [(3, .long r6.1), (0, .ref x0), (1, .int x1), (2, .int x2)] dX12_worst_45 rfl (by decide) rfl ?_
          refine aw_iload_n (pc := 46) 3 dX12_worst_46 rfl ?_
          refine aw_if_ne (pc := 47) 54 dX12_worst_47 (by decide) (fun z => ?_) (fun z => ?_)
          · replace h := (if_neg z).symm.trans h
            refine aw_iload_n (pc := 54) 3 dX12_worst_54 rfl ?_
            refine aw_iconst (pc := 55) (v := (1 : Int32)) dX12_worst_55 (by decide) ?_
            refine aw_icmp_ne (pc := 56) 67 dX12_worst_56 (by decide) (fun z => ?_) (fun z => ?_)
            · replace h := (if_neg z).symm.trans h
              refine aw_aload_n (pc := 67) 1 dX12_worst_67 rfl ?_
              obtain ⟨v7, e, h⟩ := op_bd h
              refine ow_gI (pc := 68) e dX12_worst_68 fd_X12_437 rfl ?_
              refine aw_i2l (pc := 71) dX12_worst_71 ?_
              exact ow_lret (pc := 72) h dX12_worst_72 rfl
            · replace h := (if_pos z).symm.trans h
              refine aw_aload_n (pc := 59) 1 dX12_worst_59 rfl ?_
              obtain ⟨v8, e, h⟩ := op_bd h
              refine ow_gI (pc := 60) e dX12_worst_60 fd_X12_434 rfl ?_
              refine aw_i2l (pc := 63) dX12_worst_63 ?_
              refine aw_goto (pc := 64) 72 dX12_worst_64 (by decide) ?_
              exact ow_lret (pc := 72) h dX12_worst_72 rfl
          · replace h := (if_pos z).symm.trans h
            refine aw_lload_n (pc := 50) 0 dX12_worst_50 rfl ?_
            refine aw_goto (pc := 51) 72 dX12_worst_51 (by decide) ?_
            exact ow_lret (pc := 72) h dX12_worst_72 rfl
        · replace h := (if_neg z).symm.trans h
          refine aw_ldc2 (pc := 31) dX12_worst_31 kl_X12_432 ?_
          exact ow_lret (pc := 34) h dX12_worst_34 rfl
theorem c_X12_worst {G : ah_G}   (x0 : Nat) (x1 : Int32) (x2 : Int32) (σ : ah_H) (r : Int64 × ah_H) (h : f_X12_worst  x0 x1 x2 σ = some r) : AM G m_X12_worst 7 0 0 [.ref x0, .int x1, .int x2] σ (ah_rl r) := aw_enter (by decide) (Nat.le_of_ble_eq_true rfl) (c_X12_worst_0 _ _ _ _ _ (op_ck_k h))
def f_X12_burstOf_0   (x0 : Nat) (x1 : Int32) (σ : ah_H) : Option (Int32 × ah_H) :=
  (f_X12_greatest x0 x1 σ).bind fun r1 => if (lg_cmp r1.1 (0 : Int64)) = 0 then (some ((9999 : Int32), r1.2)) else ((f_X12_carriesOf x0 x1 r1.2).bind fun r2 => (op_ldiv (r2.1 * (100 : Int64)) r1.1).bind fun v3 => some ((Int64.toInt32 (op_minl (9999 : Int64) (v3 + (1 : Int64)))), r2.2))
def f_X12_burstOf  (x0 : Nat) (x1 : Int32) (σ : ah_H) : Option (Int32 × ah_H) := op_ck 12 σ x0 (f_X12_burstOf_0 x0 x1 σ)
set_option maxRecDepth 100000 in
set_option maxHeartbeats 4000000 in
theorem c_X12_burstOf_0 {G : ah_G}   : ∀ (x0 : Nat) (x1 : Int32) (σ : ah_H) (r : Int32 × ah_H), f_X12_burstOf_0   x0 x1 σ = some r → AW G m_X12_burstOf 5 0 0 0 [(0, .ref x0), (1, .int x1)] [] σ (ah_N G (ah_ri r)) := by
  intro x0 x1 σ r h
  unfold f_X12_burstOf_0 at h
  refine aw_aload_n (pc := 0) 0 dX12_burstOf_0 rfl ?_
  refine aw_iload_n (pc := 1) 1 dX12_burstOf_1 rfl ?_
  obtain ⟨r1, e, h⟩ := op_bd h
  refine ow_cVl (pc := 2) [.int x1] ((c_X12_greatest _ _ _ _ e).mono (by decide)) (op_ck_sh e) rfl dX12_burstOf_2 cw_X12_467 rfl (Nat.le_of_ble_eq_true rfl) ?_
  refine aw_lstore_n (pc := 5) [(2, .long r1.1), (0, .ref x0), (1, .int x1)] dX12_burstOf_5 rfl (by decide) rfl ?_
  refine aw_lload_n (pc := 6) 0 dX12_burstOf_6 rfl ?_
  refine aw_lconst (pc := 7) (v := (0 : Int64)) dX12_burstOf_7 (by decide) ?_
  refine aw_lcmp (pc := 8) dX12_burstOf_8 ?_
  refine aw_if_ne (pc := 9) 16 dX12_burstOf_9 (by decide) (fun z => ?_) (fun z => ?_)
  · replace h := (if_neg z).symm.trans h
    refine aw_aload_n (pc := 16) 1 dX12_burstOf_16 rfl ?_
    refine aw_iload_n (pc := 17) 2 dX12_burstOf_17 rfl ?_
    obtain ⟨r2, e, h⟩ := op_bd h
    refine ow_cVl (pc := 18) [.int x1] ((c_X12_carriesOf _ _ _ _ e).mono (by decide)) (op_ck_sh e) rfl dX12_burstOf_18 cw_X12_419 rfl (Nat.le_of_ble_eq_true rfl) ?_
    refine aw_ldc2 (pc := 21) dX12_burstOf_21 kl_X12_492 ?_
    refine aw_lmul (pc := 24) dX12_burstOf_24 ?_
    refine aw_lload_n (pc := 25) 0 dX12_burstOf_25 rfl ?_
    obtain ⟨v3, e, h⟩ := op_bd h
    refine ow_ldiv (pc := 26) e dX12_burstOf_26 ?_
    refine aw_lconst (pc := 27) (v := (1 : Int64)) dX12_burstOf_27 (by decide) ?_
    refine aw_ladd (pc := 28) dX12_burstOf_28 ?_
    refine aw_lstore (pc := 29) [(4, .long (v3 + (1 : Int64))), (2, .long r1.1), (0, .ref x0), (1, .int x1)] dX12_burstOf_29 (by decide) rfl ?_
    refine aw_ldc2 (pc := 31) dX12_burstOf_31 kl_X12_369 ?_
    refine aw_lload (pc := 34) 0 dX12_burstOf_34 rfl ?_
    refine ow_minl (pc := 36) dX12_burstOf_36 mt_X12_429 (Nat.le_of_ble_eq_true rfl) ?_
    refine aw_l2i (pc := 39) dX12_burstOf_39 ?_
    exact ow_iret (pc := 40) h dX12_burstOf_40 rfl
  · replace h := (if_pos z).symm.trans h
    refine aw_sipush (pc := 12) (v := (9999 : Int32)) dX12_burstOf_12 (by decide) ?_
    exact ow_iret (pc := 15) h dX12_burstOf_15 rfl
theorem c_X12_burstOf {G : ah_G}   (x0 : Nat) (x1 : Int32) (σ : ah_H) (r : Int32 × ah_H) (h : f_X12_burstOf  x0 x1 σ = some r) : AM G m_X12_burstOf 5 0 0 [.ref x0, .int x1] σ (ah_ri r) := aw_enter (by decide) (Nat.le_of_ble_eq_true rfl) (c_X12_burstOf_0 _ _ _ _ (op_ck_k h))
