def f_J6_bitCount_0f7a4_0   (x0 : Int32) (σ : ah_H) : Option (Int32 × ah_H) :=
  some (((((((((x0 - (((x0.toUInt32 >>> ((1 : Int32).toUInt32 &&& Int32.toUInt32 31)).toInt32) &&& (1431655765 : Int32))) &&& (858993459 : Int32)) + ((((x0 - (((x0.toUInt32 >>> ((1 : Int32).toUInt32 &&& Int32.toUInt32 31)).toInt32) &&& (1431655765 : Int32))).toUInt32 >>> ((2 : Int32).toUInt32 &&& Int32.toUInt32 31)).toInt32) &&& (858993459 : Int32))) + (((((x0 - (((x0.toUInt32 >>> ((1 : Int32).toUInt32 &&& Int32.toUInt32 31)).toInt32) &&& (1431655765 : Int32))) &&& (858993459 : Int32)) + ((((x0 - (((x0.toUInt32 >>> ((1 : Int32).toUInt32 &&& Int32.toUInt32 31)).toInt32) &&& (1431655765 : Int32))).toUInt32 >>> ((2 : Int32).toUInt32 &&& Int32.toUInt32 31)).toInt32) &&& (858993459 : Int32))).toUInt32 >>> ((4 : Int32).toUInt32 &&& Int32.toUInt32 31)).toInt32)) &&& (252645135 : Int32)) + (((((((x0 - (((x0.toUInt32 >>> ((1 : Int32).toUInt32 &&& Int32.toUInt32 31)).toInt32) &&& (1431655765 : Int32))) &&& (858993459 : Int32)) + ((((x0 - (((x0.toUInt32 >>> ((1 : Int32).toUInt32 &&& Int32.toUInt32 31)).toInt32) &&& (1431655765 : Int32))).toUInt32 >>> ((2 : Int32).toUInt32 &&& Int32.toUInt32 31)).toInt32) &&& (858993459 : Int32))) + (((((x0 - (((x0.toUInt32 >>> ((1 : Int32).toUInt32 &&& Int32.toUInt32 31)).toInt32) &&& (1431655765 : Int32))) &&& (858993459 : Int32)) + ((((x0 - (((x0.toUInt32 >>> ((1 : Int32).toUInt32 &&& Int32.toUInt32 31)).toInt32) &&& (1431655765 : Int32))).toUInt32 >>> ((2 : Int32).toUInt32 &&& Int32.toUInt32 31)).toInt32) &&& (858993459 : Int32))).toUInt32 >>> ((4 : Int32).toUInt32 &&& Int32.toUInt32 31)).toInt32)) &&& (252645135 : Int32)).toUInt32 >>> ((8 : Int32).toUInt32 &&& Int32.toUInt32 31)).toInt32)) + ((((((((x0 - (((x0.toUInt32 >>> ((1 : Int32).toUInt32 &&& Int32.toUInt32 31)).toInt32) &&& (1431655765 : Int32))) &&& (858993459 : Int32)) + ((((x0 - (((x0.toUInt32 >>> ((1 : Int32).toUInt32 &&& Int32.toUInt32 31)).toInt32) &&& (1431655765 : Int32))).toUInt32 >>> ((2 : Int32).toUInt32 &&& Int32.toUInt32 31)).toInt32) &&& (858993459 : Int32))) + (((((x0 - (((x0.toUInt32 >>> ((1 : Int32).toUInt32 &&& Int32.toUInt32 31)).toInt32) &&& (1431655765 : Int32))) &&& (858993459 : Int32)) + ((((x0 - (((x0.toUInt32 >>> ((1 : Int32).toUInt32 &&& Int32.toUInt32 31)).toInt32) &&& (1431655765 : Int32))).toUInt32 >>> ((2 : Int32).toUInt32 &&& Int32.toUInt32 31)).toInt32) &&& (858993459 : Int32))).toUInt32 >>> ((4 : Int32).toUInt32 &&& Int32.toUInt32 31)).toInt32)) &&& (252645135 : Int32)) + (((((((x0 - (((x0.toUInt32 >>> ((1 : Int32).toUInt32 &&& Int32.toUInt32 31)).toInt32) &&& (1431655765 : Int32))) &&& (858993459 : Int32)) + ((((x0 - (((x0.toUInt32 >>> ((1 : Int32).toUInt32 &&& Int32.toUInt32 31)).toInt32) &&& (1431655765 : Int32))).toUInt32 >>> ((2 : Int32).toUInt32 &&& Int32.toUInt32 31)).toInt32) &&& (858993459 : Int32))) + (((((x0 - (((x0.toUInt32 >>> ((1 : Int32).toUInt32 &&& Int32.toUInt32 31)).toInt32) &&& (1431655765 : Int32))) &&& (858993459 : Int32)) + ((((x0 - (((x0.toUInt32 >>> ((1 : Int32).toUInt32 &&& Int32.toUInt32 31)).toInt32) &&& (1431655765 : Int32))).toUInt32 >>> ((2 : Int32).toUInt32 &&& Int32.toUInt32 31)).toInt32) &&& (858993459 : Int32))).toUInt32 >>> ((4 : Int32).toUInt32 &&& Int32.toUInt32 31)).toInt32)) &&& (252645135 : Int32)).toUInt32 >>> ((8 : Int32).toUInt32 &&& Int32.toUInt32 31)).toInt32)).toUInt32 >>> ((16 : Int32).toUInt32 &&& Int32.toUInt32 31)).toInt32)) &&& (63 : Int32)), σ)
def f_J6_bitCount_0f7a4  (x0 : Int32) (σ : ah_H) : Option (Int32 × ah_H) := f_J6_bitCount_0f7a4_0 x0 σ
set_option maxRecDepth 100000 in
set_option maxHeartbeats 4000000 in
theorem c_J6_bitCount_0f7a4_0 {G : ah_G}   : ∀ (x0 : Int32) (σ : ah_H) (r : Int32 × ah_H), f_J6_bitCount_0f7a4_0   x0 σ = some r → AW G m_J6_bitCount_0f7a4 0 0 0 0 [(0, .int x0)] [] σ (ah_ri r) := by
  intro x0 σ r h
  unfold f_J6_bitCount_0f7a4_0 at h
  refine aw_iload_n (pc := 0) 0 dJ6_bitCount_0f7a4_0 rfl ?_
  refine aw_iload_n (pc := 1) 0 dJ6_bitCount_0f7a4_1 rfl ?_
  refine aw_iconst (pc := 2) (v := (1 : Int32)) dJ6_bitCount_0f7a4_2 (by decide) ?_
  refine aw_iushr (pc := 3) dJ6_bitCount_0f7a4_3 ?_
  refine aw_ldcw (pc := 4) dJ6_bitCount_0f7a4_4 kc_J6_265 ?_
  refine aw_iand (pc := 7) dJ6_bitCount_0f7a4_7 ?_
  refine aw_isub (pc := 8) dJ6_bitCount_0f7a4_8 ?_
  refine aw_istore_n (pc := 9) [(0, .int (x0 - (((x0.toUInt32 >>> ((1 : Int32).toUInt32 &&& Int32.toUInt32 31)).toInt32) &&& (1431655765 : Int32))))] dJ6_bitCount_0f7a4_9 rfl (by decide) rfl ?_
  refine aw_iload_n (pc := 10) 0 dJ6_bitCount_0f7a4_10 rfl ?_
  refine aw_ldcw (pc := 11) dJ6_bitCount_0f7a4_11 kc_J6_266 ?_
  refine aw_iand (pc := 14) dJ6_bitCount_0f7a4_14 ?_
  refine aw_iload_n (pc := 15) 0 dJ6_bitCount_0f7a4_15 rfl ?_
  refine aw_iconst (pc := 16) (v := (2 : Int32)) dJ6_bitCount_0f7a4_16 (by decide) ?_
  refine aw_iushr (pc := 17) dJ6_bitCount_0f7a4_17 ?_
  refine aw_ldcw (pc := 18) dJ6_bitCount_0f7a4_18 kc_J6_266 ?_
  refine aw_iand (pc := 21) dJ6_bitCount_0f7a4_21 ?_
  refine aw_iadd (pc := 22) dJ6_bitCount_0f7a4_22 ?_
  refine aw_istore_n (pc := 23) [(0, .int (((x0 - (((x0.toUInt32 >>> ((1 : Int32).toUInt32 &&& Int32.toUInt32 31)).toInt32) &&& (1431655765 : Int32))) &&& (858993459 : Int32)) + ((((x0 - (((x0.toUInt32 >>> ((1 : Int32).toUInt32 &&& Int32.toUInt32 31)).toInt32) &&& (1431655765 : Int32))).toUInt32 >>> ((2 : Int32).toUInt32 &&& Int32.toUInt32 31)).toInt32) &&& (858993459 : Int32))))] dJ6_bitCount_0f7a4_23 rfl (by decide) rfl ?_
  refine aw_iload_n (pc := 24) 0 dJ6_bitCount_0f7a4_24 rfl ?_
  refine aw_iload_n (pc := 25) 0 dJ6_bitCount_0f7a4_25 rfl ?_
  refine aw_iconst (pc := 26) (v := (4 : Int32)) dJ6_bitCount_0f7a4_26 (by decide) ?_
  refine aw_iushr (pc := 27) dJ6_bitCount_0f7a4_27 ?_
  refine aw_iadd (pc := 28) dJ6_bitCount_0f7a4_28 ?_
  refine aw_ldcw (pc := 29) dJ6_bitCount_0f7a4_29 kc_J6_267 ?_
  refine aw_iand (pc := 32) dJ6_bitCount_0f7a4_32 ?_
  refine aw_istore_n (pc := 33) [(0, .int (((((x0 - (((x0.toUInt32 >>> ((1 : Int32).toUInt32 &&& Int32.toUInt32 31)).toInt32) &&& (1431655765 : Int32))) &&& (858993459 : Int32)) + ((((x0 - (((x0.toUInt32 >>> ((1 : Int32).toUInt32 &&& Int32.toUInt32 31)).toInt32) &&& (1431655765 : Int32))).toUInt32 >>> ((2 : Int32).toUInt32 &&& Int32.toUInt32 31)).toInt32) &&& (858993459 : Int32))) + (((((x0 - (((x0.toUInt32 >>> ((1 : Int32).toUInt32 &&& Int32.toUInt32 31)).toInt32) &&& (1431655765 : Int32))) &&& (858993459 : Int32)) + ((((x0 - (((x0.toUInt32 >>> ((1 : Int32).toUInt32 &&& Int32.toUInt32 31)).toInt32) &&& (1431655765 : Int32))).toUInt32 >>> ((2 : Int32).toUInt32 &&& Int32.toUInt32 31)).toInt32) &&& (858993459 : Int32))).toUInt32 >>> ((4 : Int32).toUInt32 &&& Int32.toUInt32 31)).toInt32)) &&& (252645135 : Int32)))] dJ6_bitCount_0f7a4_33 rfl (by decide) rfl ?_
  refine aw_iload_n (pc := 34) 0 dJ6_bitCount_0f7a4_34 rfl ?_
  refine aw_iload_n (pc := 35) 0 dJ6_bitCount_0f7a4_35 rfl ?_
  refine aw_bipush (pc := 36) (v := (8 : Int32)) dJ6_bitCount_0f7a4_36 (by decide) ?_
  refine aw_iushr (pc := 38) dJ6_bitCount_0f7a4_38 ?_
  refine aw_iadd (pc := 39) dJ6_bitCount_0f7a4_39 ?_
  refine aw_istore_n (pc := 40) [(0, .int ((((((x0 - (((x0.toUInt32 >>> ((1 : Int32).toUInt32 &&& Int32.toUInt32 31)).toInt32) &&& (1431655765 : Int32))) &&& (858993459 : Int32)) + ((((x0 - (((x0.toUInt32 >>> ((1 : Int32).toUInt32 &&& Int32.toUInt32 31)).toInt32) &&& (1431655765 : Int32))).toUInt32 >>> ((2 : Int32).toUInt32 &&& Int32.toUInt32 31)).toInt32) &&& (858993459 : Int32))) + (((((x0 - (((x0.toUInt32 >>> ((1 : Int32).toUInt32 &&& Int32.toUInt32 31)).toInt32) &&& (1431655765 : Int32))) &&& (858993459 : Int32)) + ((((x0 - (((x0.toUInt32 >>> ((1 : Int32).toUInt32 &&& Int32.toUInt32 31)).toInt32) &&& (1431655765 : Int32))).toUInt32 >>> ((2 : Int32).toUInt32 &&& Int32.toUInt32 31)).toInt32) &&& (858993459 : Int32))).toUInt32 >>> ((4 : Int32).toUInt32 &&& Int32.toUInt32 31)).toInt32)) &&& (252645135 : Int32)) + (((((((x0 - (((x0.toUInt32 >>> ((1 : Int32).toUInt32 &&& Int32.toUInt32 31)).toInt32) &&& (1431655765 : Int32))) &&& (858993459 : Int32)) + ((((x0 - (((x0.toUInt32 >>> ((1 : Int32).toUInt32 &&& Int32.toUInt32 31)).toInt32) &&& (1431655765 : Int32))).toUInt32 >>> ((2 : Int32).toUInt32 &&& Int32.toUInt32 31)).toInt32) &&& (858993459 : Int32))) + (((((x0 - (((x0.toUInt32 >>> ((1 : Int32).toUInt32 &&& Int32.toUInt32 31)).toInt32) &&& (1431655765 : Int32))) &&& (858993459 : Int32)) + ((((x0 - (((x0.toUInt32 >>> ((1 : Int32).toUInt32 &&& Int32.toUInt32 31)).toInt32) &&& (1431655765 : Int32))).toUInt32 >>> ((2 : Int32).toUInt32 &&& Int32.toUInt32 31)).toInt32) &&& (858993459 : Int32))).toUInt32 >>> ((4 : Int32).toUInt32 &&& Int32.toUInt32 31)).toInt32)) &&& (252645135 : Int32)).toUInt32 >>> ((8 : Int32).toUInt32 &&& Int32.toUInt32 31)).toInt32)))] dJ6_bitCount_0f7a4_40 rfl (by decide) rfl ?_
  refine aw_iload_n (pc := 41) 0 dJ6_bitCount_0f7a4_41 rfl ?_
  refine aw_iload_n (pc := 42) 0 dJ6_bitCount_0f7a4_42 rfl ?_
  refine aw_bipush (pc := 43) (v := (16 : Int32)) dJ6_bitCount_0f7a4_43 (by decide) ?_
  refine aw_iushr (pc := 45) dJ6_bitCount_0f7a4_45 ?_
  refine aw_iadd (pc := 46) dJ6_bitCount_0f7a4_46 ?_
  refine aw_istore_n (pc := 47) [(0, .int (((((((x0 - (((x0.toUInt32 >>> ((1 : Int32).toUInt32 &&& Int32.toUInt32 31)).toInt32) &&& (1431655765 : Int32))) &&& (858993459 : Int32)) + ((((x0 - (((x0.toUInt32 >>> ((1 : Int32).toUInt32 &&& Int32.toUInt32 31)).toInt32) &&& (1431655765 : Int32))).toUInt32 >>> ((2 : Int32).toUInt32 &&& Int32.toUInt32 31)).toInt32) &&& (858993459 : Int32))) + (((((x0 - (((x0.toUInt32 >>> ((1 : Int32).toUInt32 &&& Int32.toUInt32 31)).toInt32) &&& (1431655765 : Int32))) &&& (858993459 : Int32)) + ((((x0 - (((x0.toUInt32 >>> ((1 : Int32).toUInt32 &&& Int32.toUInt32 31)).toInt32) &&& (1431655765 : Int32))).toUInt32 >>> ((2 : Int32).toUInt32 &&& Int32.toUInt32 31)).toInt32) &&& (858993459 : Int32))).toUInt32 >>> ((4 : Int32).toUInt32 &&& Int32.toUInt32 31)).toInt32)) &&& (252645135 : Int32)) + (((((((x0 - (((x0.toUInt32 >>> ((1 : Int32).toUInt32 &&& Int32.toUInt32 31)).toInt32) &&& (1431655765 : Int32))) &&& (858993459 : Int32)) + ((((x0 - (((x0.toUInt32 >>> ((1 : Int32).toUInt32 &&& Int32.toUInt32 31)).toInt32) &&& (1431655765 : Int32))).toUInt32 >>> ((2 : Int32).toUInt32 &&& Int32.toUInt32 31)).toInt32) &&& (858993459 : Int32))) + (((((x0 - (((x0.toUInt32 >>> ((1 : Int32).toUInt32 &&& Int32.toUInt32 31)).toInt32) &&& (1431655765 : Int32))) &&& (858993459 : Int32)) + ((((x0 - (((x0.toUInt32 >>> ((1 : Int32).toUInt32 &&& Int32.toUInt32 31)).toInt32) &&& (1431655765 : Int32))).toUInt32 >>> ((2 : Int32).toUInt32 &&& Int32.toUInt32 31)).toInt32) &&& (858993459 : Int32))).toUInt32 >>> ((4 : Int32).toUInt32 &&& Int32.toUInt32 31)).toInt32)) &&& (252645135 : Int32)).toUInt32 >>> ((8 : Int32).toUInt32 &&& Int32.toUInt32 31)).toInt32)) + ((((((((x0 - (((x0.toUInt32 >>> ((1 : Int32).toUInt32 &&& Int32.toUInt32 31)).toInt32) &&& (1431655765 : Int32))) &&& (858993459 : Int32)) + ((((x0 - (((x0.toUInt32 >>> ((1 : Int32).toUInt32 &&& Int32.toUInt32 31)).toInt32) &&& (1431655765 : Int32))).toUInt32 >>> ((2 : Int32).toUInt32 &&& Int32.toUInt32 31)).toInt32) &&& (858993459 : Int32))) + (((((x0 - (((x0.toUInt32 >>> ((1 : Int32).toUInt32 &&& Int32.toUInt32 31)).toInt32) &&& (1431655765 : Int32))) &&& (858993459 : Int32)) + ((((x0 - (((x0.toUInt32 >>> ((1 : Int32).toUInt32 &&& Int32.toUInt32 31)).toInt32) &&& (1431655765 : Int32))).toUInt32 >>> ((2 : Int32).toUInt32 &&& Int32.toUInt32 31)).toInt32) &&& (858993459 : Int32))).toUInt32 >>> ((4 : Int32).toUInt32 &&& Int32.toUInt32 31)).toInt32)) &&& (252645135 : Int32)) + (((((((x0 - (((x0.toUInt32 >>> ((1 : Int32).toUInt32 &&& Int32.toUInt32 31)).toInt32) &&& (1431655765 : Int32))) &&& (858993459 : Int32)) + ((((x0 - (((x0.toUInt32 >>> ((1 : Int32).toUInt32 &&& Int32.toUInt32 31)).toInt32) &&& (1431655765 : Int32))).toUInt32 >>> ((2 : Int32).toUInt32 &&& Int32.toUInt32 31)).toInt32) &&& (858993459 : Int32))) + (((((x0 - (((x0.toUInt32 >>> ((1 : Int32).toUInt32 &&& Int32.toUInt32 31)).toInt32) &&& (1431655765 : Int32))) &&& (858993459 : Int32)) + ((((x0 - (((x0.toUInt32 >>> ((1 : Int32).toUInt32 &&& Int32.toUInt32 31)).toInt32) &&& (1431655765 : Int32))).toUInt32 >>> ((2 : Int32).toUInt32 &&& Int32.toUInt32 31)).toInt32) &&& (858993459 : Int32))).toUInt32 >>> ((4 : Int32).toUInt32 &&& Int32.toUInt32 31)).toInt32)) &&& (252645135 : Int32)).toUInt32 >>> ((8 : Int32).toUInt32 &&& Int32.toUInt32 31)).toInt32)).toUInt32 >>> ((16 : Int32).toUInt32 &&& Int32.toUInt32 31)).toInt32)))] dJ6_bitCount_0f7a4_47 rfl (by decide) rfl ?_
  refine aw_iload_n (pc := 48) 0 dJ6_bitCount_0f7a4_48 rfl ?_
  refine aw_bipush (pc := 49) (v := (63 : Int32)) dJ6_bitCount_0f7a4_49 (by decide) ?_
  refine aw_iand (pc := 51) dJ6_bitCount_0f7a4_51 ?_
  exact ow_iret (pc := 52) h dJ6_bitCount_0f7a4_52 rfl
theorem c_J6_bitCount_0f7a4 {G : ah_G}   (x0 : Int32) (σ : ah_H) (r : Int32 × ah_H) (h : f_J6_bitCount_0f7a4  x0 σ = some r) : AM G m_J6_bitCount_0f7a4 0 0 0 [.int x0] σ (ah_ri r) := aw_enter (by decide) (Nat.le_of_ble_eq_true rfl) (c_J6_bitCount_0f7a4_0 _ _ _ h)
def f_J7_fill_d0a16_6_b  (K6 : Nat → Int64 → Int32 → Int32 → ah_H → Option (ah_H)) (x0 : Nat) (x1 : Int64) (x3 : Int32) (x4 : Int32) (σ : ah_H) : Option (ah_H) :=
  if x4 ≤ x3 then (some σ) else ((op_sL σ x0 x3 x1).bind fun σ1 => K6 x0 x1 (x3 + (1 : Int32)) x4 σ1)
def f_J7_fill_d0a16_6   : Nat → Nat → Int64 → Int32 → Int32 → ah_H → Option (ah_H)
  | 0, _, _, _, _, _ => none
  | n + 1, x0, x1, x3, x4, σ => f_J7_fill_d0a16_6_b (f_J7_fill_d0a16_6 n) x0 x1 x3 x4 σ
def f_J7_fill_d0a16_0   (x0 : Nat) (x1 : Int64) (σ : ah_H) : Option (ah_H) :=
  (op_len .long σ x0).bind fun n1 => f_J7_fill_d0a16_6 5000 x0 x1 (0 : Int32) (Int32.ofNat n1) σ
def f_J7_fill_d0a16  (x0 : Nat) (x1 : Int64) (σ : ah_H) : Option (ah_H) := f_J7_fill_d0a16_0 x0 x1 σ
set_option maxRecDepth 100000 in
set_option maxHeartbeats 4000000 in
theorem c_J7_fill_d0a16_6_b {G : ah_G}  (K6 : Nat → Int64 → Int32 → Int32 → ah_H → Option (ah_H)) (hK6 : ∀ (x0 : Nat) (x1 : Int64) (x3 : Int32) (x4 : Int32) (σ : ah_H) (r : ah_H), K6 x0 x1 x3 x4 σ = some r → AW G m_J7_fill_d0a16 0 0 0 6 [(0, .ref x0), (1, .long x1), (3, .int x3), (4, .int x4)] [] σ (ah_rv r)) : ∀ (x0 : Nat) (x1 : Int64) (x3 : Int32) (x4 : Int32) (σ : ah_H) (r : ah_H), f_J7_fill_d0a16_6_b  K6 x0 x1 x3 x4 σ = some r → AW G m_J7_fill_d0a16 0 0 0 6 [(0, .ref x0), (1, .long x1), (3, .int x3), (4, .int x4)] [] σ (ah_rv r) := by
  intro x0 x1 x3 x4 σ r h
  unfold f_J7_fill_d0a16_6_b at h
  refine aw_iload_n (pc := 6) 2 dJ7_fill_d0a16_6 rfl ?_
  refine aw_iload (pc := 7) 3 dJ7_fill_d0a16_7 rfl ?_
  refine aw_icmp_ge (pc := 9) 22 dJ7_fill_d0a16_9 (by decide) (fun z => ?_) (fun z => ?_)
  · replace h := (if_pos z).symm.trans h
    exact ow_vret (pc := 22) h dJ7_fill_d0a16_22 rfl
  · replace h := (if_neg z).symm.trans h
    refine aw_aload_n (pc := 12) 0 dJ7_fill_d0a16_12 rfl ?_
    refine aw_iload_n (pc := 13) 2 dJ7_fill_d0a16_13 rfl ?_
    refine aw_lload_n (pc := 14) 1 dJ7_fill_d0a16_14 rfl ?_
    obtain ⟨σ1, e, h⟩ := op_bd h
    refine ow_sL (pc := 15) e dJ7_fill_d0a16_15 ?_
    refine aw_iinc (pc := 16) 2 [(3, .int (x3 + (1 : Int32))), (0, .ref x0), (1, .long x1), (4, .int x4)] (x3 + (1 : Int32)) dJ7_fill_d0a16_16 rfl rfl (by decide) rfl ?_
    refine aw_goto (pc := 19) 6 dJ7_fill_d0a16_19 (by decide) ?_
    refine aw_sub [1, 2, 0, 3] rfl ?_
    exact hK6 _ _ _ _ _ _ h
theorem c_J7_fill_d0a16_6 {G : ah_G}   : ∀ (n : Nat) (x0 : Nat) (x1 : Int64) (x3 : Int32) (x4 : Int32) (σ : ah_H) (r : ah_H), f_J7_fill_d0a16_6   n x0 x1 x3 x4 σ = some r → AW G m_J7_fill_d0a16 0 0 0 6 [(0, .ref x0), (1, .long x1), (3, .int x3), (4, .int x4)] [] σ (ah_rv r) := by
  intro n
  induction n with
  | zero => intro x0 x1 x3 x4 σ r h; cases h
  | succ n ih => intro x0 x1 x3 x4 σ r h; exact c_J7_fill_d0a16_6_b   _ ih x0 x1 x3 x4 σ r h
set_option maxRecDepth 100000 in
set_option maxHeartbeats 4000000 in
theorem c_J7_fill_d0a16_0 {G : ah_G}   : ∀ (x0 : Nat) (x1 : Int64) (σ : ah_H) (r : ah_H), f_J7_fill_d0a16_0   x0 x1 σ = some r → AW G m_J7_fill_d0a16 0 0 0 0 [(0, .ref x0), (1, .long x1)] [] σ (ah_rv r) := by
  intro x0 x1 σ r h
  unfold f_J7_fill_d0a16_0 at h
  refine aw_iconst (pc := 0) (v := (0 : Int32)) dJ7_fill_d0a16_0 (by decide) ?_
  refine aw_istore_n (pc := 1) [(3, .int (0 : Int32)), (0, .ref x0), (1, .long x1)] dJ7_fill_d0a16_1 rfl (by decide) rfl ?_
  refine aw_aload_n (pc := 2) 1 dJ7_fill_d0a16_2 rfl ?_
  obtain ⟨n1, e, h⟩ := op_bd h
  refine ow_alen (pc := 3) e dJ7_fill_d0a16_3 (by decide) ?_
  refine aw_istore (pc := 4) [(4, .int (Int32.ofNat n1)), (3, .int (0 : Int32)), (0, .ref x0), (1, .long x1)] dJ7_fill_d0a16_4 (by decide) rfl ?_
  refine aw_sub [2, 3, 1, 0] rfl ?_
  exact c_J7_fill_d0a16_6  _ _ _ _ _ _ _ h
theorem c_J7_fill_d0a16 {G : ah_G}   (x0 : Nat) (x1 : Int64) (σ : ah_H) (r : ah_H) (h : f_J7_fill_d0a16  x0 x1 σ = some r) : AM G m_J7_fill_d0a16 0 0 0 [.ref x0, .long x1] σ (ah_rv r) := aw_enter (by decide) (Nat.le_of_ble_eq_true rfl) (c_J7_fill_d0a16_0 _ _ _ _ h)
def f_J7_fill_53178_5_b  (K5 : Nat → Int32 → Int32 → Int32 → ah_H → Option (ah_H)) (x0 : Nat) (x1 : Int32) (x2 : Int32) (x3 : Int32) (σ : ah_H) : Option (ah_H) :=
  if x3 ≤ x2 then (some σ) else ((op_sI σ x0 x2 x1).bind fun σ1 => K5 x0 x1 (x2 + (1 : Int32)) x3 σ1)
def f_J7_fill_53178_5   : Nat → Nat → Int32 → Int32 → Int32 → ah_H → Option (ah_H)
  | 0, _, _, _, _, _ => none
  | n + 1, x0, x1, x2, x3, σ => f_J7_fill_53178_5_b (f_J7_fill_53178_5 n) x0 x1 x2 x3 σ
def f_J7_fill_53178_0   (x0 : Nat) (x1 : Int32) (σ : ah_H) : Option (ah_H) :=
  (op_len .int σ x0).bind fun n1 => f_J7_fill_53178_5 5000 x0 x1 (0 : Int32) (Int32.ofNat n1) σ
def f_J7_fill_53178  (x0 : Nat) (x1 : Int32) (σ : ah_H) : Option (ah_H) := f_J7_fill_53178_0 x0 x1 σ
set_option maxRecDepth 100000 in
set_option maxHeartbeats 4000000 in
theorem c_J7_fill_53178_5_b {G : ah_G}  (K5 : Nat → Int32 → Int32 → Int32 → ah_H → Option (ah_H)) (hK5 : ∀ (x0 : Nat) (x1 : Int32) (x2 : Int32) (x3 : Int32) (σ : ah_H) (r : ah_H), K5 x0 x1 x2 x3 σ = some r → AW G m_J7_fill_53178 0 0 0 5 [(0, .ref x0), (1, .int x1), (2, .int x2), (3, .int x3)] [] σ (ah_rv r)) : ∀ (x0 : Nat) (x1 : Int32) (x2 : Int32) (x3 : Int32) (σ : ah_H) (r : ah_H), f_J7_fill_53178_5_b  K5 x0 x1 x2 x3 σ = some r → AW G m_J7_fill_53178 0 0 0 5 [(0, .ref x0), (1, .int x1), (2, .int x2), (3, .int x3)] [] σ (ah_rv r) := by
  intro x0 x1 x2 x3 σ r h
  unfold f_J7_fill_53178_5_b at h
  refine aw_iload_n (pc := 5) 2 dJ7_fill_53178_5 rfl ?_
  refine aw_iload_n (pc := 6) 3 dJ7_fill_53178_6 rfl ?_
  refine aw_icmp_ge (pc := 7) 20 dJ7_fill_53178_7 (by decide) (fun z => ?_) (fun z => ?_)
  · replace h := (if_pos z).symm.trans h
    exact ow_vret (pc := 20) h dJ7_fill_53178_20 rfl
  · replace h := (if_neg z).symm.trans h
    refine aw_aload_n (pc := 10) 0 dJ7_fill_53178_10 rfl ?_
    refine aw_iload_n (pc := 11) 2 dJ7_fill_53178_11 rfl ?_
    refine aw_iload_n (pc := 12) 1 dJ7_fill_53178_12 rfl ?_
    obtain ⟨σ1, e, h⟩ := op_bd h
    refine ow_sI (pc := 13) e dJ7_fill_53178_13 ?_
    refine aw_iinc (pc := 14) 2 [(2, .int (x2 + (1 : Int32))), (0, .ref x0), (1, .int x1), (3, .int x3)] (x2 + (1 : Int32)) dJ7_fill_53178_14 rfl rfl (by decide) rfl ?_
    refine aw_goto (pc := 17) 5 dJ7_fill_53178_17 (by decide) ?_
    refine aw_sub [1, 2, 0, 3] rfl ?_
    exact hK5 _ _ _ _ _ _ h
theorem c_J7_fill_53178_5 {G : ah_G}   : ∀ (n : Nat) (x0 : Nat) (x1 : Int32) (x2 : Int32) (x3 : Int32) (σ : ah_H) (r : ah_H), f_J7_fill_53178_5   n x0 x1 x2 x3 σ = some r → AW G m_J7_fill_53178 0 0 0 5 [(0, .ref x0), (1, .int x1), (2, .int x2), (3, .int x3)] [] σ (ah_rv r) := by
  intro n
  induction n with
  | zero => intro x0 x1 x2 x3 σ r h; cases h
  | succ n ih => intro x0 x1 x2 x3 σ r h; exact c_J7_fill_53178_5_b   _ ih x0 x1 x2 x3 σ r h
set_option maxRecDepth 100000 in
set_option maxHeartbeats 4000000 in
theorem c_J7_fill_53178_0 {G : ah_G}   : ∀ (x0 : Nat) (x1 : Int32) (σ : ah_H) (r : ah_H), f_J7_fill_53178_0   x0 x1 σ = some r → AW G m_J7_fill_53178 0 0 0 0 [(0, .ref x0), (1, .int x1)] [] σ (ah_rv r) := by
  intro x0 x1 σ r h
  unfold f_J7_fill_53178_0 at h
  refine aw_iconst (pc := 0) (v := (0 : Int32)) dJ7_fill_53178_0 (by decide) ?_
  refine aw_istore_n (pc := 1) [(2, .int (0 : Int32)), (0, .ref x0), (1, .int x1)] dJ7_fill_53178_1 rfl (by decide) rfl ?_
  refine aw_aload_n (pc := 2) 1 dJ7_fill_53178_2 rfl ?_
  obtain ⟨n1, e, h⟩ := op_bd h
  refine ow_alen (pc := 3) e dJ7_fill_53178_3 (by decide) ?_
  refine aw_istore_n (pc := 4) [(3, .int (Int32.ofNat n1)), (2, .int (0 : Int32)), (0, .ref x0), (1, .int x1)] dJ7_fill_53178_4 rfl (by decide) rfl ?_
  refine aw_sub [2, 3, 1, 0] rfl ?_
  exact c_J7_fill_53178_5  _ _ _ _ _ _ _ h
theorem c_J7_fill_53178 {G : ah_G}   (x0 : Nat) (x1 : Int32) (σ : ah_H) (r : ah_H) (h : f_J7_fill_53178  x0 x1 σ = some r) : AM G m_J7_fill_53178 0 0 0 [.ref x0, .int x1] σ (ah_rv r) := aw_enter (by decide) (Nat.le_of_ble_eq_true rfl) (c_J7_fill_53178_0 _ _ _ _ h)
def f_X4_isTold_0   (x0 : Nat) (x1 : Int32) (σ : ah_H) : Option (Int32 × ah_H) :=
  (op_gR 4 5 σ x0).bind fun v1 => (op_aI σ v1 x1).bind fun v2 => (op_gR 4 4 σ x0).bind fun v3 => (op_aI σ v3 x1).bind fun v4 => if v2 ≤ v4 then ((op_rz (0 : Int32)).map fun q => (q, σ)) else ((op_rz (1 : Int32)).map fun q => (q, σ))
def f_X4_isTold  (x0 : Nat) (x1 : Int32) (σ : ah_H) : Option (Int32 × ah_H) := op_ck 4 σ x0 (f_X4_isTold_0 x0 x1 σ)
set_option maxRecDepth 100000 in
set_option maxHeartbeats 4000000 in
theorem c_X4_isTold_0 {G : ah_G}   : ∀ (x0 : Nat) (x1 : Int32) (σ : ah_H) (r : Int32 × ah_H), f_X4_isTold_0   x0 x1 σ = some r → AW G m_X4_isTold 0 0 0 0 [(0, .ref x0), (1, .int x1)] [] σ (ah_ri r) := by
  intro x0 x1 σ r h
  unfold f_X4_isTold_0 at h
  refine aw_aload_n (pc := 0) 0 dX4_isTold_0 rfl ?_
  obtain ⟨v1, e, h⟩ := op_bd h
  refine ow_gR (pc := 1) e dX4_isTold_1 fd_X4_21 rfl ?_
  refine aw_iload_n (pc := 4) 1 dX4_isTold_4 rfl ?_
  obtain ⟨v2, e, h⟩ := op_bd h
  refine ow_aI (pc := 5) e dX4_isTold_5 ?_
  refine aw_aload_n (pc := 6) 0 dX4_isTold_6 rfl ?_
  obtain ⟨v3, e, h⟩ := op_bd h
  refine ow_gR (pc := 7) e dX4_isTold_7 fd_X4_18 rfl ?_
  refine aw_iload_n (pc := 10) 1 dX4_isTold_10 rfl ?_
  obtain ⟨v4, e, h⟩ := op_bd h
  refine ow_aI (pc := 11) e dX4_isTold_11 ?_
  refine aw_icmp_le (pc := 12) 19 dX4_isTold_12 (by decide) (fun z => ?_) (fun z => ?_)
  · replace h := (if_pos z).symm.trans h
    refine aw_iconst (pc := 19) (v := (0 : Int32)) dX4_isTold_19 (by decide) ?_
    exact ow_zret (pc := 20) h dX4_isTold_20 rfl
  · replace h := (if_neg z).symm.trans h
    refine aw_iconst (pc := 15) (v := (1 : Int32)) dX4_isTold_15 (by decide) ?_
    refine aw_goto (pc := 16) 20 dX4_isTold_16 (by decide) ?_
    exact ow_zret (pc := 20) h dX4_isTold_20 rfl
theorem c_X4_isTold {G : ah_G}   (x0 : Nat) (x1 : Int32) (σ : ah_H) (r : Int32 × ah_H) (h : f_X4_isTold  x0 x1 σ = some r) : AM G m_X4_isTold 0 0 0 [.ref x0, .int x1] σ (ah_ri r) := aw_enter (by decide) (Nat.le_of_ble_eq_true rfl) (c_X4_isTold_0 _ _ _ _ (op_ck_k h))
def f_X9_fallByLength_0   (x0 : Nat) (x1 : Int32) (x2 : Int32) (σ : ah_H) : Option (Int32 × ah_H) :=
  (op_gR 9 5 σ x0).bind fun v1 => (op_aR .int σ v1 x1).bind fun v2 => (op_aI σ v2 (2 : Int32)).bind fun v3 => if v3 ≤ 0 then (some ((0 : Int32), σ)) else ((op_div x2 v3).bind fun v4 => some (v4, σ))
def f_X9_fallByLength  (x0 : Nat) (x1 : Int32) (x2 : Int32) (σ : ah_H) : Option (Int32 × ah_H) := op_ck 9 σ x0 (f_X9_fallByLength_0 x0 x1 x2 σ)
set_option maxRecDepth 100000 in
set_option maxHeartbeats 4000000 in
theorem c_X9_fallByLength_0 {G : ah_G}   : ∀ (x0 : Nat) (x1 : Int32) (x2 : Int32) (σ : ah_H) (r : Int32 × ah_H), f_X9_fallByLength_0   x0 x1 x2 σ = some r → AW G m_X9_fallByLength 0 0 0 0 [(0, .ref x0), (1, .int x1), (2, .int x2)] [] σ (ah_ri r) := by
  intro x0 x1 x2 σ r h
  unfold f_X9_fallByLength_0 at h
  refine aw_aload_n (pc := 0) 0 dX9_fallByLength_0 rfl ?_
  obtain ⟨v1, e, h⟩ := op_bd h
  refine ow_gR (pc := 1) e dX9_fallByLength_1 fd_X9_16 rfl ?_
  refine aw_iload_n (pc := 4) 1 dX9_fallByLength_4 rfl ?_
  obtain ⟨v2, e, h⟩ := op_bd h
  refine ow_aR (pc := 5) e dX9_fallByLength_5 (by decide) ?_
  refine aw_iconst (pc := 6) (v := (2 : Int32)) dX9_fallByLength_6 (by decide) ?_
  obtain ⟨v3, e, h⟩ := op_bd h
  refine ow_aI (pc := 7) e dX9_fallByLength_7 ?_
  refine aw_istore_n (pc := 8) [(3, .int v3), (0, .ref x0), (1, .int x1), (2, .int x2)] dX9_fallByLength_8 rfl (by decide) rfl ?_
  refine aw_iload_n (pc := 9) 0 dX9_fallByLength_9 rfl ?_
  refine aw_if_le (pc := 10) 19 dX9_fallByLength_10 (by decide) (fun z => ?_) (fun z => ?_)
  · replace h := (if_pos z).symm.trans h
    refine aw_iconst (pc := 19) (v := (0 : Int32)) dX9_fallByLength_19 (by decide) ?_
    exact ow_iret (pc := 20) h dX9_fallByLength_20 rfl
  · replace h := (if_neg z).symm.trans h
    refine aw_iload_n (pc := 13) 3 dX9_fallByLength_13 rfl ?_
    refine aw_iload_n (pc := 14) 0 dX9_fallByLength_14 rfl ?_
    obtain ⟨v4, e, h⟩ := op_bd h
    refine ow_div (pc := 15) e dX9_fallByLength_15 ?_
    refine aw_goto (pc := 16) 20 dX9_fallByLength_16 (by decide) ?_
    exact ow_iret (pc := 20) h dX9_fallByLength_20 rfl
theorem c_X9_fallByLength {G : ah_G}   (x0 : Nat) (x1 : Int32) (x2 : Int32) (σ : ah_H) (r : Int32 × ah_H) (h : f_X9_fallByLength  x0 x1 x2 σ = some r) : AM G m_X9_fallByLength 0 0 0 [.ref x0, .int x1, .int x2] σ (ah_ri r) := aw_enter (by decide) (Nat.le_of_ble_eq_true rfl) (c_X9_fallByLength_0 _ _ _ _ _ (op_ck_k h))
def f_X9_otherEnd_0   (x0 : Nat) (x1 : Int32) (x2 : Int32) (σ : ah_H) : Option (Int32 × ah_H) :=
  (op_gR 9 5 σ x0).bind fun v1 => (op_aR .int σ v1 x1).bind fun v2 => (op_aI σ v2 (0 : Int32)).bind fun v3 => if v3 = x2 then ((op_gR 9 5 σ x0).bind fun v7 => (op_aR .int σ v7 x1).bind fun v8 => (op_aI σ v8 (1 : Int32)).bind fun v9 => some (v9, σ)) else ((op_gR 9 5 σ x0).bind fun v4 => (op_aR .int σ v4 x1).bind fun v5 => (op_aI σ v5 (0 : Int32)).bind fun v6 => some (v6, σ))
def f_X9_otherEnd  (x0 : Nat) (x1 : Int32) (x2 : Int32) (σ : ah_H) : Option (Int32 × ah_H) := op_ck 9 σ x0 (f_X9_otherEnd_0 x0 x1 x2 σ)
set_option maxRecDepth 100000 in
set_option maxHeartbeats 4000000 in
theorem c_X9_otherEnd_0 {G : ah_G}   : ∀ (x0 : Nat) (x1 : Int32) (x2 : Int32) (σ : ah_H) (r : Int32 × ah_H), f_X9_otherEnd_0   x0 x1 x2 σ = some r → AW G m_X9_otherEnd 0 0 0 0 [(0, .ref x0), (1, .int x1), (2, .int x2)] [] σ (ah_ri r) := by
  intro x0 x1 x2 σ r h
  unfold f_X9_otherEnd_0 at h
  refine aw_aload_n (pc := 0) 0 dX9_otherEnd_0 rfl ?_
  obtain ⟨v1, e, h⟩ := op_bd h
  refine ow_gR (pc := 1) e dX9_otherEnd_1 fd_X9_16 rfl ?_
  refine aw_iload_n (pc := 4) 1 dX9_otherEnd_4 rfl ?_
  obtain ⟨v2, e, h⟩ := op_bd h
  refine ow_aR (pc := 5) e dX9_otherEnd_5 (by decide) ?_
  refine aw_iconst (pc := 6) (v := (0 : Int32)) dX9_otherEnd_6 (by decide) ?_
  obtain ⟨v3, e, h⟩ := op_bd h
  refine ow_aI (pc := 7) e dX9_otherEnd_7 ?_
  refine aw_iload_n (pc := 8) 2 dX9_otherEnd_8 rfl ?_
  refine aw_icmp_ne (pc := 9) 23 dX9_otherEnd_9 (by decide) (fun z => ?_) (fun z => ?_)
  · replace h := (if_neg z).symm.trans h
    refine aw_aload_n (pc := 23) 0 dX9_otherEnd_23 rfl ?_
    obtain ⟨v4, e, h⟩ := op_bd h
    refine ow_gR (pc := 24) e dX9_otherEnd_24 fd_X9_16 rfl ?_
    refine aw_iload_n (pc := 27) 1 dX9_otherEnd_27 rfl ?_
    obtain ⟨v5, e, h⟩ := op_bd h
    refine ow_aR (pc := 28) e dX9_otherEnd_28 (by decide) ?_
    refine aw_iconst (pc := 29) (v := (0 : Int32)) dX9_otherEnd_29 (by decide) ?_
    obtain ⟨v6, e, h⟩ := op_bd h
    refine ow_aI (pc := 30) e dX9_otherEnd_30 ?_
    exact ow_iret (pc := 31) h dX9_otherEnd_31 rfl
  · replace h := (if_pos z).symm.trans h
    refine aw_aload_n (pc := 12) 0 dX9_otherEnd_12 rfl ?_
    obtain ⟨v7, e, h⟩ := op_bd h
    refine ow_gR (pc := 13) e dX9_otherEnd_13 fd_X9_16 rfl ?_
    refine aw_iload_n (pc := 16) 1 dX9_otherEnd_16 rfl ?_
    obtain ⟨v8, e, h⟩ := op_bd h
    refine ow_aR (pc := 17) e dX9_otherEnd_17 (by decide) ?_
    refine aw_iconst (pc := 18) (v := (1 : Int32)) dX9_otherEnd_18 (by decide) ?_
    obtain ⟨v9, e, h⟩ := op_bd h
    refine ow_aI (pc := 19) e dX9_otherEnd_19 ?_
    refine aw_goto (pc := 20) 31 dX9_otherEnd_20 (by decide) ?_
    exact ow_iret (pc := 31) h dX9_otherEnd_31 rfl
theorem c_X9_otherEnd {G : ah_G}   (x0 : Nat) (x1 : Int32) (x2 : Int32) (σ : ah_H) (r : Int32 × ah_H) (h : f_X9_otherEnd  x0 x1 x2 σ = some r) : AM G m_X9_otherEnd 0 0 0 [.ref x0, .int x1, .int x2] σ (ah_ri r) := aw_enter (by decide) (Nat.le_of_ble_eq_true rfl) (c_X9_otherEnd_0 _ _ _ _ _ (op_ck_k h))
def f_X4_joined_217   (x1 : Int64) (x3 : Int64) (s0 : Int64) (s1 : Int64) (s2 : Int64) (σ : ah_H) : Option (Int64 × ah_H) :=
  (op_ldiv s1 s2).bind fun v1 => if (lg_cmp s0 v1) ≤ 0 then (some ((x1 * x3), σ)) else (some ((-9223372036854775808 : Int64), σ))
def f_X4_joined_202   (x1 : Int64) (x3 : Int64) (s0 : Int64) (σ : ah_H) : Option (Int64 × ah_H) :=
  if 0 ≤ (lg_cmp x3 (0 : Int64)) then (f_X4_joined_217 x1 x3 s0 (1000000000000 : Int64) x3 σ) else (f_X4_joined_217 x1 x3 s0 (1000000000000 : Int64) (-x3) σ)
def f_X4_joined_0   (x0 : Int32) (x1 : Int64) (x3 : Int64) (σ : ah_H) : Option (Int64 × ah_H) :=
  if x0 = (2 : Int32) then (if (lg_cmp x1 (0 : Int64)) = 0 then (if (lg_cmp x3 (0 : Int64)) = 0 then (some ((0 : Int64), σ)) else (some ((1 : Int64), σ))) else (some ((1 : Int64), σ))) else (if x0 = (3 : Int32) then (if (lg_cmp x1 (0 : Int64)) = 0 then (some ((0 : Int64), σ)) else (if (lg_cmp x3 (0 : Int64)) = 0 then (some ((0 : Int64), σ)) else (some ((1 : Int64), σ)))) else (if x0 = (4 : Int32) then (some ((-9223372036854775808 : Int64), σ)) else (if x0 = (5 : Int32) then (if 0 ≤ (lg_cmp x1 x3) then (some ((0 : Int64), σ)) else (some ((1 : Int64), σ))) else (if x0 = (6 : Int32) then (if 0 < (lg_cmp x1 x3) then (some ((0 : Int64), σ)) else (some ((1 : Int64), σ))) else (if x0 = (7 : Int32) then (if (lg_cmp x1 x3) = 0 then (some ((1 : Int64), σ)) else (some ((0 : Int64), σ))) else (if x0 = (8 : Int32) then (if (lg_cmp x1 x3) = 0 then (some ((0 : Int64), σ)) else (some ((1 : Int64), σ))) else (if x0 = (9 : Int32) then (if (lg_cmp x1 x3) < 0 then (some ((0 : Int64), σ)) else (some ((1 : Int64), σ))) else (if x0 = (10 : Int32) then (if (lg_cmp x1 x3) ≤ 0 then (some ((0 : Int64), σ)) else (some ((1 : Int64), σ))) else (if x0 = (11 : Int32) then (some ((x1 + x3), σ)) else (if x0 = (12 : Int32) then (some ((x1 - x3), σ)) else (if x0 = (13 : Int32) then (if (lg_cmp x3 (0 : Int64)) = 0 then (some ((x1 * x3), σ)) else (if 0 ≤ (lg_cmp x1 (0 : Int64)) then (f_X4_joined_202 x1 x3 x1 σ) else (f_X4_joined_202 x1 x3 (-x1) σ))) else (if x0 = (14 : Int32) then (if (lg_cmp x3 (0 : Int64)) = 0 then (some ((-9223372036854775808 : Int64), σ)) else ((op_ldiv x1 x3).bind fun v1 => some (v1, σ))) else (some ((-9223372036854775808 : Int64), σ))))))))))))))
def f_X4_joined  (x0 : Int32) (x1 : Int64) (x3 : Int64) (σ : ah_H) : Option (Int64 × ah_H) := f_X4_joined_0 x0 x1 x3 σ
set_option maxRecDepth 100000 in
set_option maxHeartbeats 4000000 in
theorem c_X4_joined_217 {G : ah_G}   : ∀ (x1 : Int64) (x3 : Int64) (s0 : Int64) (s1 : Int64) (s2 : Int64) (σ : ah_H) (r : Int64 × ah_H), f_X4_joined_217   x1 x3 s0 s1 s2 σ = some r → AW G m_X4_joined 0 0 0 217 [(1, .long x1), (3, .long x3)] [.long s2, .long s1, .long s0] σ (ah_rl r) := by
  intro x1 x3 s0 s1 s2 σ r h
  unfold f_X4_joined_217 at h
  obtain ⟨v1, e, h⟩ := op_bd h
  refine ow_ldiv (pc := 217) e dX4_joined_217 ?_
  refine aw_lcmp (pc := 218) dX4_joined_218 ?_
  refine aw_if_le (pc := 219) 228 dX4_joined_219 (by decide) (fun z => ?_) (fun z => ?_)
  · replace h := (if_pos z).symm.trans h
    refine aw_lload_n (pc := 228) 0 dX4_joined_228 rfl ?_
    refine aw_lload_n (pc := 229) 1 dX4_joined_229 rfl ?_
    refine aw_lmul (pc := 230) dX4_joined_230 ?_
    exact ow_lret (pc := 231) h dX4_joined_231 rfl
  · replace h := (if_neg z).symm.trans h
    refine aw_ldc2 (pc := 222) dX4_joined_222 kl_X4_61 ?_
    refine aw_goto (pc := 225) 231 dX4_joined_225 (by decide) ?_
    exact ow_lret (pc := 231) h dX4_joined_231 rfl
set_option maxRecDepth 100000 in
set_option maxHeartbeats 4000000 in
theorem c_X4_joined_202 {G : ah_G}   : ∀ (x1 : Int64) (x3 : Int64) (s0 : Int64) (σ : ah_H) (r : Int64 × ah_H), f_X4_joined_202   x1 x3 s0 σ = some r → AW G m_X4_joined 0 0 0 202 [(1, .long x1), (3, .long x3)] [.long s0] σ (ah_rl r) := by
  intro x1 x3 s0 σ r h
  unfold f_X4_joined_202 at h
  refine aw_ldc2 (pc := 202) dX4_joined_202 kl_X4_73 ?_
  refine aw_lload_n (pc := 205) 1 dX4_joined_205 rfl ?_
  refine aw_lconst (pc := 206) (v := (0 : Int64)) dX4_joined_206 (by decide) ?_
  refine aw_lcmp (pc := 207) dX4_joined_207 ?_
  refine aw_if_ge (pc := 208) 216 dX4_joined_208 (by decide) (fun z => ?_) (fun z => ?_)
  · replace h := (if_pos z).symm.trans h
    refine aw_lload_n (pc := 216) 1 dX4_joined_216 rfl ?_
    exact c_X4_joined_217  _ _ _ _ _ _ _ h
  · replace h := (if_neg z).symm.trans h
    refine aw_lload_n (pc := 211) 1 dX4_joined_211 rfl ?_
    refine aw_lneg (pc := 212) dX4_joined_212 ?_
    refine aw_goto (pc := 213) 217 dX4_joined_213 (by decide) ?_
    exact c_X4_joined_217  _ _ _ _ _ _ _ h
set_option maxRecDepth 100000 in
set_option maxHeartbeats 4000000 in
theorem c_X4_joined_0 {G : ah_G}   : ∀ (x0 : Int32) (x1 : Int64) (x3 : Int64) (σ : ah_H) (r : Int64 × ah_H), f_X4_joined_0   x0 x1 x3 σ = some r → AW G m_X4_joined 0 0 0 0 [(0, .int x0), (1, .long x1), (3, .long x3)] [] σ (ah_rl r) := by
  intro x0 x1 x3 σ r h
  unfold f_X4_joined_0 at h
  refine aw_iload_n (pc := 0) 0 dX4_joined_0 rfl ?_
  by_cases z0 : x0 = (2 : Int32)
  · replace h := (if_pos z0).symm.trans h
    refine aw_tableIn (pc := 1) (off := 67) 68 dX4_joined_1 (by rw [z0]; decide) (by rw [z0]; decide) (by rw [z0]; decide) (by decide) ?_
    refine aw_lload_n (pc := 68) 1 dX4_joined_68 rfl ?_
    refine aw_lconst (pc := 69) (v := (0 : Int64)) dX4_joined_69 (by decide) ?_
    refine aw_lcmp (pc := 70) dX4_joined_70 ?_
    refine aw_if_ne (pc := 71) 80 dX4_joined_71 (by decide) (fun z => ?_) (fun z => ?_)
    · replace h := (if_neg z).symm.trans h
      refine aw_lconst (pc := 80) (v := (1 : Int64)) dX4_joined_80 (by decide) ?_
      refine aw_goto (pc := 81) 85 dX4_joined_81 (by decide) ?_
      exact ow_lret (pc := 85) h dX4_joined_85 rfl
    · replace h := (if_pos z).symm.trans h
      refine aw_lload_n (pc := 74) 2 dX4_joined_74 rfl ?_
      refine aw_lconst (pc := 75) (v := (0 : Int64)) dX4_joined_75 (by decide) ?_
      refine aw_lcmp (pc := 76) dX4_joined_76 ?_
      refine aw_if_eq (pc := 77) 84 dX4_joined_77 (by decide) (fun z => ?_) (fun z => ?_)
      · replace h := (if_pos z).symm.trans h
        refine aw_lconst (pc := 84) (v := (0 : Int64)) dX4_joined_84 (by decide) ?_
        exact ow_lret (pc := 85) h dX4_joined_85 rfl
      · replace h := (if_neg z).symm.trans h
        refine aw_lconst (pc := 80) (v := (1 : Int64)) dX4_joined_80 (by decide) ?_
        refine aw_goto (pc := 81) 85 dX4_joined_81 (by decide) ?_
        exact ow_lret (pc := 85) h dX4_joined_85 rfl
  · replace h := (if_neg z0).symm.trans h
    by_cases z1 : x0 = (3 : Int32)
    · replace h := (if_pos z1).symm.trans h
      refine aw_tableIn (pc := 1) (off := 85) 86 dX4_joined_1 (by rw [z1]; decide) (by rw [z1]; decide) (by rw [z1]; decide) (by decide) ?_
      refine aw_lload_n (pc := 86) 1 dX4_joined_86 rfl ?_
      refine aw_lconst (pc := 87) (v := (0 : Int64)) dX4_joined_87 (by decide) ?_
      refine aw_lcmp (pc := 88) dX4_joined_88 ?_
      refine aw_if_eq (pc := 89) 102 dX4_joined_89 (by decide) (fun z => ?_) (fun z => ?_)
      · replace h := (if_pos z).symm.trans h
        refine aw_lconst (pc := 102) (v := (0 : Int64)) dX4_joined_102 (by decide) ?_
        exact ow_lret (pc := 103) h dX4_joined_103 rfl
      · replace h := (if_neg z).symm.trans h
        refine aw_lload_n (pc := 92) 2 dX4_joined_92 rfl ?_
        refine aw_lconst (pc := 93) (v := (0 : Int64)) dX4_joined_93 (by decide) ?_
        refine aw_lcmp (pc := 94) dX4_joined_94 ?_
        refine aw_if_eq (pc := 95) 102 dX4_joined_95 (by decide) (fun z => ?_) (fun z => ?_)
        · replace h := (if_pos z).symm.trans h
          refine aw_lconst (pc := 102) (v := (0 : Int64)) dX4_joined_102 (by decide) ?_
          exact ow_lret (pc := 103) h dX4_joined_103 rfl
        · replace h := (if_neg z).symm.trans h
          refine aw_lconst (pc := 98) (v := (1 : Int64)) dX4_joined_98 (by decide) ?_
          refine aw_goto (pc := 99) 103 dX4_joined_99 (by decide) ?_
          exact ow_lret (pc := 103) h dX4_joined_103 rfl
    · replace h := (if_neg z1).symm.trans h
      by_cases z2 : x0 = (4 : Int32)
      · replace h := (if_pos z2).symm.trans h
        refine aw_tableIn (pc := 1) (off := 247) 248 dX4_joined_1 (by rw [z2]; decide) (by rw [z2]; decide) (by rw [z2]; decide) (by decide) ?_
        refine aw_ldc2 (pc := 248) dX4_joined_248 kl_X4_61 ?_
        exact ow_lret (pc := 251) h dX4_joined_251 rfl
      · replace h := (if_neg z2).symm.trans h
        by_cases z3 : x0 = (5 : Int32)
        · replace h := (if_pos z3).symm.trans h
          refine aw_tableIn (pc := 1) (off := 103) 104 dX4_joined_1 (by rw [z3]; decide) (by rw [z3]; decide) (by rw [z3]; decide) (by decide) ?_
          refine aw_lload_n (pc := 104) 1 dX4_joined_104 rfl ?_
          refine aw_lload_n (pc := 105) 2 dX4_joined_105 rfl ?_
          refine aw_lcmp (pc := 106) dX4_joined_106 ?_
          refine aw_if_ge (pc := 107) 114 dX4_joined_107 (by decide) (fun z => ?_) (fun z => ?_)
          · replace h := (if_pos z).symm.trans h
            refine aw_lconst (pc := 114) (v := (0 : Int64)) dX4_joined_114 (by decide) ?_
            exact ow_lret (pc := 115) h dX4_joined_115 rfl
          · replace h := (if_neg z).symm.trans h
            refine aw_lconst (pc := 110) (v := (1 : Int64)) dX4_joined_110 (by decide) ?_
            refine aw_goto (pc := 111) 115 dX4_joined_111 (by decide) ?_
            exact ow_lret (pc := 115) h dX4_joined_115 rfl
        · replace h := (if_neg z3).symm.trans h
          by_cases z4 : x0 = (6 : Int32)
          · replace h := (if_pos z4).symm.trans h
            refine aw_tableIn (pc := 1) (off := 115) 116 dX4_joined_1 (by rw [z4]; decide) (by rw [z4]; decide) (by rw [z4]; decide) (by decide) ?_
            refine aw_lload_n (pc := 116) 1 dX4_joined_116 rfl ?_
            refine aw_lload_n (pc := 117) 2 dX4_joined_117 rfl ?_
            refine aw_lcmp (pc := 118) dX4_joined_118 ?_
            refine aw_if_gt (pc := 119) 126 dX4_joined_119 (by decide) (fun z => ?_) (fun z => ?_)
            · replace h := (if_pos z).symm.trans h
              refine aw_lconst (pc := 126) (v := (0 : Int64)) dX4_joined_126 (by decide) ?_
              exact ow_lret (pc := 127) h dX4_joined_127 rfl
            · replace h := (if_neg z).symm.trans h
              refine aw_lconst (pc := 122) (v := (1 : Int64)) dX4_joined_122 (by decide) ?_
              refine aw_goto (pc := 123) 127 dX4_joined_123 (by decide) ?_
              exact ow_lret (pc := 127) h dX4_joined_127 rfl
          · replace h := (if_neg z4).symm.trans h
            by_cases z5 : x0 = (7 : Int32)
            · replace h := (if_pos z5).symm.trans h
              refine aw_tableIn (pc := 1) (off := 127) 128 dX4_joined_1 (by rw [z5]; decide) (by rw [z5]; decide) (by rw [z5]; decide) (by decide) ?_
              refine aw_lload_n (pc := 128) 1 dX4_joined_128 rfl ?_
              refine aw_lload_n (pc := 129) 2 dX4_joined_129 rfl ?_
              refine aw_lcmp (pc := 130) dX4_joined_130 ?_
              refine aw_if_ne (pc := 131) 138 dX4_joined_131 (by decide) (fun z => ?_) (fun z => ?_)
              · replace h := (if_neg z).symm.trans h
                refine aw_lconst (pc := 138) (v := (0 : Int64)) dX4_joined_138 (by decide) ?_
                exact ow_lret (pc := 139) h dX4_joined_139 rfl
              · replace h := (if_pos z).symm.trans h
                refine aw_lconst (pc := 134) (v := (1 : Int64)) dX4_joined_134 (by decide) ?_
                refine aw_goto (pc := 135) 139 dX4_joined_135 (by decide) ?_
                exact ow_lret (pc := 139) h dX4_joined_139 rfl
            · replace h := (if_neg z5).symm.trans h
              by_cases z6 : x0 = (8 : Int32)
              · replace h := (if_pos z6).symm.trans h
                refine aw_tableIn (pc := 1) (off := 139) 140 dX4_joined_1 (by rw [z6]; decide) (by rw [z6]; decide) (by rw [z6]; decide) (by decide) ?_
                refine aw_lload_n (pc := 140) 1 dX4_joined_140 rfl ?_
                refine aw_lload_n (pc := 141) 2 dX4_joined_141 rfl ?_
                refine aw_lcmp (pc := 142) dX4_joined_142 ?_
                refine aw_if_eq (pc := 143) 150 dX4_joined_143 (by decide) (fun z => ?_) (fun z => ?_)
                · replace h := (if_pos z).symm.trans h
                  refine aw_lconst (pc := 150) (v := (0 : Int64)) dX4_joined_150 (by decide) ?_
                  exact ow_lret (pc := 151) h dX4_joined_151 rfl
                · replace h := (if_neg z).symm.trans h
                  refine aw_lconst (pc := 146) (v := (1 : Int64)) dX4_joined_146 (by decide) ?_
                  refine aw_goto (pc := 147) 151 dX4_joined_147 (by decide) ?_
                  exact ow_lret (pc := 151) h dX4_joined_151 rfl
              · replace h := (if_neg z6).symm.trans h
                by_cases z7 : x0 = (9 : Int32)
                · replace h := (if_pos z7).symm.trans h
                  refine aw_tableIn (pc := 1) (off := 151) 152 dX4_joined_1 (by rw [z7]; decide) (by rw [z7]; decide) (by rw [z7]; decide) (by decide) ?_
                  refine aw_lload_n (pc := 152) 1 dX4_joined_152 rfl ?_
                  refine aw_lload_n (pc := 153) 2 dX4_joined_153 rfl ?_
                  refine aw_lcmp (pc := 154) dX4_joined_154 ?_
                  refine aw_if_lt (pc := 155) 162 dX4_joined_155 (by decide) (fun z => ?_) (fun z => ?_)
                  · replace h := (if_pos z).symm.trans h
                    refine aw_lconst (pc := 162) (v := (0 : Int64)) dX4_joined_162 (by decide) ?_
                    exact ow_lret (pc := 163) h dX4_joined_163 rfl
                  · replace h := (if_neg z).symm.trans h
                    refine aw_lconst (pc := 158) (v := (1 : Int64)) dX4_joined_158 (by decide) ?_
                    refine aw_goto (pc := 159) 163 dX4_joined_159 (by decide) ?_
                    exact ow_lret (pc := 163) h dX4_joined_163 rfl
                · replace h := (if_neg z7).symm.trans h
                  by_cases z8 : x0 = (10 : Int32)
                  · replace h := (if_pos z8).symm.trans h
                    refine aw_tableIn (pc := 1) (off := 163) 164 dX4_joined_1 (by rw [z8]; decide) (by rw [z8]; decide) (by rw [z8]; decide) (by decide) ?_
                    refine aw_lload_n (pc := 164) 1 dX4_joined_164 rfl ?_
                    refine aw_lload_n (pc := 165) 2 dX4_joined_165 rfl ?_
                    refine aw_lcmp (pc := 166) dX4_joined_166 ?_
                    refine aw_if_le (pc := 167) 174 dX4_joined_167 (by decide) (fun z => ?_) (fun z => ?_)
                    · replace h := (if_pos z).symm.trans h
                      refine aw_lconst (pc := 174) (v := (0 : Int64)) dX4_joined_174 (by decide) ?_
                      exact ow_lret (pc := 175) h dX4_joined_175 rfl
                    · replace h := (if_neg z).symm.trans h
                      refine aw_lconst (pc := 170) (v := (1 : Int64)) dX4_joined_170 (by decide) ?_
                      refine aw_goto (pc := 171) 175 dX4_joined_171 (by decide) ?_
                      exact ow_lret (pc := 175) h dX4_joined_175 rfl
                  · replace h := (if_neg z8).symm.trans h
                    by_cases z9 : x0 = (11 : Int32)
                    · replace h := (if_pos z9).symm.trans h
                      refine aw_tableIn (pc := 1) (off := 175) 176 dX4_joined_1 (by rw [z9]; decide) (by rw [z9]; decide) (by rw [z9]; decide) (by decide) ?_
                      refine aw_lload_n (pc := 176) 1 dX4_joined_176 rfl ?_
                      refine aw_lload_n (pc := 177) 2 dX4_joined_177 rfl ?_
                      refine aw_ladd (pc := 178) dX4_joined_178 ?_
                      exact ow_lret (pc := 179) h dX4_joined_179 rfl
                    · replace h := (if_neg z9).symm.trans h
                      by_cases z10 : x0 = (12 : Int32)
                      · replace h := (if_pos z10).symm.trans h
                        refine aw_tableIn (pc := 1) (off := 179) 180 dX4_joined_1 (by rw [z10]; decide) (by rw [z10]; decide) (by rw [z10]; decide) (by decide) ?_
                        refine aw_lload_n (pc := 180) 1 dX4_joined_180 rfl ?_
                        refine aw_lload_n (pc := 181) 2 dX4_joined_181 rfl ?_
                        refine aw_lsub (pc := 182) dX4_joined_182 ?_
                        exact ow_lret (pc := 183) h dX4_joined_183 rfl
                      · replace h := (if_neg z10).symm.trans h
                        by_cases z11 : x0 = (13 : Int32)
                        · replace h := (if_pos z11).symm.trans h
                          refine aw_tableIn (pc := 1) (off := 183) 184 dX4_joined_1 (by rw [z11]; decide) (by rw [z11]; decide) (by rw [z11]; decide) (by decide) ?_
                          refine aw_lload_n (pc := 184) 2 dX4_joined_184 rfl ?_
                          refine aw_lconst (pc := 185) (v := (0 : Int64)) dX4_joined_185 (by decide) ?_
                          refine aw_lcmp (pc := 186) dX4_joined_186 ?_
                          refine aw_if_eq (pc := 187) 228 dX4_joined_187 (by decide) (fun z => ?_) (fun z => ?_)
                          · replace h := (if_pos z).symm.trans h
                            refine aw_lload_n (pc := 228) 1 dX4_joined_228 rfl ?_
                            refine aw_lload_n (pc := 229) 2 dX4_joined_229 rfl ?_
                            refine aw_lmul (pc := 230) dX4_joined_230 ?_
                            exact ow_lret (pc := 231) h dX4_joined_231 rfl
                          · replace h := (if_neg z).symm.trans h
                            refine aw_lload_n (pc := 190) 1 dX4_joined_190 rfl ?_
                            refine aw_lconst (pc := 191) (v := (0 : Int64)) dX4_joined_191 (by decide) ?_
                            refine aw_lcmp (pc := 192) dX4_joined_192 ?_
                            refine aw_if_ge (pc := 193) 201 dX4_joined_193 (by decide) (fun z => ?_) (fun z => ?_)
                            · replace h := (if_pos z).symm.trans h
                              refine aw_lload_n (pc := 201) 1 dX4_joined_201 rfl ?_
                              refine aw_sub [1, 2] rfl ?_
                              exact c_X4_joined_202  _ _ _ _ _ h
                            · replace h := (if_neg z).symm.trans h
                              refine aw_lload_n (pc := 196) 1 dX4_joined_196 rfl ?_
                              refine aw_lneg (pc := 197) dX4_joined_197 ?_
                              refine aw_goto (pc := 198) 202 dX4_joined_198 (by decide) ?_
                              refine aw_sub [1, 2] rfl ?_
                              exact c_X4_joined_202  _ _ _ _ _ h
                        · replace h := (if_neg z11).symm.trans h
                          by_cases z12 : x0 = (14 : Int32)
                          · replace h := (if_pos z12).symm.trans h
                            refine aw_tableIn (pc := 1) (off := 231) 232 dX4_joined_1 (by rw [z12]; decide) (by rw [z12]; decide) (by rw [z12]; decide) (by decide) ?_
                            refine aw_lload_n (pc := 232) 2 dX4_joined_232 rfl ?_
                            refine aw_lconst (pc := 233) (v := (0 : Int64)) dX4_joined_233 (by decide) ?_
                            refine aw_lcmp (pc := 234) dX4_joined_234 ?_
                            refine aw_if_ne (pc := 235) 244 dX4_joined_235 (by decide) (fun z => ?_) (fun z => ?_)
                            · replace h := (if_neg z).symm.trans h
                              refine aw_lload_n (pc := 244) 1 dX4_joined_244 rfl ?_
                              refine aw_lload_n (pc := 245) 2 dX4_joined_245 rfl ?_
                              obtain ⟨v1, e, h⟩ := op_bd h
                              refine ow_ldiv (pc := 246) e dX4_joined_246 ?_
                              exact ow_lret (pc := 247) h dX4_joined_247 rfl
                            · replace h := (if_pos z).symm.trans h
                              refine aw_ldc2 (pc := 238) dX4_joined_238 kl_X4_61 ?_
                              refine aw_goto (pc := 241) 247 dX4_joined_241 (by decide) ?_
                              exact ow_lret (pc := 247) h dX4_joined_247 rfl
                          · replace h := (if_neg z12).symm.trans h
                            have wz0 : ¬ (x0).toInt = 2 := fun q => z0 (Int32.toInt_inj.mp q)
                            have wz1 : ¬ (x0).toInt = 3 := fun q => z1 (Int32.toInt_inj.mp q)
                            have wz2 : ¬ (x0).toInt = 4 := fun q => z2 (Int32.toInt_inj.mp q)
                            have wz3 : ¬ (x0).toInt = 5 := fun q => z3 (Int32.toInt_inj.mp q)
                            have wz4 : ¬ (x0).toInt = 6 := fun q => z4 (Int32.toInt_inj.mp q)
                            have wz5 : ¬ (x0).toInt = 7 := fun q => z5 (Int32.toInt_inj.mp q)
                            have wz6 : ¬ (x0).toInt = 8 := fun q => z6 (Int32.toInt_inj.mp q)
                            have wz7 : ¬ (x0).toInt = 9 := fun q => z7 (Int32.toInt_inj.mp q)
                            have wz8 : ¬ (x0).toInt = 10 := fun q => z8 (Int32.toInt_inj.mp q)
                            have wz9 : ¬ (x0).toInt = 11 := fun q => z9 (Int32.toInt_inj.mp q)
                            have wz10 : ¬ (x0).toInt = 12 := fun q => z10 (Int32.toInt_inj.mp q)
                            have wz11 : ¬ (x0).toInt = 13 := fun q => z11 (Int32.toInt_inj.mp q)
                            have wz12 : ¬ (x0).toInt = 14 := fun q => z12 (Int32.toInt_inj.mp q)
                            refine aw_tableOut (pc := 1) 248 dX4_joined_1 (by omega) (by decide) ?_
                            refine aw_ldc2 (pc := 248) dX4_joined_248 kl_X4_61 ?_
                            exact ow_lret (pc := 251) h dX4_joined_251 rfl
theorem c_X4_joined {G : ah_G}   (x0 : Int32) (x1 : Int64) (x3 : Int64) (σ : ah_H) (r : Int64 × ah_H) (h : f_X4_joined  x0 x1 x3 σ = some r) : AM G m_X4_joined 0 0 0 [.int x0, .long x1, .long x3] σ (ah_rl r) := aw_enter (by decide) (Nat.le_of_ble_eq_true rfl) (c_X4_joined_0 _ _ _ _ _ h)
def f_X4_truth_0   (x0 : Int32) (σ : ah_H) : Option (Int64 × ah_H) :=
  if x0 = 0 then (some ((0 : Int64), σ)) else (some ((1 : Int64), σ))
def f_X4_truth  (x0 : Int32) (σ : ah_H) : Option (Int64 × ah_H) := f_X4_truth_0 x0 σ
set_option maxRecDepth 100000 in
set_option maxHeartbeats 4000000 in
theorem c_X4_truth_0 {G : ah_G}   : ∀ (x0 : Int32) (σ : ah_H) (r : Int64 × ah_H), f_X4_truth_0   x0 σ = some r → AW G m_X4_truth 0 0 0 0 [(0, .int x0)] [] σ (ah_rl r) := by
  intro x0 σ r h
  unfold f_X4_truth_0 at h
  refine aw_iload_n (pc := 0) 0 dX4_truth_0 rfl ?_
  refine aw_if_eq (pc := 1) 8 dX4_truth_1 (by decide) (fun z => ?_) (fun z => ?_)
  · replace h := (if_pos z).symm.trans h
    refine aw_lconst (pc := 8) (v := (0 : Int64)) dX4_truth_8 (by decide) ?_
    exact ow_lret (pc := 9) h dX4_truth_9 rfl
  · replace h := (if_neg z).symm.trans h
    refine aw_lconst (pc := 4) (v := (1 : Int64)) dX4_truth_4 (by decide) ?_
    refine aw_goto (pc := 5) 9 dX4_truth_5 (by decide) ?_
    exact ow_lret (pc := 9) h dX4_truth_9 rfl
theorem c_X4_truth {G : ah_G}   (x0 : Int32) (σ : ah_H) (r : Int64 × ah_H) (h : f_X4_truth  x0 σ = some r) : AM G m_X4_truth 0 0 0 [.int x0] σ (ah_rl r) := aw_enter (by decide) (Nat.le_of_ble_eq_true rfl) (c_X4_truth_0 _ _ _ h)
def f_X4_work_209  (K9 : Nat → Int32 → Int32 → Int32 → ah_H → Option (Int64 × ah_H)) (x0 : Nat) (x1 : Int32) (x2 : Int32) (x3 : Int32) (σ : ah_H) : Option (Int64 × ah_H) :=
  K9 x0 x1 x2 (x3 + (1 : Int32)) σ
def f_X4_work_83  (K9 : Nat → Int32 → Int32 → Int32 → ah_H → Option (Int64 × ah_H)) (x0 : Nat) (x1 : Int32) (x2 : Int32) (x3 : Int32) (s0 : Nat) (s1 : Int32) (s2 : Int64) (σ : ah_H) : Option (Int64 × ah_H) :=
  (op_sL σ s0 s1 s2).bind fun σ1 => f_X4_work_209 K9 x0 x1 (x2 + (1 : Int32)) x3 σ1
def f_X4_work_38  (K9 : Nat → Int32 → Int32 → Int32 → ah_H → Option (Int64 × ah_H)) (x0 : Nat) (x1 : Int32) (x2 : Int32) (x3 : Int32) (σ : ah_H) : Option (Int64 × ah_H) :=
  if x2 < (64 : Int32) then ((op_gR 4 7 σ x0).bind fun v1 => (op_gR 4 2 σ x0).bind fun v2 => (op_aI σ v2 x3).bind fun v3 => if v3 = 0 then ((op_gR 4 3 σ x0).bind fun v8 => (op_aI σ v8 x3).bind fun v9 => f_X4_work_83 K9 x0 x1 x2 x3 v1 x2 (Int32.toInt64 v9) σ) else ((op_gR 4 6 σ x0).bind fun v4 => (op_gR 4 3 σ x0).bind fun v5 => (op_aI σ v5 x3).bind fun v6 => (op_aL σ v4 v6).bind fun v7 => f_X4_work_83 K9 x0 x1 x2 x3 v1 x2 v7 σ)) else (some ((-9223372036854775808 : Int64), σ))
def f_X4_work_175  (K9 : Nat → Int32 → Int32 → Int32 → ah_H → Option (Int64 × ah_H)) (x0 : Nat) (x1 : Int32) (x2 : Int32) (x3 : Int32) (s0 : Int64) (σ : ah_H) : Option (Int64 × ah_H) :=
  if 0 < (lg_cmp s0 (1000000000000 : Int64)) then (some ((-9223372036854775808 : Int64), σ)) else (if 0 ≤ (lg_cmp s0 (-1000000000000 : Int64)) then ((op_gR 4 7 σ x0).bind fun v1 => (op_sL σ v1 (x2 - (1 : Int32)) s0).bind fun σ2 => f_X4_work_209 K9 x0 x1 x2 x3 σ2) else (some ((-9223372036854775808 : Int64), σ)))
def f_X4_work_152  (K9 : Nat → Int32 → Int32 → Int32 → ah_H → Option (Int64 × ah_H)) (x0 : Nat) (x1 : Int32) (x2 : Int32) (x3 : Int32) (s0 : Int32) (σ : ah_H) : Option (Int64 × ah_H) :=
  (f_X4_truth s0 σ).bind fun r1 => f_X4_work_175 K9 x0 x1 x2 x3 r1.1 r1.2
def f_X4_work_105  (K9 : Nat → Int32 → Int32 → Int32 → ah_H → Option (Int64 × ah_H)) (x0 : Nat) (x1 : Int32) (x2 : Int32) (x3 : Int32) (s0 : Int32) (σ : ah_H) : Option (Int64 × ah_H) :=
  if s0 ≤ x2 then ((op_gR 4 7 σ x0).bind fun v1 => (op_aL σ v1 ((x2 - (s0 - (1 : Int32))) - (1 : Int32))).bind fun v2 => if s0 = (1 : Int32) then (if (lg_cmp v2 (0 : Int64)) = 0 then (f_X4_work_152 K9 x0 x1 (x2 - (s0 - (1 : Int32))) x3 (1 : Int32) σ) else (f_X4_work_152 K9 x0 x1 (x2 - (s0 - (1 : Int32))) x3 (0 : Int32) σ)) else ((op_gR 4 2 σ x0).bind fun v3 => (op_aI σ v3 x3).bind fun v4 => (op_gR 4 7 σ x0).bind fun v5 => (op_aL σ v5 (x2 - (s0 - (1 : Int32)))).bind fun v6 => (f_X4_joined v4 v2 v6 σ).bind fun r7 => f_X4_work_175 K9 x0 x1 (x2 - (s0 - (1 : Int32))) x3 r7.1 r7.2)) else (some ((-9223372036854775808 : Int64), σ))
def f_X4_work_215   (x0 : Nat) (x2 : Int32) (σ : ah_H) : Option (Int64 × ah_H) :=
  if x2 = (1 : Int32) then ((op_gR 4 7 σ x0).bind fun v1 => (op_aL σ v1 (0 : Int32)).bind fun v2 => some (v2, σ)) else (some ((-9223372036854775808 : Int64), σ))
def f_X4_work_9_b  (K9 : Nat → Int32 → Int32 → Int32 → ah_H → Option (Int64 × ah_H)) (x0 : Nat) (x1 : Int32) (x2 : Int32) (x3 : Int32) (σ : ah_H) : Option (Int64 × ah_H) :=
  (op_gR 4 5 σ x0).bind fun v1 => (op_aI σ v1 x1).bind fun v2 => if v2 ≤ x3 then (f_X4_work_215 x0 x2 σ) else ((op_gR 4 2 σ x0).bind fun v3 => (op_aI σ v3 x3).bind fun v4 => if v4 = 0 then (f_X4_work_38 K9 x0 x1 x2 x3 σ) else ((op_gR 4 2 σ x0).bind fun v5 => (op_aI σ v5 x3).bind fun v6 => if v6 = (1 : Int32) then (f_X4_work_38 K9 x0 x1 x2 x3 σ) else ((op_gR 4 2 σ x0).bind fun v7 => (op_aI σ v7 x3).bind fun v8 => if v8 = (4 : Int32) then (f_X4_work_105 K9 x0 x1 x2 x3 (1 : Int32) σ) else (f_X4_work_105 K9 x0 x1 x2 x3 (2 : Int32) σ))))
def f_X4_work_9   : Nat → Nat → Int32 → Int32 → Int32 → ah_H → Option (Int64 × ah_H)
  | 0, _, _, _, _, _ => none
  | n + 1, x0, x1, x2, x3, σ => f_X4_work_9_b (f_X4_work_9 n) x0 x1 x2 x3 σ
def f_X4_work_0   (x0 : Nat) (x1 : Int32) (σ : ah_H) : Option (Int64 × ah_H) :=
  (op_gR 4 4 σ x0).bind fun v1 => (op_aI σ v1 x1).bind fun v2 => f_X4_work_9 5000 x0 x1 (0 : Int32) v2 σ
def f_X4_work  (x0 : Nat) (x1 : Int32) (σ : ah_H) : Option (Int64 × ah_H) := op_ck 4 σ x0 (f_X4_work_0 x0 x1 σ)
set_option maxRecDepth 100000 in
set_option maxHeartbeats 4000000 in
theorem c_X4_work_209 {G : ah_G}  (K9 : Nat → Int32 → Int32 → Int32 → ah_H → Option (Int64 × ah_H)) (hK9 : ∀ (x0 : Nat) (x1 : Int32) (x2 : Int32) (x3 : Int32) (σ : ah_H) (r : Int64 × ah_H), K9 x0 x1 x2 x3 σ = some r → AW G m_X4_work 1 0 0 9 [(0, .ref x0), (1, .int x1), (2, .int x2), (3, .int x3)] [] σ (ah_rl r)) : ∀ (x0 : Nat) (x1 : Int32) (x2 : Int32) (x3 : Int32) (σ : ah_H) (r : Int64 × ah_H), f_X4_work_209  K9 x0 x1 x2 x3 σ = some r → AW G m_X4_work 1 0 0 209 [(0, .ref x0), (1, .int x1), (2, .int x2), (3, .int x3)] [] σ (ah_rl r) := by
  intro x0 x1 x2 x3 σ r h
  unfold f_X4_work_209 at h
  refine aw_iinc (pc := 209) 3 [(3, .int (x3 + (1 : Int32))), (0, .ref x0), (1, .int x1), (2, .int x2)] (x3 + (1 : Int32)) dX4_work_209 rfl rfl (by decide) rfl ?_
  refine aw_goto (pc := 212) 9 dX4_work_212 (by decide) ?_
  refine aw_sub [1, 2, 3, 0] rfl ?_
  exact hK9 _ _ _ _ _ _ h
set_option maxRecDepth 100000 in
set_option maxHeartbeats 4000000 in
theorem c_X4_work_83 {G : ah_G}  (K9 : Nat → Int32 → Int32 → Int32 → ah_H → Option (Int64 × ah_H)) (hK9 : ∀ (x0 : Nat) (x1 : Int32) (x2 : Int32) (x3 : Int32) (σ : ah_H) (r : Int64 × ah_H), K9 x0 x1 x2 x3 σ = some r → AW G m_X4_work 1 0 0 9 [(0, .ref x0), (1, .int x1), (2, .int x2), (3, .int x3)] [] σ (ah_rl r)) : ∀ (x0 : Nat) (x1 : Int32) (x2 : Int32) (x3 : Int32) (s0 : Nat) (s1 : Int32) (s2 : Int64) (σ : ah_H) (r : Int64 × ah_H), f_X4_work_83  K9 x0 x1 x2 x3 s0 s1 s2 σ = some r → AW G m_X4_work 1 0 0 83 [(0, .ref x0), (1, .int x1), (2, .int x2), (3, .int x3)] [.long s2, .int s1, .ref s0] σ (ah_rl r) := by
  intro x0 x1 x2 x3 s0 s1 s2 σ r h
  unfold f_X4_work_83 at h
  obtain ⟨σ1, e, h⟩ := op_bd h
  refine ow_sL (pc := 83) e dX4_work_83 ?_
  refine aw_iinc (pc := 84) 2 [(2, .int (x2 + (1 : Int32))), (0, .ref x0), (1, .int x1), (3, .int x3)] (x2 + (1 : Int32)) dX4_work_84 rfl rfl (by decide) rfl ?_
  refine aw_goto (pc := 87) 209 dX4_work_87 (by decide) ?_
  refine aw_sub [1, 2, 0, 3] rfl ?_
  exact c_X4_work_209 K9 hK9 _ _ _ _ _ _ h
set_option maxRecDepth 100000 in
set_option maxHeartbeats 4000000 in
theorem c_X4_work_38 {G : ah_G}  (K9 : Nat → Int32 → Int32 → Int32 → ah_H → Option (Int64 × ah_H)) (hK9 : ∀ (x0 : Nat) (x1 : Int32) (x2 : Int32) (x3 : Int32) (σ : ah_H) (r : Int64 × ah_H), K9 x0 x1 x2 x3 σ = some r → AW G m_X4_work 1 0 0 9 [(0, .ref x0), (1, .int x1), (2, .int x2), (3, .int x3)] [] σ (ah_rl r)) : ∀ (x0 : Nat) (x1 : Int32) (x2 : Int32) (x3 : Int32) (σ : ah_H) (r : Int64 × ah_H), f_X4_work_38  K9 x0 x1 x2 x3 σ = some r → AW G m_X4_work 1 0 0 38 [(0, .ref x0), (1, .int x1), (2, .int x2), (3, .int x3)] [] σ (ah_rl r) := by
  intro x0 x1 x2 x3 σ r h
  unfold f_X4_work_38 at h
  refine aw_iload_n (pc := 38) 2 dX4_work_38 rfl ?_
  refine aw_bipush (pc := 39) (v := (64 : Int32)) dX4_work_39 (by decide) ?_
  refine aw_icmp_lt (pc := 41) 48 dX4_work_41 (by decide) (fun z => ?_) (fun z => ?_)
  · replace h := (if_pos z).symm.trans h
    refine aw_aload_n (pc := 48) 0 dX4_work_48 rfl ?_
    obtain ⟨v1, e, h⟩ := op_bd h
    refine ow_gR (pc := 49) e dX4_work_49 fd_X4_28 rfl ?_
    refine aw_iload_n (pc := 52) 2 dX4_work_52 rfl ?_
    refine aw_aload_n (pc := 53) 0 dX4_work_53 rfl ?_
    obtain ⟨v2, e, h⟩ := op_bd h
    refine ow_gR (pc := 54) e dX4_work_54 fd_X4_11 rfl ?_
    refine aw_iload_n (pc := 57) 3 dX4_work_57 rfl ?_
    obtain ⟨v3, e, h⟩ := op_bd h
    refine ow_aI (pc := 58) e dX4_work_58 ?_
    refine aw_if_ne (pc := 59) 72 dX4_work_59 (by decide) (fun z => ?_) (fun z => ?_)
    · replace h := (if_neg z).symm.trans h
      refine aw_aload_n (pc := 72) 0 dX4_work_72 rfl ?_
      obtain ⟨v4, e, h⟩ := op_bd h
      refine ow_gR (pc := 73) e dX4_work_73 fd_X4_24 rfl ?_
      refine aw_aload_n (pc := 76) 0 dX4_work_76 rfl ?_
      obtain ⟨v5, e, h⟩ := op_bd h
      refine ow_gR (pc := 77) e dX4_work_77 fd_X4_15 rfl ?_
      refine aw_iload_n (pc := 80) 3 dX4_work_80 rfl ?_
      obtain ⟨v6, e, h⟩ := op_bd h
      refine ow_aI (pc := 81) e dX4_work_81 ?_
      obtain ⟨v7, e, h⟩ := op_bd h
      refine ow_aL (pc := 82) e dX4_work_82 ?_
      exact c_X4_work_83 K9 hK9 _ _ _ _ _ _ _ _ _ h
    · replace h := (if_pos z).symm.trans h
      refine aw_aload_n (pc := 62) 0 dX4_work_62 rfl ?_
      obtain ⟨v8, e, h⟩ := op_bd h
      refine ow_gR (pc := 63) e dX4_work_63 fd_X4_15 rfl ?_
      refine aw_iload_n (pc := 66) 3 dX4_work_66 rfl ?_
      obtain ⟨v9, e, h⟩ := op_bd h
      refine ow_aI (pc := 67) e dX4_work_67 ?_
      refine aw_i2l (pc := 68) dX4_work_68 ?_
      refine aw_goto (pc := 69) 83 dX4_work_69 (by decide) ?_
      exact c_X4_work_83 K9 hK9 _ _ _ _ _ _ _ _ _ h
  · replace h := (if_neg z).symm.trans h
    refine aw_ldc2 (pc := 44) dX4_work_44 kl_X4_61 ?_
    exact ow_lret (pc := 47) h dX4_work_47 rfl
set_option maxRecDepth 100000 in
set_option maxHeartbeats 4000000 in
theorem c_X4_work_175 {G : ah_G}  (K9 : Nat → Int32 → Int32 → Int32 → ah_H → Option (Int64 × ah_H)) (hK9 : ∀ (x0 : Nat) (x1 : Int32) (x2 : Int32) (x3 : Int32) (σ : ah_H) (r : Int64 × ah_H), K9 x0 x1 x2 x3 σ = some r → AW G m_X4_work 1 0 0 9 [(0, .ref x0), (1, .int x1), (2, .int x2), (3, .int x3)] [] σ (ah_rl r)) : ∀ (x0 : Nat) (x1 : Int32) (x2 : Int32) (x3 : Int32) (s0 : Int64) (σ : ah_H) (r : Int64 × ah_H), f_X4_work_175  K9 x0 x1 x2 x3 s0 σ = some r → AW G m_X4_work 1 0 0 175 [(0, .ref x0), (1, .int x1), (2, .int x2), (3, .int x3)] [.long s0] σ (ah_rl r) := by
  intro x0 x1 x2 x3 s0 σ r h
  unfold f_X4_work_175 at h
  refine aw_lstore (pc := 175) [(7, .long s0), (0, .ref x0), (1, .int x1), (2, .int x2), (3, .int x3)] dX4_work_175 (by decide) rfl ?_
  refine aw_lload (pc := 177) 0 dX4_work_177 rfl ?_
  refine aw_ldc2 (pc := 179) dX4_work_179 kl_X4_73 ?_
  refine aw_lcmp (pc := 182) dX4_work_182 ?_
  refine aw_if_gt (pc := 183) 195 dX4_work_183 (by decide) (fun z => ?_) (fun z => ?_)
  · replace h := (if_pos z).symm.trans h
    refine aw_ldc2 (pc := 195) dX4_work_195 kl_X4_61 ?_
    exact ow_lret (pc := 198) h dX4_work_198 rfl
  · replace h := (if_neg z).symm.trans h
    refine aw_lload (pc := 186) 0 dX4_work_186 rfl ?_
    refine aw_ldc2 (pc := 188) dX4_work_188 kl_X4_75 ?_
    refine aw_lcmp (pc := 191) dX4_work_191 ?_
    refine aw_if_ge (pc := 192) 199 dX4_work_192 (by decide) (fun z => ?_) (fun z => ?_)
    · replace h := (if_pos z).symm.trans h
      refine aw_aload_n (pc := 199) 1 dX4_work_199 rfl ?_
      obtain ⟨v1, e, h⟩ := op_bd h
      refine ow_gR (pc := 200) e dX4_work_200 fd_X4_28 rfl ?_
      refine aw_iload_n (pc := 203) 3 dX4_work_203 rfl ?_
      refine aw_iconst (pc := 204) (v := (1 : Int32)) dX4_work_204 (by decide) ?_
      refine aw_isub (pc := 205) dX4_work_205 ?_
      refine aw_lload (pc := 206) 0 dX4_work_206 rfl ?_
      obtain ⟨σ2, e, h⟩ := op_bd h
      refine ow_sL (pc := 208) e dX4_work_208 ?_
      refine aw_sub [1, 2, 3, 4] rfl ?_
      exact c_X4_work_209 K9 hK9 _ _ _ _ _ _ h
    · replace h := (if_neg z).symm.trans h
      refine aw_ldc2 (pc := 195) dX4_work_195 kl_X4_61 ?_
      exact ow_lret (pc := 198) h dX4_work_198 rfl
set_option maxRecDepth 100000 in
set_option maxHeartbeats 4000000 in
theorem c_X4_work_152 {G : ah_G}  (K9 : Nat → Int32 → Int32 → Int32 → ah_H → Option (Int64 × ah_H)) (hK9 : ∀ (x0 : Nat) (x1 : Int32) (x2 : Int32) (x3 : Int32) (σ : ah_H) (r : Int64 × ah_H), K9 x0 x1 x2 x3 σ = some r → AW G m_X4_work 1 0 0 9 [(0, .ref x0), (1, .int x1), (2, .int x2), (3, .int x3)] [] σ (ah_rl r)) : ∀ (x0 : Nat) (x1 : Int32) (x2 : Int32) (x3 : Int32) (s0 : Int32) (σ : ah_H) (r : Int64 × ah_H), f_X4_work_152  K9 x0 x1 x2 x3 s0 σ = some r → AW G m_X4_work 1 0 0 152 [(0, .ref x0), (1, .int x1), (2, .int x2), (3, .int x3)] [.int s0] σ (ah_rl r) := by
  intro x0 x1 x2 x3 s0 σ r h
  unfold f_X4_work_152 at h
  obtain ⟨r1, e, h⟩ := op_bd h
  refine ow_cSl (pc := 152) [.int s0] ((c_X4_truth _ _ _ e).mono (by decide)) rfl dX4_work_152 cw_X4_65 rfl (Nat.le_of_ble_eq_true rfl) ?_
  refine aw_goto (pc := 155) 175 dX4_work_155 (by decide) ?_
  exact c_X4_work_175 K9 hK9 _ _ _ _ _ _ _ h
set_option maxRecDepth 100000 in
set_option maxHeartbeats 4000000 in
theorem c_X4_work_105 {G : ah_G}  (K9 : Nat → Int32 → Int32 → Int32 → ah_H → Option (Int64 × ah_H)) (hK9 : ∀ (x0 : Nat) (x1 : Int32) (x2 : Int32) (x3 : Int32) (σ : ah_H) (r : Int64 × ah_H), K9 x0 x1 x2 x3 σ = some r → AW G m_X4_work 1 0 0 9 [(0, .ref x0), (1, .int x1), (2, .int x2), (3, .int x3)] [] σ (ah_rl r)) : ∀ (x0 : Nat) (x1 : Int32) (x2 : Int32) (x3 : Int32) (s0 : Int32) (σ : ah_H) (r : Int64 × ah_H), f_X4_work_105  K9 x0 x1 x2 x3 s0 σ = some r → AW G m_X4_work 1 0 0 105 [(0, .ref x0), (1, .int x1), (2, .int x2), (3, .int x3)] [.int s0] σ (ah_rl r) := by
  intro x0 x1 x2 x3 s0 σ r h
  unfold f_X4_work_105 at h
  refine aw_istore (pc := 105) [(4, .int s0), (0, .ref x0), (1, .int x1), (2, .int x2), (3, .int x3)] dX4_work_105 (by decide) rfl ?_
  refine aw_iload_n (pc := 107) 3 dX4_work_107 rfl ?_
  refine aw_iload (pc := 108) 0 dX4_work_108 rfl ?_
  refine aw_icmp_ge (pc := 110) 117 dX4_work_110 (by decide) (fun z => ?_) (fun z => ?_)
  · replace h := (if_pos z).symm.trans h
    refine aw_iload_n (pc := 117) 3 dX4_work_117 rfl ?_
    refine aw_iload (pc := 118) 0 dX4_work_118 rfl ?_
    refine aw_iconst (pc := 120) (v := (1 : Int32)) dX4_work_120 (by decide) ?_
    refine aw_isub (pc := 121) dX4_work_121 ?_
    refine aw_isub (pc := 122) dX4_work_122 ?_
    refine aw_istore_n (pc := 123) [(2, .int (x2 - (s0 - (1 : Int32)))), (4, .int s0), (0, .ref x0), (1, .int x1), (3, .int x3)] dX4_work_123 rfl (by decide) rfl ?_
    refine aw_aload_n (pc := 124) 2 dX4_work_124 rfl ?_
    obtain ⟨v1, e, h⟩ := op_bd h
    refine ow_gR (pc := 125) e dX4_work_125 fd_X4_28 rfl ?_
    refine aw_iload_n (pc := 128) 0 dX4_work_128 rfl ?_
    refine aw_iconst (pc := 129) (v := (1 : Int32)) dX4_work_129 (by decide) ?_
    refine aw_isub (pc := 130) dX4_work_130 ?_
    obtain ⟨v2, e, h⟩ := op_bd h
    refine ow_aL (pc := 131) e dX4_work_131 ?_
    refine aw_lstore (pc := 132) [(5, .long v2), (2, .int (x2 - (s0 - (1 : Int32)))), (4, .int s0), (0, .ref x0), (1, .int x1), (3, .int x3)] dX4_work_132 (by decide) rfl ?_
    refine aw_iload (pc := 134) 2 dX4_work_134 rfl ?_
    refine aw_iconst (pc := 136) (v := (1 : Int32)) dX4_work_136 (by decide) ?_
    refine aw_icmp_ne (pc := 137) 158 dX4_work_137 (by decide) (fun z => ?_) (fun z => ?_)
    · replace h := (if_neg z).symm.trans h
      refine aw_aload_n (pc := 158) 3 dX4_work_158 rfl ?_
      obtain ⟨v3, e, h⟩ := op_bd h
      refine ow_gR (pc := 159) e dX4_work_159 fd_X4_11 rfl ?_
      refine aw_iload_n (pc := 162) 5 dX4_work_162 rfl ?_
      obtain ⟨v4, e, h⟩ := op_bd h
      refine ow_aI (pc := 163) e dX4_work_163 ?_
      refine aw_lload (pc := 164) 0 dX4_work_164 rfl ?_
      refine aw_aload_n (pc := 166) 3 dX4_work_166 rfl ?_
      obtain ⟨v5, e, h⟩ := op_bd h
      refine ow_gR (pc := 167) e dX4_work_167 fd_X4_28 rfl ?_
      refine aw_iload_n (pc := 170) 1 dX4_work_170 rfl ?_
      obtain ⟨v6, e, h⟩ := op_bd h
      refine ow_aL (pc := 171) e dX4_work_171 ?_
      obtain ⟨r7, e, h⟩ := op_bd h
      refine ow_cSl (pc := 172) [.int v4, .long v2, .long v6] ((c_X4_joined _ _ _ _ _ e).mono (by decide)) rfl dX4_work_172 cw_X4_69 rfl (Nat.le_of_ble_eq_true rfl) ?_
      refine aw_sub [3, 4, 1, 5] rfl ?_
      exact c_X4_work_175 K9 hK9 _ _ _ _ _ _ _ h
    · replace h := (if_pos z).symm.trans h
      refine aw_lload (pc := 140) 0 dX4_work_140 rfl ?_
      refine aw_lconst (pc := 142) (v := (0 : Int64)) dX4_work_142 (by decide) ?_
      refine aw_lcmp (pc := 143) dX4_work_143 ?_
      refine aw_if_ne (pc := 144) 151 dX4_work_144 (by decide) (fun z => ?_) (fun z => ?_)
      · replace h := (if_neg z).symm.trans h
        refine aw_iconst (pc := 151) (v := (0 : Int32)) dX4_work_151 (by decide) ?_
        refine aw_sub [3, 4, 1, 5] rfl ?_
        exact c_X4_work_152 K9 hK9 _ _ _ _ _ _ _ h
      · replace h := (if_pos z).symm.trans h
        refine aw_iconst (pc := 147) (v := (1 : Int32)) dX4_work_147 (by decide) ?_
        refine aw_goto (pc := 148) 152 dX4_work_148 (by decide) ?_
        refine aw_sub [3, 4, 1, 5] rfl ?_
        exact c_X4_work_152 K9 hK9 _ _ _ _ _ _ _ h
  · replace h := (if_neg z).symm.trans h
    refine aw_ldc2 (pc := 113) dX4_work_113 kl_X4_61 ?_
    exact ow_lret (pc := 116) h dX4_work_116 rfl
set_option maxRecDepth 100000 in
set_option maxHeartbeats 4000000 in
theorem c_X4_work_215 {G : ah_G}   : ∀ (x0 : Nat) (x2 : Int32) (σ : ah_H) (r : Int64 × ah_H), f_X4_work_215   x0 x2 σ = some r → AW G m_X4_work 1 0 0 215 [(0, .ref x0), (2, .int x2)] [] σ (ah_rl r) := by
  intro x0 x2 σ r h
  unfold f_X4_work_215 at h
  refine aw_iload_n (pc := 215) 1 dX4_work_215 rfl ?_
  refine aw_iconst (pc := 216) (v := (1 : Int32)) dX4_work_216 (by decide) ?_
  refine aw_icmp_ne (pc := 217) 229 dX4_work_217 (by decide) (fun z => ?_) (fun z => ?_)
  · replace h := (if_neg z).symm.trans h
    refine aw_ldc2 (pc := 229) dX4_work_229 kl_X4_61 ?_
    exact ow_lret (pc := 232) h dX4_work_232 rfl
  · replace h := (if_pos z).symm.trans h
    refine aw_aload_n (pc := 220) 0 dX4_work_220 rfl ?_
    obtain ⟨v1, e, h⟩ := op_bd h
    refine ow_gR (pc := 221) e dX4_work_221 fd_X4_28 rfl ?_
    refine aw_iconst (pc := 224) (v := (0 : Int32)) dX4_work_224 (by decide) ?_
    obtain ⟨v2, e, h⟩ := op_bd h
    refine ow_aL (pc := 225) e dX4_work_225 ?_
    refine aw_goto (pc := 226) 232 dX4_work_226 (by decide) ?_
    exact ow_lret (pc := 232) h dX4_work_232 rfl
set_option maxRecDepth 100000 in
set_option maxHeartbeats 4000000 in
theorem c_X4_work_9_b {G : ah_G}  (K9 : Nat → Int32 → Int32 → Int32 → ah_H → Option (Int64 × ah_H)) (hK9 : ∀ (x0 : Nat) (x1 : Int32) (x2 : Int32) (x3 : Int32) (σ : ah_H) (r : Int64 × ah_H), K9 x0 x1 x2 x3 σ = some r → AW G m_X4_work 1 0 0 9 [(0, .ref x0), (1, .int x1), (2, .int x2), (3, .int x3)] [] σ (ah_rl r)) : ∀ (x0 : Nat) (x1 : Int32) (x2 : Int32) (x3 : Int32) (σ : ah_H) (r : Int64 × ah_H), f_X4_work_9_b  K9 x0 x1 x2 x3 σ = some r → AW G m_X4_work 1 0 0 9 [(0, .ref x0), (1, .int x1), (2, .int x2), (3, .int x3)] [] σ (ah_rl r) := by
  intro x0 x1 x2 x3 σ r h
  unfold f_X4_work_9_b at h
  refine aw_iload_n (pc := 9) 3 dX4_work_9 rfl ?_
  refine aw_aload_n (pc := 10) 0 dX4_work_10 rfl ?_
  obtain ⟨v1, e, h⟩ := op_bd h
  refine ow_gR (pc := 11) e dX4_work_11 fd_X4_21 rfl ?_
  refine aw_iload_n (pc := 14) 1 dX4_work_14 rfl ?_
  obtain ⟨v2, e, h⟩ := op_bd h
  refine ow_aI (pc := 15) e dX4_work_15 ?_
  refine aw_icmp_ge (pc := 16) 215 dX4_work_16 (by decide) (fun z => ?_) (fun z => ?_)
  · replace h := (if_pos z).symm.trans h
    refine aw_sub [0, 2] rfl ?_
    exact c_X4_work_215  _ _ _ _ h
  · replace h := (if_neg z).symm.trans h
    refine aw_aload_n (pc := 19) 0 dX4_work_19 rfl ?_
    obtain ⟨v3, e, h⟩ := op_bd h
    refine ow_gR (pc := 20) e dX4_work_20 fd_X4_11 rfl ?_
    refine aw_iload_n (pc := 23) 3 dX4_work_23 rfl ?_
    obtain ⟨v4, e, h⟩ := op_bd h
    refine ow_aI (pc := 24) e dX4_work_24 ?_
    refine aw_if_eq (pc := 25) 38 dX4_work_25 (by decide) (fun z => ?_) (fun z => ?_)
    · replace h := (if_pos z).symm.trans h
      exact c_X4_work_38 K9 hK9 _ _ _ _ _ _ h
    · replace h := (if_neg z).symm.trans h
      refine aw_aload_n (pc := 28) 0 dX4_work_28 rfl ?_
      obtain ⟨v5, e, h⟩ := op_bd h
      refine ow_gR (pc := 29) e dX4_work_29 fd_X4_11 rfl ?_
      refine aw_iload_n (pc := 32) 3 dX4_work_32 rfl ?_
      obtain ⟨v6, e, h⟩ := op_bd h
      refine ow_aI (pc := 33) e dX4_work_33 ?_
      refine aw_iconst (pc := 34) (v := (1 : Int32)) dX4_work_34 (by decide) ?_
      refine aw_icmp_ne (pc := 35) 90 dX4_work_35 (by decide) (fun z => ?_) (fun z => ?_)
      · replace h := (if_neg z).symm.trans h
        refine aw_aload_n (pc := 90) 0 dX4_work_90 rfl ?_
        obtain ⟨v7, e, h⟩ := op_bd h
        refine ow_gR (pc := 91) e dX4_work_91 fd_X4_11 rfl ?_
        refine aw_iload_n (pc := 94) 3 dX4_work_94 rfl ?_
        obtain ⟨v8, e, h⟩ := op_bd h
        refine ow_aI (pc := 95) e dX4_work_95 ?_
        refine aw_iconst (pc := 96) (v := (4 : Int32)) dX4_work_96 (by decide) ?_
        refine aw_icmp_ne (pc := 97) 104 dX4_work_97 (by decide) (fun z => ?_) (fun z => ?_)
        · replace h := (if_neg z).symm.trans h
          refine aw_iconst (pc := 104) (v := (2 : Int32)) dX4_work_104 (by decide) ?_
          exact c_X4_work_105 K9 hK9 _ _ _ _ _ _ _ h
        · replace h := (if_pos z).symm.trans h
          refine aw_iconst (pc := 100) (v := (1 : Int32)) dX4_work_100 (by decide) ?_
          refine aw_goto (pc := 101) 105 dX4_work_101 (by decide) ?_
          exact c_X4_work_105 K9 hK9 _ _ _ _ _ _ _ h
      · replace h := (if_pos z).symm.trans h
        exact c_X4_work_38 K9 hK9 _ _ _ _ _ _ h
theorem c_X4_work_9 {G : ah_G}   : ∀ (n : Nat) (x0 : Nat) (x1 : Int32) (x2 : Int32) (x3 : Int32) (σ : ah_H) (r : Int64 × ah_H), f_X4_work_9   n x0 x1 x2 x3 σ = some r → AW G m_X4_work 1 0 0 9 [(0, .ref x0), (1, .int x1), (2, .int x2), (3, .int x3)] [] σ (ah_rl r) := by
  intro n
  induction n with
  | zero => intro x0 x1 x2 x3 σ r h; cases h
  | succ n ih => intro x0 x1 x2 x3 σ r h; exact c_X4_work_9_b   _ ih x0 x1 x2 x3 σ r h
set_option maxRecDepth 100000 in
set_option maxHeartbeats 4000000 in
theorem c_X4_work_0 {G : ah_G}   : ∀ (x0 : Nat) (x1 : Int32) (σ : ah_H) (r : Int64 × ah_H), f_X4_work_0   x0 x1 σ = some r → AW G m_X4_work 1 0 0 0 [(0, .ref x0), (1, .int x1)] [] σ (ah_rl r) := by
  intro x0 x1 σ r h
  unfold f_X4_work_0 at h
  refine aw_iconst (pc := 0) (v := (0 : Int32)) dX4_work_0 (by decide) ?_
  refine aw_istore_n (pc := 1) [(2, .int (0 : Int32)), (0, .ref x0), (1, .int x1)] dX4_work_1 rfl (by decide) rfl ?_
  refine aw_aload_n (pc := 2) 1 dX4_work_2 rfl ?_
  obtain ⟨v1, e, h⟩ := op_bd h
  refine ow_gR (pc := 3) e dX4_work_3 fd_X4_18 rfl ?_
  refine aw_iload_n (pc := 6) 2 dX4_work_6 rfl ?_
  obtain ⟨v2, e, h⟩ := op_bd h
  refine ow_aI (pc := 7) e dX4_work_7 ?_
  refine aw_istore_n (pc := 8) [(3, .int v2), (2, .int (0 : Int32)), (0, .ref x0), (1, .int x1)] dX4_work_8 rfl (by decide) rfl ?_
  refine aw_sub [2, 3, 1, 0] rfl ?_
  exact c_X4_work_9  _ _ _ _ _ _ _ h
theorem c_X4_work {G : ah_G}   (x0 : Nat) (x1 : Int32) (σ : ah_H) (r : Int64 × ah_H) (h : f_X4_work  x0 x1 σ = some r) : AM G m_X4_work 1 0 0 [.ref x0, .int x1] σ (ah_rl r) := aw_enter (by decide) (Nat.le_of_ble_eq_true rfl) (c_X4_work_0 _ _ _ _ (op_ck_k h))
def f_X4_carried_0   (x0 : Nat) (x1 : Int32) (x2 : Int32) (σ : ah_H) : Option (Int64 × ah_H) :=
  (f_X4_isTold x0 (0 : Int32) σ).bind fun r1 => if r1.1 = 0 then (some ((op_maxl (0 : Int64) ((Int32.toInt64 x1) * (Int32.toInt64 x2))), r1.2)) else ((op_gR 4 6 r1.2 x0).bind fun v2 => (f_J7_fill_d0a16 v2 (0 : Int64) r1.2).bind fun r3 => (op_gR 4 6 r3 x0).bind fun v4 => (op_sL r3 v4 (0 : Int32) (Int32.toInt64 x1)).bind fun σ5 => (op_gR 4 6 σ5 x0).bind fun v6 => (op_sL σ5 v6 (1 : Int32) (Int32.toInt64 x2)).bind fun σ7 => (f_X4_work x0 (0 : Int32) σ7).bind fun r8 => if (lg_cmp r8.1 (-9223372036854775808 : Int64)) = 0 then (some ((0 : Int64), r8.2)) else (some ((op_maxl (0 : Int64) r8.1), r8.2)))
def f_X4_carried  (x0 : Nat) (x1 : Int32) (x2 : Int32) (σ : ah_H) : Option (Int64 × ah_H) := op_ck 4 σ x0 (f_X4_carried_0 x0 x1 x2 σ)
set_option maxRecDepth 100000 in
set_option maxHeartbeats 4000000 in
theorem c_X4_carried_0 {G : ah_G}   : ∀ (x0 : Nat) (x1 : Int32) (x2 : Int32) (σ : ah_H) (r : Int64 × ah_H), f_X4_carried_0   x0 x1 x2 σ = some r → AW G m_X4_carried 2 0 0 0 [(0, .ref x0), (1, .int x1), (2, .int x2)] [] σ (ah_rl r) := by
  intro x0 x1 x2 σ r h
  unfold f_X4_carried_0 at h
  refine aw_aload_n (pc := 0) 0 dX4_carried_0 rfl ?_
  refine aw_iconst (pc := 1) (v := (0 : Int32)) dX4_carried_1 (by decide) ?_
  obtain ⟨r1, e, h⟩ := op_bd h
  refine ow_cVi (pc := 2) [.int (0 : Int32)] ((c_X4_isTold _ _ _ _ e).mono (by decide)) (op_ck_sh e) rfl dX4_carried_2 cw_X4_44 rfl (Nat.le_of_ble_eq_true rfl) ?_
  refine aw_if_ne (pc := 5) 18 dX4_carried_5 (by decide) (fun z => ?_) (fun z => ?_)
  · replace h := (if_neg z).symm.trans h
    refine aw_aload_n (pc := 18) 0 dX4_carried_18 rfl ?_
    obtain ⟨v2, e, h⟩ := op_bd h
    refine ow_gR (pc := 19) e dX4_carried_19 fd_X4_24 rfl ?_
    refine aw_lconst (pc := 22) (v := (0 : Int64)) dX4_carried_22 (by decide) ?_
    obtain ⟨r3, e, h⟩ := op_bd h
    refine ow_cSv (pc := 23) [.ref v2, .long (0 : Int64)] ((c_J7_fill_d0a16 _ _ _ _ e).mono (by decide)) rfl dX4_carried_23 cw_X4_54 rfl (Nat.le_of_ble_eq_true rfl) ?_
    refine aw_aload_n (pc := 26) 0 dX4_carried_26 rfl ?_
    obtain ⟨v4, e, h⟩ := op_bd h
    refine ow_gR (pc := 27) e dX4_carried_27 fd_X4_24 rfl ?_
    refine aw_iconst (pc := 30) (v := (0 : Int32)) dX4_carried_30 (by decide) ?_
    refine aw_iload_n (pc := 31) 1 dX4_carried_31 rfl ?_
    refine aw_i2l (pc := 32) dX4_carried_32 ?_
    obtain ⟨σ5, e, h⟩ := op_bd h
    refine ow_sL (pc := 33) e dX4_carried_33 ?_
    refine aw_aload_n (pc := 34) 0 dX4_carried_34 rfl ?_
    obtain ⟨v6, e, h⟩ := op_bd h
    refine ow_gR (pc := 35) e dX4_carried_35 fd_X4_24 rfl ?_
    refine aw_iconst (pc := 38) (v := (1 : Int32)) dX4_carried_38 (by decide) ?_
    refine aw_iload_n (pc := 39) 2 dX4_carried_39 rfl ?_
    refine aw_i2l (pc := 40) dX4_carried_40 ?_
    obtain ⟨σ7, e, h⟩ := op_bd h
    refine ow_sL (pc := 41) e dX4_carried_41 ?_
    refine aw_aload_n (pc := 42) 0 dX4_carried_42 rfl ?_
    refine aw_iconst (pc := 43) (v := (0 : Int32)) dX4_carried_43 (by decide) ?_
    obtain ⟨r8, e, h⟩ := op_bd h
    refine ow_cVl (pc := 44) [.int (0 : Int32)] ((c_X4_work _ _ _ _ e).mono (by decide)) (op_ck_sh e) rfl dX4_carried_44 cw_X4_57 rfl (Nat.le_of_ble_eq_true rfl) ?_
    refine aw_lstore_n (pc := 47) [(3, .long r8.1), (0, .ref x0), (1, .int x1), (2, .int x2)] dX4_carried_47 rfl (by decide) rfl ?_
    refine aw_lload_n (pc := 48) 0 dX4_carried_48 rfl ?_
    refine aw_ldc2 (pc := 49) dX4_carried_49 kl_X4_61 ?_
    refine aw_lcmp (pc := 52) dX4_carried_52 ?_
    refine aw_if_ne (pc := 53) 60 dX4_carried_53 (by decide) (fun z => ?_) (fun z => ?_)
    · replace h := (if_neg z).symm.trans h
      refine aw_lconst (pc := 60) (v := (0 : Int64)) dX4_carried_60 (by decide) ?_
      refine aw_lload_n (pc := 61) 0 dX4_carried_61 rfl ?_
      refine ow_maxl (pc := 62) dX4_carried_62 mt_X4_48 (Nat.le_of_ble_eq_true rfl) ?_
      exact ow_lret (pc := 65) h dX4_carried_65 rfl
    · replace h := (if_pos z).symm.trans h
      refine aw_lconst (pc := 56) (v := (0 : Int64)) dX4_carried_56 (by decide) ?_
      refine aw_goto (pc := 57) 65 dX4_carried_57 (by decide) ?_
      exact ow_lret (pc := 65) h dX4_carried_65 rfl
  · replace h := (if_pos z).symm.trans h
    refine aw_lconst (pc := 8) (v := (0 : Int64)) dX4_carried_8 (by decide) ?_
    refine aw_iload_n (pc := 9) 1 dX4_carried_9 rfl ?_
    refine aw_i2l (pc := 10) dX4_carried_10 ?_
    refine aw_iload_n (pc := 11) 2 dX4_carried_11 rfl ?_
    refine aw_i2l (pc := 12) dX4_carried_12 ?_
    refine aw_lmul (pc := 13) dX4_carried_13 ?_
    refine ow_maxl (pc := 14) dX4_carried_14 mt_X4_48 (Nat.le_of_ble_eq_true rfl) ?_
    exact ow_lret (pc := 17) h dX4_carried_17 rfl
theorem c_X4_carried {G : ah_G}   (x0 : Nat) (x1 : Int32) (x2 : Int32) (σ : ah_H) (r : Int64 × ah_H) (h : f_X4_carried  x0 x1 x2 σ = some r) : AM G m_X4_carried 2 0 0 [.ref x0, .int x1, .int x2] σ (ah_rl r) := aw_enter (by decide) (Nat.le_of_ble_eq_true rfl) (c_X4_carried_0 _ _ _ _ _ (op_ck_k h))
def f_X9_find_36_b  (K36 : Nat → Int32 → Int32 → Int32 → ah_H → Option (Int32 × ah_H)) (x0 : Nat) (x1 : Int32) (x2 : Int32) (x3 : Int32) (σ : ah_H) : Option (Int32 × ah_H) :=
  if x1 = (1 : Int32) then ((op_gI 9 8 σ x0).bind fun v1 => if v1 ≤ x3 then (some ((-1 : Int32), σ)) else ((op_gR 9 9 σ x0).bind fun v2 => (op_aI σ v2 x3).bind fun v3 => if v3 = x2 then (some (x3, σ)) else (K36 x0 x1 x2 (x3 + (1 : Int32)) σ))) else (some ((-1 : Int32), σ))
def f_X9_find_36   : Nat → Nat → Int32 → Int32 → Int32 → ah_H → Option (Int32 × ah_H)
  | 0, _, _, _, _, _ => none
  | n + 1, x0, x1, x2, x3, σ => f_X9_find_36_b (f_X9_find_36 n) x0 x1 x2 x3 σ
def f_X9_find_34   (x0 : Nat) (x1 : Int32) (x2 : Int32) (σ : ah_H) : Option (Int32 × ah_H) :=
  f_X9_find_36 5000 x0 x1 x2 (0 : Int32) σ
def f_X9_find_2_b  (K2 : Nat → Int32 → Int32 → Int32 → ah_H → Option (Int32 × ah_H)) (x0 : Nat) (x1 : Int32) (x2 : Int32) (x3 : Int32) (σ : ah_H) : Option (Int32 × ah_H) :=
  if x1 = 0 then ((op_gI 9 0 σ x0).bind fun v1 => if v1 ≤ x3 then (f_X9_find_34 x0 x1 x2 σ) else ((op_gR 9 1 σ x0).bind fun v2 => (op_aR .int σ v2 x3).bind fun v3 => (op_aI σ v3 (3 : Int32)).bind fun v4 => if v4 = x2 then (some (x3, σ)) else (K2 x0 x1 x2 (x3 + (1 : Int32)) σ))) else (f_X9_find_34 x0 x1 x2 σ)
def f_X9_find_2   : Nat → Nat → Int32 → Int32 → Int32 → ah_H → Option (Int32 × ah_H)
  | 0, _, _, _, _, _ => none
  | n + 1, x0, x1, x2, x3, σ => f_X9_find_2_b (f_X9_find_2 n) x0 x1 x2 x3 σ
def f_X9_find_0   (x0 : Nat) (x1 : Int32) (x2 : Int32) (σ : ah_H) : Option (Int32 × ah_H) :=
  f_X9_find_2 5000 x0 x1 x2 (0 : Int32) σ
def f_X9_find  (x0 : Nat) (x1 : Int32) (x2 : Int32) (σ : ah_H) : Option (Int32 × ah_H) := op_ck 9 σ x0 (f_X9_find_0 x0 x1 x2 σ)
set_option maxRecDepth 100000 in
set_option maxHeartbeats 4000000 in
theorem c_X9_find_36_b {G : ah_G}  (K36 : Nat → Int32 → Int32 → Int32 → ah_H → Option (Int32 × ah_H)) (hK36 : ∀ (x0 : Nat) (x1 : Int32) (x2 : Int32) (x3 : Int32) (σ : ah_H) (r : Int32 × ah_H), K36 x0 x1 x2 x3 σ = some r → AW G m_X9_find 0 0 0 36 [(0, .ref x0), (1, .int x1), (2, .int x2), (3, .int x3)] [] σ (ah_ri r)) : ∀ (x0 : Nat) (x1 : Int32) (x2 : Int32) (x3 : Int32) (σ : ah_H) (r : Int32 × ah_H), f_X9_find_36_b  K36 x0 x1 x2 x3 σ = some r → AW G m_X9_find 0 0 0 36 [(0, .ref x0), (1, .int x1), (2, .int x2), (3, .int x3)] [] σ (ah_ri r) := by
  intro x0 x1 x2 x3 σ r h
  unfold f_X9_find_36_b at h
  refine aw_iload_n (pc := 36) 1 dX9_find_36 rfl ?_
  refine aw_iconst (pc := 37) (v := (1 : Int32)) dX9_find_37 (by decide) ?_
  refine aw_icmp_ne (pc := 38) 67 dX9_find_38 (by decide) (fun z => ?_) (fun z => ?_)
  · replace h := (if_neg z).symm.trans h
    refine aw_iconst (pc := 67) (v := (-1 : Int32)) dX9_find_67 (by decide) ?_
    exact ow_iret (pc := 68) h dX9_find_68 rfl
  · replace h := (if_pos z).symm.trans h
    refine aw_iload_n (pc := 41) 3 dX9_find_41 rfl ?_
    refine aw_aload_n (pc := 42) 0 dX9_find_42 rfl ?_
    obtain ⟨v1, e, h⟩ := op_bd h
    refine ow_gI (pc := 43) e dX9_find_43 fd_X9_61 rfl ?_
    refine aw_icmp_ge (pc := 46) 67 dX9_find_46 (by decide) (fun z => ?_) (fun z => ?_)
    · replace h := (if_pos z).symm.trans h
      refine aw_iconst (pc := 67) (v := (-1 : Int32)) dX9_find_67 (by decide) ?_
      exact ow_iret (pc := 68) h dX9_find_68 rfl
    · replace h := (if_neg z).symm.trans h
      refine aw_aload_n (pc := 49) 0 dX9_find_49 rfl ?_
      obtain ⟨v2, e, h⟩ := op_bd h
      refine ow_gR (pc := 50) e dX9_find_50 fd_X9_22 rfl ?_
      refine aw_iload_n (pc := 53) 3 dX9_find_53 rfl ?_
      obtain ⟨v3, e, h⟩ := op_bd h
      refine ow_aI (pc := 54) e dX9_find_54 ?_
      refine aw_iload_n (pc := 55) 2 dX9_find_55 rfl ?_
      refine aw_icmp_ne (pc := 56) 61 dX9_find_56 (by decide) (fun z => ?_) (fun z => ?_)
      · replace h := (if_neg z).symm.trans h
        refine aw_iinc (pc := 61) 3 [(3, .int (x3 + (1 : Int32))), (0, .ref x0), (1, .int x1), (2, .int x2)] (x3 + (1 : Int32)) dX9_find_61 rfl rfl (by decide) rfl ?_
        refine aw_goto (pc := 64) 36 dX9_find_64 (by decide) ?_
        refine aw_sub [1, 2, 3, 0] rfl ?_
        exact hK36 _ _ _ _ _ _ h
      · replace h := (if_pos z).symm.trans h
        refine aw_iload_n (pc := 59) 3 dX9_find_59 rfl ?_
        exact ow_iret (pc := 60) h dX9_find_60 rfl
theorem c_X9_find_36 {G : ah_G}   : ∀ (n : Nat) (x0 : Nat) (x1 : Int32) (x2 : Int32) (x3 : Int32) (σ : ah_H) (r : Int32 × ah_H), f_X9_find_36   n x0 x1 x2 x3 σ = some r → AW G m_X9_find 0 0 0 36 [(0, .ref x0), (1, .int x1), (2, .int x2), (3, .int x3)] [] σ (ah_ri r) := by
  intro n
  induction n with
  | zero => intro x0 x1 x2 x3 σ r h; cases h
  | succ n ih => intro x0 x1 x2 x3 σ r h; exact c_X9_find_36_b   _ ih x0 x1 x2 x3 σ r h
set_option maxRecDepth 100000 in
set_option maxHeartbeats 4000000 in
theorem c_X9_find_34 {G : ah_G}   : ∀ (x0 : Nat) (x1 : Int32) (x2 : Int32) (σ : ah_H) (r : Int32 × ah_H), f_X9_find_34   x0 x1 x2 σ = some r → AW G m_X9_find 0 0 0 34 [(0, .ref x0), (1, .int x1), (2, .int x2)] [] σ (ah_ri r) := by
  intro x0 x1 x2 σ r h
  unfold f_X9_find_34 at h
  refine aw_iconst (pc := 34) (v := (0 : Int32)) dX9_find_34 (by decide) ?_
  refine aw_istore_n (pc := 35) [(3, .int (0 : Int32)), (0, .ref x0), (1, .int x1), (2, .int x2)] dX9_find_35 rfl (by decide) rfl ?_
  refine aw_sub [1, 2, 3, 0] rfl ?_
  exact c_X9_find_36  _ _ _ _ _ _ _ h
set_option maxRecDepth 100000 in
set_option maxHeartbeats 4000000 in
theorem c_X9_find_2_b {G : ah_G}  (K2 : Nat → Int32 → Int32 → Int32 → ah_H → Option (Int32 × ah_H)) (hK2 : ∀ (x0 : Nat) (x1 : Int32) (x2 : Int32) (x3 : Int32) (σ : ah_H) (r : Int32 × ah_H), K2 x0 x1 x2 x3 σ = some r → AW G m_X9_find 0 0 0 2 [(0, .ref x0), (1, .int x1), (2, .int x2), (3, .int x3)] [] σ (ah_ri r)) : ∀ (x0 : Nat) (x1 : Int32) (x2 : Int32) (x3 : Int32) (σ : ah_H) (r : Int32 × ah_H), f_X9_find_2_b  K2 x0 x1 x2 x3 σ = some r → AW G m_X9_find 0 0 0 2 [(0, .ref x0), (1, .int x1), (2, .int x2), (3, .int x3)] [] σ (ah_ri r) := by
  intro x0 x1 x2 x3 σ r h
  unfold f_X9_find_2_b at h
  refine aw_iload_n (pc := 2) 1 dX9_find_2 rfl ?_
  refine aw_if_ne (pc := 3) 34 dX9_find_3 (by decide) (fun z => ?_) (fun z => ?_)
  · replace h := (if_neg z).symm.trans h
    refine aw_sub [0, 1, 2] rfl ?_
    exact c_X9_find_34  _ _ _ _ _ h
  · replace h := (if_pos z).symm.trans h
    refine aw_iload_n (pc := 6) 3 dX9_find_6 rfl ?_
    refine aw_aload_n (pc := 7) 0 dX9_find_7 rfl ?_
    obtain ⟨v1, e, h⟩ := op_bd h
    refine ow_gI (pc := 8) e dX9_find_8 fd_X9_45 rfl ?_
    refine aw_icmp_ge (pc := 11) 34 dX9_find_11 (by decide) (fun z => ?_) (fun z => ?_)
    · replace h := (if_pos z).symm.trans h
      refine aw_sub [0, 1, 2] rfl ?_
      exact c_X9_find_34  _ _ _ _ _ h
    · replace h := (if_neg z).symm.trans h
      refine aw_aload_n (pc := 14) 0 dX9_find_14 rfl ?_
      obtain ⟨v2, e, h⟩ := op_bd h
      refine ow_gR (pc := 15) e dX9_find_15 fd_X9_11 rfl ?_
      refine aw_iload_n (pc := 18) 3 dX9_find_18 rfl ?_
      obtain ⟨v3, e, h⟩ := op_bd h
      refine ow_aR (pc := 19) e dX9_find_19 (by decide) ?_
      refine aw_iconst (pc := 20) (v := (3 : Int32)) dX9_find_20 (by decide) ?_
      obtain ⟨v4, e, h⟩ := op_bd h
      refine ow_aI (pc := 21) e dX9_find_21 ?_
      refine aw_iload_n (pc := 22) 2 dX9_find_22 rfl ?_
      refine aw_icmp_ne (pc := 23) 28 dX9_find_23 (by decide) (fun z => ?_) (fun z => ?_)
      · replace h := (if_neg z).symm.trans h
        refine aw_iinc (pc := 28) 3 [(3, .int (x3 + (1 : Int32))), (0, .ref x0), (1, .int x1), (2, .int x2)] (x3 + (1 : Int32)) dX9_find_28 rfl rfl (by decide) rfl ?_
        refine aw_goto (pc := 31) 2 dX9_find_31 (by decide) ?_
        refine aw_sub [1, 2, 3, 0] rfl ?_
        exact hK2 _ _ _ _ _ _ h
      · replace h := (if_pos z).symm.trans h
        refine aw_iload_n (pc := 26) 3 dX9_find_26 rfl ?_
        exact ow_iret (pc := 27) h dX9_find_27 rfl
theorem c_X9_find_2 {G : ah_G}   : ∀ (n : Nat) (x0 : Nat) (x1 : Int32) (x2 : Int32) (x3 : Int32) (σ : ah_H) (r : Int32 × ah_H), f_X9_find_2   n x0 x1 x2 x3 σ = some r → AW G m_X9_find 0 0 0 2 [(0, .ref x0), (1, .int x1), (2, .int x2), (3, .int x3)] [] σ (ah_ri r) := by
  intro n
  induction n with
  | zero => intro x0 x1 x2 x3 σ r h; cases h
  | succ n ih => intro x0 x1 x2 x3 σ r h; exact c_X9_find_2_b   _ ih x0 x1 x2 x3 σ r h
set_option maxRecDepth 100000 in
set_option maxHeartbeats 4000000 in
theorem c_X9_find_0 {G : ah_G}   : ∀ (x0 : Nat) (x1 : Int32) (x2 : Int32) (σ : ah_H) (r : Int32 × ah_H), f_X9_find_0   x0 x1 x2 σ = some r → AW G m_X9_find 0 0 0 0 [(0, .ref x0), (1, .int x1), (2, .int x2)] [] σ (ah_ri r) := by
  intro x0 x1 x2 σ r h
  unfold f_X9_find_0 at h
  refine aw_iconst (pc := 0) (v := (0 : Int32)) dX9_find_0 (by decide) ?_
  refine aw_istore_n (pc := 1) [(3, .int (0 : Int32)), (0, .ref x0), (1, .int x1), (2, .int x2)] dX9_find_1 rfl (by decide) rfl ?_
  refine aw_sub [1, 2, 3, 0] rfl ?_
  exact c_X9_find_2  _ _ _ _ _ _ _ h
theorem c_X9_find {G : ah_G}   (x0 : Nat) (x1 : Int32) (x2 : Int32) (σ : ah_H) (r : Int32 × ah_H) (h : f_X9_find  x0 x1 x2 σ = some r) : AM G m_X9_find 0 0 0 [.ref x0, .int x1, .int x2] σ (ah_ri r) := aw_enter (by decide) (Nat.le_of_ble_eq_true rfl) (c_X9_find_0 _ _ _ _ _ (op_ck_k h))
def f_X8_goesOn_0   (x0 : Nat) (x1 : Int32) (σ : ah_H) : Option (Int32 × ah_H) :=
  (op_gI 8 6 σ x0).bind fun v1 => (op_gI 8 5 σ x0).bind fun v2 => if v2 ≤ v1 then ((op_rz (0 : Int32)).map fun q => (q, σ)) else ((op_gR 8 0 σ x0).bind fun v3 => (op_gI 8 6 σ x0).bind fun v4 => (op_aB σ v3 v4).bind fun v5 => if v5 = x1 then ((op_gI 8 6 σ x0).bind fun v6 => (op_pI 8 6 σ x0 (v6 + (1 : Int32))).bind fun σ7 => (op_rz (1 : Int32)).map fun q => (q, σ7)) else ((op_rz (0 : Int32)).map fun q => (q, σ)))
def f_X8_goesOn  (x0 : Nat) (x1 : Int32) (σ : ah_H) : Option (Int32 × ah_H) := op_ck 8 σ x0 (f_X8_goesOn_0 x0 x1 σ)
set_option maxRecDepth 100000 in
set_option maxHeartbeats 4000000 in
theorem c_X8_goesOn_0 {G : ah_G}   : ∀ (x0 : Nat) (x1 : Int32) (σ : ah_H) (r : Int32 × ah_H), f_X8_goesOn_0   x0 x1 σ = some r → AW G m_X8_goesOn 0 0 0 0 [(0, .ref x0), (1, .int x1)] [] σ (ah_ri r) := by
  intro x0 x1 σ r h
  unfold f_X8_goesOn_0 at h
  refine aw_aload_n (pc := 0) 0 dX8_goesOn_0 rfl ?_
  obtain ⟨v1, e, h⟩ := op_bd h
  refine ow_gI (pc := 1) e dX8_goesOn_1 fd_X8_59 rfl ?_
  refine aw_aload_n (pc := 4) 0 dX8_goesOn_4 rfl ?_
  obtain ⟨v2, e, h⟩ := op_bd h
  refine ow_gI (pc := 5) e dX8_goesOn_5 fd_X8_56 rfl ?_
  refine aw_icmp_ge (pc := 8) 24 dX8_goesOn_8 (by decide) (fun z => ?_) (fun z => ?_)
  · replace h := (if_pos z).symm.trans h
    refine aw_iconst (pc := 24) (v := (0 : Int32)) dX8_goesOn_24 (by decide) ?_
    exact ow_zret (pc := 25) h dX8_goesOn_25 rfl
  · replace h := (if_neg z).symm.trans h
    refine aw_aload_n (pc := 11) 0 dX8_goesOn_11 rfl ?_
    obtain ⟨v3, e, h⟩ := op_bd h
    refine ow_gR (pc := 12) e dX8_goesOn_12 fd_X8_24 rfl ?_
    refine aw_aload_n (pc := 15) 0 dX8_goesOn_15 rfl ?_
    obtain ⟨v4, e, h⟩ := op_bd h
    refine ow_gI (pc := 16) e dX8_goesOn_16 fd_X8_59 rfl ?_
    obtain ⟨v5, e, h⟩ := op_bd h
    refine ow_aB (pc := 19) e dX8_goesOn_19 ?_
    refine aw_iload_n (pc := 20) 1 dX8_goesOn_20 rfl ?_
    refine aw_icmp_eq (pc := 21) 26 dX8_goesOn_21 (by decide) (fun z => ?_) (fun z => ?_)
    · replace h := (if_pos z).symm.trans h
      refine aw_aload_n (pc := 26) 0 dX8_goesOn_26 rfl ?_
      refine aw_dup (pc := 27) dX8_goesOn_27 rfl ?_
      obtain ⟨v6, e, h⟩ := op_bd h
      refine ow_gI (pc := 28) e dX8_goesOn_28 fd_X8_59 rfl ?_
      refine aw_iconst (pc := 31) (v := (1 : Int32)) dX8_goesOn_31 (by decide) ?_
      refine aw_iadd (pc := 32) dX8_goesOn_32 ?_
      obtain ⟨σ7, e, h⟩ := op_bd h
      refine ow_pI (pc := 33) e dX8_goesOn_33 fd_X8_59 ?_
      refine aw_iconst (pc := 36) (v := (1 : Int32)) dX8_goesOn_36 (by decide) ?_
      exact ow_zret (pc := 37) h dX8_goesOn_37 rfl
    · replace h := (if_neg z).symm.trans h
      refine aw_iconst (pc := 24) (v := (0 : Int32)) dX8_goesOn_24 (by decide) ?_
      exact ow_zret (pc := 25) h dX8_goesOn_25 rfl
theorem c_X8_goesOn {G : ah_G}   (x0 : Nat) (x1 : Int32) (σ : ah_H) (r : Int32 × ah_H) (h : f_X8_goesOn  x0 x1 σ = some r) : AM G m_X8_goesOn 0 0 0 [.ref x0, .int x1] σ (ah_ri r) := aw_enter (by decide) (Nat.le_of_ble_eq_true rfl) (c_X8_goesOn_0 _ _ _ _ (op_ck_k h))
def f_X8_cutSign_234   (s0 : Nat) (s1 : Int32) (σ : ah_H) : Option (ah_H) :=
  (op_pI 8 9 σ s0 s1).bind fun σ1 => some σ1
def f_X8_cutSign_257   (s0 : Nat) (s1 : Int32) (σ : ah_H) : Option (ah_H) :=
  (op_pI 8 9 σ s0 s1).bind fun σ1 => some σ1
def f_X8_cutSign_0   (x0 : Nat) (σ : ah_H) : Option (ah_H) :=
  (op_gR 8 0 σ x0).bind fun v1 => (op_gI 8 6 σ x0).bind fun v2 => (op_aB σ v1 v2).bind fun v3 => (op_gI 8 6 σ x0).bind fun v4 => (op_pI 8 6 σ x0 (v4 + (1 : Int32))).bind fun σ5 => (op_pI 8 8 σ5 x0 (4 : Int32)).bind fun σ6 => if v3 = (40 : Int32) then ((op_pI 8 9 σ6 x0 (31 : Int32)).bind fun σ7 => some σ7) else (if v3 = (41 : Int32) then ((op_pI 8 9 σ6 x0 (32 : Int32)).bind fun σ8 => some σ8) else (if v3 = (42 : Int32) then ((op_pI 8 9 σ6 x0 (13 : Int32)).bind fun σ9 => some σ9) else (if v3 = (43 : Int32) then ((op_pI 8 9 σ6 x0 (11 : Int32)).bind fun σ10 => some σ10) else (if v3 = (44 : Int32) then ((op_pI 8 8 σ6 x0 (5 : Int32)).bind fun σ11 => some σ11) else (if v3 = (45 : Int32) then ((op_pI 8 9 σ6 x0 (12 : Int32)).bind fun σ12 => some σ12) else (if v3 = (46 : Int32) then ((op_pI 8 8 σ6 x0 (5 : Int32)).bind fun σ13 => some σ13) else (if v3 = (47 : Int32) then ((op_pI 8 9 σ6 x0 (14 : Int32)).bind fun σ14 => some σ14) else (if v3 = (48 : Int32) then ((op_pI 8 8 σ6 x0 (5 : Int32)).bind fun σ15 => some σ15) else (if v3 = (49 : Int32) then ((op_pI 8 8 σ6 x0 (5 : Int32)).bind fun σ16 => some σ16) else (if v3 = (50 : Int32) then ((op_pI 8 8 σ6 x0 (5 : Int32)).bind fun σ17 => some σ17) else (if v3 = (51 : Int32) then ((op_pI 8 8 σ6 x0 (5 : Int32)).bind fun σ18 => some σ18) else (if v3 = (52 : Int32) then ((op_pI 8 8 σ6 x0 (5 : Int32)).bind fun σ19 => some σ19) else (if v3 = (53 : Int32) then ((op_pI 8 8 σ6 x0 (5 : Int32)).bind fun σ20 => some σ20) else (if v3 = (54 : Int32) then ((op_pI 8 8 σ6 x0 (5 : Int32)).bind fun σ21 => some σ21) else (if v3 = (55 : Int32) then ((op_pI 8 8 σ6 x0 (5 : Int32)).bind fun σ22 => some σ22) else (if v3 = (56 : Int32) then ((op_pI 8 8 σ6 x0 (5 : Int32)).bind fun σ23 => some σ23) else (if v3 = (57 : Int32) then ((op_pI 8 8 σ6 x0 (5 : Int32)).bind fun σ24 => some σ24) else (if v3 = (58 : Int32) then ((op_pI 8 8 σ6 x0 (5 : Int32)).bind fun σ25 => some σ25) else (if v3 = (59 : Int32) then ((op_pI 8 9 σ6 x0 (30 : Int32)).bind fun σ26 => some σ26) else (if v3 = (60 : Int32) then ((f_X8_goesOn x0 (61 : Int32) σ6).bind fun r27 => if r27.1 = 0 then ((f_X8_goesOn x0 (62 : Int32) r27.2).bind fun r28 => if r28.1 = 0 then (f_X8_cutSign_234 x0 (5 : Int32) r28.2) else (f_X8_cutSign_234 x0 (8 : Int32) r28.2)) else (f_X8_cutSign_234 x0 (6 : Int32) r27.2)) else (if v3 = (61 : Int32) then ((op_pI 8 9 σ6 x0 (7 : Int32)).bind fun σ29 => some σ29) else (if v3 = (62 : Int32) then ((f_X8_goesOn x0 (61 : Int32) σ6).bind fun r30 => if r30.1 = 0 then (f_X8_cutSign_257 x0 (10 : Int32) r30.2) else (f_X8_cutSign_257 x0 (9 : Int32) r30.2)) else ((op_pI 8 8 σ6 x0 (5 : Int32)).bind fun σ31 => some σ31)))))))))))))))))))))))
def f_X8_cutSign  (x0 : Nat) (σ : ah_H) : Option (ah_H) := op_ck 8 σ x0 (f_X8_cutSign_0 x0 σ)
set_option maxRecDepth 100000 in
set_option maxHeartbeats 4000000 in
theorem c_X8_cutSign_234 {G : ah_G}   : ∀ (s0 : Nat) (s1 : Int32) (σ : ah_H) (r : ah_H), f_X8_cutSign_234   s0 s1 σ = some r → AW G m_X8_cutSign 1 0 0 234 [] [.int s1, .ref s0] σ (ah_rv r) := by
  intro s0 s1 σ r h
  unfold f_X8_cutSign_234 at h
  obtain ⟨σ1, e, h⟩ := op_bd h
  refine ow_pI (pc := 234) e dX8_cutSign_234 fd_X8_68 ?_
  refine aw_goto (pc := 237) 268 dX8_cutSign_237 (by decide) ?_
  exact ow_vret (pc := 268) h dX8_cutSign_268 rfl
set_option maxRecDepth 100000 in
set_option maxHeartbeats 4000000 in
theorem c_X8_cutSign_257 {G : ah_G}   : ∀ (s0 : Nat) (s1 : Int32) (σ : ah_H) (r : ah_H), f_X8_cutSign_257   s0 s1 σ = some r → AW G m_X8_cutSign 1 0 0 257 [] [.int s1, .ref s0] σ (ah_rv r) := by
  intro s0 s1 σ r h
  unfold f_X8_cutSign_257 at h
  obtain ⟨σ1, e, h⟩ := op_bd h
  refine ow_pI (pc := 257) e dX8_cutSign_257 fd_X8_68 ?_
  refine aw_goto (pc := 260) 268 dX8_cutSign_260 (by decide) ?_
  exact ow_vret (pc := 268) h dX8_cutSign_268 rfl
set_option maxRecDepth 100000 in
set_option maxHeartbeats 4000000 in
theorem c_X8_cutSign_0 {G : ah_G}   : ∀ (x0 : Nat) (σ : ah_H) (r : ah_H), f_X8_cutSign_0   x0 σ = some r → AW G m_X8_cutSign 1 0 0 0 [(0, .ref x0)] [] σ (ah_rv r) := by
  intro x0 σ r h
  unfold f_X8_cutSign_0 at h
  refine aw_aload_n (pc := 0) 0 dX8_cutSign_0 rfl ?_
  obtain ⟨v1, e, h⟩ := op_bd h
  refine ow_gR (pc := 1) e dX8_cutSign_1 fd_X8_24 rfl ?_
  refine aw_aload_n (pc := 4) 0 dX8_cutSign_4 rfl ?_
  obtain ⟨v2, e, h⟩ := op_bd h
  refine ow_gI (pc := 5) e dX8_cutSign_5 fd_X8_59 rfl ?_
  obtain ⟨v3, e, h⟩ := op_bd h
  refine ow_aB (pc := 8) e dX8_cutSign_8 ?_
  refine aw_istore_n (pc := 9) [(1, .int v3), (0, .ref x0)] dX8_cutSign_9 rfl (by decide) rfl ?_
  refine aw_aload_n (pc := 10) 1 dX8_cutSign_10 rfl ?_
  refine aw_dup (pc := 11) dX8_cutSign_11 rfl ?_
  obtain ⟨v4, e, h⟩ := op_bd h
  refine ow_gI (pc := 12) e dX8_cutSign_12 fd_X8_59 rfl ?_
  refine aw_iconst (pc := 15) (v := (1 : Int32)) dX8_cutSign_15 (by decide) ?_
  refine aw_iadd (pc := 16) dX8_cutSign_16 ?_
  obtain ⟨σ5, e, h⟩ := op_bd h
  refine ow_pI (pc := 17) e dX8_cutSign_17 fd_X8_59 ?_
  refine aw_aload_n (pc := 20) 1 dX8_cutSign_20 rfl ?_
  refine aw_iconst (pc := 21) (v := (4 : Int32)) dX8_cutSign_21 (by decide) ?_
  obtain ⟨σ6, e, h⟩ := op_bd h
  refine ow_pI (pc := 22) e dX8_cutSign_22 fd_X8_62 ?_
  refine aw_iload_n (pc := 25) 0 dX8_cutSign_25 rfl ?_
  by_cases z0 : v3 = (40 : Int32)
  · replace h := (if_pos z0).symm.trans h
    refine aw_tableIn (pc := 26) (off := 115) 141 dX8_cutSign_26 (by rw [z0]; decide) (by rw [z0]; decide) (by rw [z0]; decide) (by decide) ?_
    refine aw_aload_n (pc := 141) 1 dX8_cutSign_141 rfl ?_
    refine aw_bipush (pc := 142) (v := (31 : Int32)) dX8_cutSign_142 (by decide) ?_
    obtain ⟨σ7, e, h⟩ := op_bd h
    refine ow_pI (pc := 144) e dX8_cutSign_144 fd_X8_68 ?_
    refine aw_goto (pc := 147) 268 dX8_cutSign_147 (by decide) ?_
    exact ow_vret (pc := 268) h dX8_cutSign_268 rfl
  · replace h := (if_neg z0).symm.trans h
    by_cases z1 : v3 = (41 : Int32)
    · replace h := (if_pos z1).symm.trans h
      refine aw_tableIn (pc := 26) (off := 124) 150 dX8_cutSign_26 (by rw [z1]; decide) (by rw [z1]; decide) (by rw [z1]; decide) (by decide) ?_
      refine aw_aload_n (pc := 150) 1 dX8_cutSign_150 rfl ?_
      refine aw_bipush (pc := 151) (v := (32 : Int32)) dX8_cutSign_151 (by decide) ?_
      obtain ⟨σ8, e, h⟩ := op_bd h
      refine ow_pI (pc := 153) e dX8_cutSign_153 fd_X8_68 ?_
      refine aw_goto (pc := 156) 268 dX8_cutSign_156 (by decide) ?_
      exact ow_vret (pc := 268) h dX8_cutSign_268 rfl
    · replace h := (if_neg z1).symm.trans h
      by_cases z2 : v3 = (42 : Int32)
      · replace h := (if_pos z2).symm.trans h
        refine aw_tableIn (pc := 26) (off := 151) 177 dX8_cutSign_26 (by rw [z2]; decide) (by rw [z2]; decide) (by rw [z2]; decide) (by decide) ?_
        refine aw_aload_n (pc := 177) 1 dX8_cutSign_177 rfl ?_
        refine aw_bipush (pc := 178) (v := (13 : Int32)) dX8_cutSign_178 (by decide) ?_
        obtain ⟨σ9, e, h⟩ := op_bd h
        refine ow_pI (pc := 180) e dX8_cutSign_180 fd_X8_68 ?_
        refine aw_goto (pc := 183) 268 dX8_cutSign_183 (by decide) ?_
        exact ow_vret (pc := 268) h dX8_cutSign_268 rfl
      · replace h := (if_neg z2).symm.trans h
        by_cases z3 : v3 = (43 : Int32)
        · replace h := (if_pos z3).symm.trans h
          refine aw_tableIn (pc := 26) (off := 133) 159 dX8_cutSign_26 (by rw [z3]; decide) (by rw [z3]; decide) (by rw [z3]; decide) (by decide) ?_
          refine aw_aload_n (pc := 159) 1 dX8_cutSign_159 rfl ?_
          refine aw_bipush (pc := 160) (v := (11 : Int32)) dX8_cutSign_160 (by decide) ?_
          obtain ⟨σ10, e, h⟩ := op_bd h
          refine ow_pI (pc := 162) e dX8_cutSign_162 fd_X8_68 ?_
          refine aw_goto (pc := 165) 268 dX8_cutSign_165 (by decide) ?_
          exact ow_vret (pc := 268) h dX8_cutSign_268 rfl
        · replace h := (if_neg z3).symm.trans h
          by_cases z4 : v3 = (44 : Int32)
          · replace h := (if_pos z4).symm.trans h
            refine aw_tableIn (pc := 26) (off := 237) 263 dX8_cutSign_26 (by rw [z4]; decide) (by rw [z4]; decide) (by rw [z4]; decide) (by decide) ?_
            refine aw_aload_n (pc := 263) 1 dX8_cutSign_263 rfl ?_
            refine aw_iconst (pc := 264) (v := (5 : Int32)) dX8_cutSign_264 (by decide) ?_
            obtain ⟨σ11, e, h⟩ := op_bd h
            refine ow_pI (pc := 265) e dX8_cutSign_265 fd_X8_62 ?_
            exact ow_vret (pc := 268) h dX8_cutSign_268 rfl
          · replace h := (if_neg z4).symm.trans h
            by_cases z5 : v3 = (45 : Int32)
            · replace h := (if_pos z5).symm.trans h
              refine aw_tableIn (pc := 26) (off := 142) 168 dX8_cutSign_26 (by rw [z5]; decide) (by rw [z5]; decide) (by rw [z5]; decide) (by decide) ?_
              refine aw_aload_n (pc := 168) 1 dX8_cutSign_168 rfl ?_
              refine aw_bipush (pc := 169) (v := (12 : Int32)) dX8_cutSign_169 (by decide) ?_
              obtain ⟨σ12, e, h⟩ := op_bd h
              refine ow_pI (pc := 171) e dX8_cutSign_171 fd_X8_68 ?_
              refine aw_goto (pc := 174) 268 dX8_cutSign_174 (by decide) ?_
              exact ow_vret (pc := 268) h dX8_cutSign_268 rfl
            · replace h := (if_neg z5).symm.trans h
              by_cases z6 : v3 = (46 : Int32)
              · replace h := (if_pos z6).symm.trans h
                refine aw_tableIn (pc := 26) (off := 237) 263 dX8_cutSign_26 (by rw [z6]; decide) (by rw [z6]; decide) (by rw [z6]; decide) (by decide) ?_
                refine aw_aload_n (pc := 263) 1 dX8_cutSign_263 rfl ?_
                refine aw_iconst (pc := 264) (v := (5 : Int32)) dX8_cutSign_264 (by decide) ?_
                obtain ⟨σ13, e, h⟩ := op_bd h
                refine ow_pI (pc := 265) e dX8_cutSign_265 fd_X8_62 ?_
                exact ow_vret (pc := 268) h dX8_cutSign_268 rfl
              · replace h := (if_neg z6).symm.trans h
                by_cases z7 : v3 = (47 : Int32)
                · replace h := (if_pos z7).symm.trans h
                  refine aw_tableIn (pc := 26) (off := 160) 186 dX8_cutSign_26 (by rw [z7]; decide) (by rw [z7]; decide) (by rw [z7]; decide) (by decide) ?_
                  refine aw_aload_n (pc := 186) 1 dX8_cutSign_186 rfl ?_
                  refine aw_bipush (pc := 187) (v := (14 : Int32)) dX8_cutSign_187 (by decide) ?_
                  obtain ⟨σ14, e, h⟩ := op_bd h
                  refine ow_pI (pc := 189) e dX8_cutSign_189 fd_X8_68 ?_
                  refine aw_goto (pc := 192) 268 dX8_cutSign_192 (by decide) ?_
                  exact ow_vret (pc := 268) h dX8_cutSign_268 rfl
                · replace h := (if_neg z7).symm.trans h
                  by_cases z8 : v3 = (48 : Int32)
                  · replace h := (if_pos z8).symm.trans h
                    refine aw_tableIn (pc := 26) (off := 237) 263 dX8_cutSign_26 (by rw [z8]; decide) (by rw [z8]; decide) (by rw [z8]; decide) (by decide) ?_
                    refine aw_aload_n (pc := 263) 1 dX8_cutSign_263 rfl ?_
                    refine aw_iconst (pc := 264) (v := (5 : Int32)) dX8_cutSign_264 (by decide) ?_
                    obtain ⟨σ15, e, h⟩ := op_bd h
                    refine ow_pI (pc := 265) e dX8_cutSign_265 fd_X8_62 ?_
                    exact ow_vret (pc := 268) h dX8_cutSign_268 rfl
                  · replace h := (if_neg z8).symm.trans h
                    by_cases z9 : v3 = (49 : Int32)
                    · replace h := (if_pos z9).symm.trans h
                      refine aw_tableIn (pc := 26) (off := 237) 263 dX8_cutSign_26 (by rw [z9]; decide) (by rw [z9]; decide) (by rw [z9]; decide) (by decide) ?_
                      refine aw_aload_n (pc := 263) 1 dX8_cutSign_263 rfl ?_
                      refine aw_iconst (pc := 264) (v := (5 : Int32)) dX8_cutSign_264 (by decide) ?_
                      obtain ⟨σ16, e, h⟩ := op_bd h
                      refine ow_pI (pc := 265) e dX8_cutSign_265 fd_X8_62 ?_
                      exact ow_vret (pc := 268) h dX8_cutSign_268 rfl
                    · replace h := (if_neg z9).symm.trans h
                      by_cases z10 : v3 = (50 : Int32)
                      · replace h := (if_pos z10).symm.trans h
                        refine aw_tableIn (pc := 26) (off := 237) 263 dX8_cutSign_26 (by rw [z10]; decide) (by rw [z10]; decide) (by rw [z10]; decide) (by decide) ?_
                        refine aw_aload_n (pc := 263) 1 dX8_cutSign_263 rfl ?_
                        refine aw_iconst (pc := 264) (v := (5 : Int32)) dX8_cutSign_264 (by decide) ?_
                        obtain ⟨σ17, e, h⟩ := op_bd h
                        refine ow_pI (pc := 265) e dX8_cutSign_265 fd_X8_62 ?_
                        exact ow_vret (pc := 268) h dX8_cutSign_268 rfl
                      · replace h := (if_neg z10).symm.trans h
                        by_cases z11 : v3 = (51 : Int32)
                        · replace h := (if_pos z11).symm.trans h
                          refine aw_tableIn (pc := 26) (off := 237) 263 dX8_cutSign_26 (by rw [z11]; decide) (by rw [z11]; decide) (by rw [z11]; decide) (by decide) ?_
                          refine aw_aload_n (pc := 263) 1 dX8_cutSign_263 rfl ?_
                          refine aw_iconst (pc := 264) (v := (5 : Int32)) dX8_cutSign_264 (by decide) ?_
                          obtain ⟨σ18, e, h⟩ := op_bd h
                          refine ow_pI (pc := 265) e dX8_cutSign_265 fd_X8_62 ?_
                          exact ow_vret (pc := 268) h dX8_cutSign_268 rfl
                        · replace h := (if_neg z11).symm.trans h
                          by_cases z12 : v3 = (52 : Int32)
                          · replace h := (if_pos z12).symm.trans h
                            refine aw_tableIn (pc := 26) (off := 237) 263 dX8_cutSign_26 (by rw [z12]; decide) (by rw [z12]; decide) (by rw [z12]; decide) (by decide) ?_
                            refine aw_aload_n (pc := 263) 1 dX8_cutSign_263 rfl ?_
                            refine aw_iconst (pc := 264) (v := (5 : Int32)) dX8_cutSign_264 (by decide) ?_
                            obtain ⟨σ19, e, h⟩ := op_bd h
                            refine ow_pI (pc := 265) e dX8_cutSign_265 fd_X8_62 ?_
                            exact ow_vret (pc := 268) h dX8_cutSign_268 rfl
                          · replace h := (if_neg z12).symm.trans h
                            by_cases z13 : v3 = (53 : Int32)
                            · replace h := (if_pos z13).symm.trans h
                              refine aw_tableIn (pc := 26) (off := 237) 263 dX8_cutSign_26 (by rw [z13]; decide) (by rw [z13]; decide) (by rw [z13]; decide) (by decide) ?_
                              refine aw_aload_n (pc := 263) 1 dX8_cutSign_263 rfl ?_
                              refine aw_iconst (pc := 264) (v := (5 : Int32)) dX8_cutSign_264 (by decide) ?_
                              obtain ⟨σ20, e, h⟩ := op_bd h
                              refine ow_pI (pc := 265) e dX8_cutSign_265 fd_X8_62 ?_
                              exact ow_vret (pc := 268) h dX8_cutSign_268 rfl
                            · replace h := (if_neg z13).symm.trans h
                              by_cases z14 : v3 = (54 : Int32)
                              · replace h := (if_pos z14).symm.trans h
                                refine aw_tableIn (pc := 26) (off := 237) 263 dX8_cutSign_26 (by rw [z14]; decide) (by rw [z14]; decide) (by rw [z14]; decide) (by decide) ?_
                                refine aw_aload_n (pc := 263) 1 dX8_cutSign_263 rfl ?_
                                refine aw_iconst (pc := 264) (v := (5 : Int32)) dX8_cutSign_264 (by decide) ?_
                                obtain ⟨σ21, e, h⟩ := op_bd h
                                refine ow_pI (pc := 265) e dX8_cutSign_265 fd_X8_62 ?_
                                exact ow_vret (pc := 268) h dX8_cutSign_268 rfl
                              · replace h := (if_neg z14).symm.trans h
                                by_cases z15 : v3 = (55 : Int32)
                                · replace h := (if_pos z15).symm.trans h
                                  refine aw_tableIn (pc := 26) (off := 237) 263 dX8_cutSign_26 (by rw [z15]; decide) (by rw [z15]; decide) (by rw [z15]; decide) (by decide) ?_
                                  refine aw_aload_n (pc := 263) 1 dX8_cutSign_263 rfl ?_
                                  refine aw_iconst (pc := 264) (v := (5 : Int32)) dX8_cutSign_264 (by decide) ?_
                                  obtain ⟨σ22, e, h⟩ := op_bd h
                                  refine ow_pI (pc := 265) e dX8_cutSign_265 fd_X8_62 ?_
                                  exact ow_vret (pc := 268) h dX8_cutSign_268 rfl
                                · replace h := (if_neg z15).symm.trans h
                                  by_cases z16 : v3 = (56 : Int32)
                                  · replace h := (if_pos z16).symm.trans h
                                    refine aw_tableIn (pc := 26) (off := 237) 263 dX8_cutSign_26 (by rw [z16]; decide) (by rw [z16]; decide) (by rw [z16]; decide) (by decide) ?_
                                    refine aw_aload_n (pc := 263) 1 dX8_cutSign_263 rfl ?_
                                    refine aw_iconst (pc := 264) (v := (5 : Int32)) dX8_cutSign_264 (by decide) ?_
                                    obtain ⟨σ23, e, h⟩ := op_bd h
                                    refine ow_pI (pc := 265) e dX8_cutSign_265 fd_X8_62 ?_
                                    exact ow_vret (pc := 268) h dX8_cutSign_268 rfl
                                  · replace h := (if_neg z16).symm.trans h
                                    by_cases z17 : v3 = (57 : Int32)
                                    · replace h := (if_pos z17).symm.trans h
                                      refine aw_tableIn (pc := 26) (off := 237) 263 dX8_cutSign_26 (by rw [z17]; decide) (by rw [z17]; decide) (by rw [z17]; decide) (by decide) ?_
                                      refine aw_aload_n (pc := 263) 1 dX8_cutSign_263 rfl ?_
                                      refine aw_iconst (pc := 264) (v := (5 : Int32)) dX8_cutSign_264 (by decide) ?_
                                      obtain ⟨σ24, e, h⟩ := op_bd h
                                      refine ow_pI (pc := 265) e dX8_cutSign_265 fd_X8_62 ?_
                                      exact ow_vret (pc := 268) h dX8_cutSign_268 rfl
                                    · replace h := (if_neg z17).symm.trans h
                                      by_cases z18 : v3 = (58 : Int32)
                                      · replace h := (if_pos z18).symm.trans h
                                        refine aw_tableIn (pc := 26) (off := 237) 263 dX8_cutSign_26 (by rw [z18]; decide) (by rw [z18]; decide) (by rw [z18]; decide) (by decide) ?_
                                        refine aw_aload_n (pc := 263) 1 dX8_cutSign_263 rfl ?_
                                        refine aw_iconst (pc := 264) (v := (5 : Int32)) dX8_cutSign_264 (by decide) ?_
                                        obtain ⟨σ25, e, h⟩ := op_bd h
                                        refine ow_pI (pc := 265) e dX8_cutSign_265 fd_X8_62 ?_
                                        exact ow_vret (pc := 268) h dX8_cutSign_268 rfl
                                      · replace h := (if_neg z18).symm.trans h
                                        by_cases z19 : v3 = (59 : Int32)
                                        · replace h := (if_pos z19).symm.trans h
                                          refine aw_tableIn (pc := 26) (off := 106) 132 dX8_cutSign_26 (by rw [z19]; decide) (by rw [z19]; decide) (by rw [z19]; decide) (by decide) ?_
                                          refine aw_aload_n (pc := 132) 1 dX8_cutSign_132 rfl ?_
                                          refine aw_bipush (pc := 133) (v := (30 : Int32)) dX8_cutSign_133 (by decide) ?_
                                          obtain ⟨σ26, e, h⟩ := op_bd h
                                          refine ow_pI (pc := 135) e dX8_cutSign_135 fd_X8_68 ?_
                                          refine aw_goto (pc := 138) 268 dX8_cutSign_138 (by decide) ?_
                                          exact ow_vret (pc := 268) h dX8_cutSign_268 rfl
                                        · replace h := (if_neg z19).symm.trans h
                                          by_cases z20 : v3 = (60 : Int32)
                                          · replace h := (if_pos z20).symm.trans h
                                            refine aw_tableIn (pc := 26) (off := 178) 204 dX8_cutSign_26 (by rw [z20]; decide) (by rw [z20]; decide) (by rw [z20]; decide) (by decide) ?_
                                            refine aw_aload_n (pc := 204) 1 dX8_cutSign_204 rfl ?_
                                            refine aw_aload_n (pc := 205) 1 dX8_cutSign_205 rfl ?_
                                            refine aw_bipush (pc := 206) (v := (61 : Int32)) dX8_cutSign_206 (by decide) ?_
                                            obtain ⟨r27, e, h⟩ := op_bd h
                                            refine ow_cVi (pc := 208) [.int (61 : Int32)] ((c_X8_goesOn _ _ _ _ e).mono (by decide)) (op_ck_sh e) rfl dX8_cutSign_208 cw_X8_95 rfl (Nat.le_of_ble_eq_true rfl) ?_
                                            refine aw_if_eq (pc := 211) 219 dX8_cutSign_211 (by decide) (fun z => ?_) (fun z => ?_)
                                            · replace h := (if_pos z).symm.trans h
                                              refine aw_aload_n (pc := 219) 1 dX8_cutSign_219 rfl ?_
                                              refine aw_bipush (pc := 220) (v := (62 : Int32)) dX8_cutSign_220 (by decide) ?_
                                              obtain ⟨r28, e, h⟩ := op_bd h
                                              refine ow_cVi (pc := 222) [.int (62 : Int32)] ((c_X8_goesOn _ _ _ _ e).mono (by decide)) (op_ck_sh e) rfl dX8_cutSign_222 cw_X8_95 rfl (Nat.le_of_ble_eq_true rfl) ?_
                                              refine aw_if_eq (pc := 225) 233 dX8_cutSign_225 (by decide) (fun z => ?_) (fun z => ?_)
                                              · replace h := (if_pos z).symm.trans h
                                                refine aw_iconst (pc := 233) (v := (5 : Int32)) dX8_cutSign_233 (by decide) ?_
                                                refine aw_sub [] rfl ?_
                                                exact c_X8_cutSign_234  _ _ _ _ h
                                              · replace h := (if_neg z).symm.trans h
                                                refine aw_bipush (pc := 228) (v := (8 : Int32)) dX8_cutSign_228 (by decide) ?_
                                                refine aw_goto (pc := 230) 234 dX8_cutSign_230 (by decide) ?_
                                                refine aw_sub [] rfl ?_
                                                exact c_X8_cutSign_234  _ _ _ _ h
                                            · replace h := (if_neg z).symm.trans h
                                              refine aw_bipush (pc := 214) (v := (6 : Int32)) dX8_cutSign_214 (by decide) ?_
                                              refine aw_goto (pc := 216) 234 dX8_cutSign_216 (by decide) ?_
                                              refine aw_sub [] rfl ?_
                                              exact c_X8_cutSign_234  _ _ _ _ h
                                          · replace h := (if_neg z20).symm.trans h
                                            by_cases z21 : v3 = (61 : Int32)
                                            · replace h := (if_pos z21).symm.trans h
                                              refine aw_tableIn (pc := 26) (off := 169) 195 dX8_cutSign_26 (by rw [z21]; decide) (by rw [z21]; decide) (by rw [z21]; decide) (by decide) ?_
                                              refine aw_aload_n (pc := 195) 1 dX8_cutSign_195 rfl ?_
                                              refine aw_bipush (pc := 196) (v := (7 : Int32)) dX8_cutSign_196 (by decide) ?_
                                              obtain ⟨σ29, e, h⟩ := op_bd h
                                              refine ow_pI (pc := 198) e dX8_cutSign_198 fd_X8_68 ?_
                                              refine aw_goto (pc := 201) 268 dX8_cutSign_201 (by decide) ?_
                                              exact ow_vret (pc := 268) h dX8_cutSign_268 rfl
                                            · replace h := (if_neg z21).symm.trans h
                                              by_cases z22 : v3 = (62 : Int32)
                                              · replace h := (if_pos z22).symm.trans h
                                                refine aw_tableIn (pc := 26) (off := 214) 240 dX8_cutSign_26 (by rw [z22]; decide) (by rw [z22]; decide) (by rw [z22]; decide) (by decide) ?_
                                                refine aw_aload_n (pc := 240) 1 dX8_cutSign_240 rfl ?_
                                                refine aw_aload_n (pc := 241) 1 dX8_cutSign_241 rfl ?_
                                                refine aw_bipush (pc := 242) (v := (61 : Int32)) dX8_cutSign_242 (by decide) ?_
                                                obtain ⟨r30, e, h⟩ := op_bd h
                                                refine ow_cVi (pc := 244) [.int (61 : Int32)] ((c_X8_goesOn _ _ _ _ e).mono (by decide)) (op_ck_sh e) rfl dX8_cutSign_244 cw_X8_95 rfl (Nat.le_of_ble_eq_true rfl) ?_
                                                refine aw_if_eq (pc := 247) 255 dX8_cutSign_247 (by decide) (fun z => ?_) (fun z => ?_)
                                                · replace h := (if_pos z).symm.trans h
                                                  refine aw_bipush (pc := 255) (v := (10 : Int32)) dX8_cutSign_255 (by decide) ?_
                                                  refine aw_sub [] rfl ?_
                                                  exact c_X8_cutSign_257  _ _ _ _ h
                                                · replace h := (if_neg z).symm.trans h
                                                  refine aw_bipush (pc := 250) (v := (9 : Int32)) dX8_cutSign_250 (by decide) ?_
                                                  refine aw_goto (pc := 252) 257 dX8_cutSign_252 (by decide) ?_
                                                  refine aw_sub [] rfl ?_
                                                  exact c_X8_cutSign_257  _ _ _ _ h
                                              · replace h := (if_neg z22).symm.trans h
                                                have wz0 : ¬ (v3).toInt = 40 := fun q => z0 (Int32.toInt_inj.mp q)
                                                have wz1 : ¬ (v3).toInt = 41 := fun q => z1 (Int32.toInt_inj.mp q)
                                                have wz2 : ¬ (v3).toInt = 42 := fun q => z2 (Int32.toInt_inj.mp q)
                                                have wz3 : ¬ (v3).toInt = 43 := fun q => z3 (Int32.toInt_inj.mp q)
                                                have wz4 : ¬ (v3).toInt = 44 := fun q => z4 (Int32.toInt_inj.mp q)
                                                have wz5 : ¬ (v3).toInt = 45 := fun q => z5 (Int32.toInt_inj.mp q)
                                                have wz6 : ¬ (v3).toInt = 46 := fun q => z6 (Int32.toInt_inj.mp q)
                                                have wz7 : ¬ (v3).toInt = 47 := fun q => z7 (Int32.toInt_inj.mp q)
                                                have wz8 : ¬ (v3).toInt = 48 := fun q => z8 (Int32.toInt_inj.mp q)
                                                have wz9 : ¬ (v3).toInt = 49 := fun q => z9 (Int32.toInt_inj.mp q)
                                                have wz10 : ¬ (v3).toInt = 50 := fun q => z10 (Int32.toInt_inj.mp q)
                                                have wz11 : ¬ (v3).toInt = 51 := fun q => z11 (Int32.toInt_inj.mp q)
                                                have wz12 : ¬ (v3).toInt = 52 := fun q => z12 (Int32.toInt_inj.mp q)
                                                have wz13 : ¬ (v3).toInt = 53 := fun q => z13 (Int32.toInt_inj.mp q)
                                                have wz14 : ¬ (v3).toInt = 54 := fun q => z14 (Int32.toInt_inj.mp q)
                                                have wz15 : ¬ (v3).toInt = 55 := fun q => z15 (Int32.toInt_inj.mp q)
                                                have wz16 : ¬ (v3).toInt = 56 := fun q => z16 (Int32.toInt_inj.mp q)
                                                have wz17 : ¬ (v3).toInt = 57 := fun q => z17 (Int32.toInt_inj.mp q)
                                                have wz18 : ¬ (v3).toInt = 58 := fun q => z18 (Int32.toInt_inj.mp q)
                                                have wz19 : ¬ (v3).toInt = 59 := fun q => z19 (Int32.toInt_inj.mp q)
                                                have wz20 : ¬ (v3).toInt = 60 := fun q => z20 (Int32.toInt_inj.mp q)
                                                have wz21 : ¬ (v3).toInt = 61 := fun q => z21 (Int32.toInt_inj.mp q)
                                                have wz22 : ¬ (v3).toInt = 62 := fun q => z22 (Int32.toInt_inj.mp q)
                                                refine aw_tableOut (pc := 26) 263 dX8_cutSign_26 (by omega) (by decide) ?_
                                                refine aw_aload_n (pc := 263) 1 dX8_cutSign_263 rfl ?_
                                                refine aw_iconst (pc := 264) (v := (5 : Int32)) dX8_cutSign_264 (by decide) ?_
                                                obtain ⟨σ31, e, h⟩ := op_bd h
                                                refine ow_pI (pc := 265) e dX8_cutSign_265 fd_X8_62 ?_
                                                exact ow_vret (pc := 268) h dX8_cutSign_268 rfl
theorem c_X8_cutSign {G : ah_G}   (x0 : Nat) (σ : ah_H) (r : ah_H) (h : f_X8_cutSign  x0 σ = some r) : AM G m_X8_cutSign 1 0 0 [.ref x0] σ (ah_rv r) := aw_enter (by decide) (Nat.le_of_ble_eq_true rfl) (c_X8_cutSign_0 _ _ _ (op_ck_k h))
def f_X4_clear_0   (x0 : Nat) (σ : ah_H) : Option (ah_H) :=
  (op_pI 4 0 σ x0 (0 : Int32)).bind fun σ1 => (op_pI 4 1 σ1 x0 (0 : Int32)).bind fun σ2 => (op_gR 4 4 σ2 x0).bind fun v3 => (f_J7_fill_53178 v3 (0 : Int32) σ2).bind fun r4 => (op_gR 4 5 r4 x0).bind fun v5 => (f_J7_fill_53178 v5 (0 : Int32) r4).bind fun r6 => some r6
def f_X4_clear  (x0 : Nat) (σ : ah_H) : Option (ah_H) := op_ck 4 σ x0 (f_X4_clear_0 x0 σ)
set_option maxRecDepth 100000 in
set_option maxHeartbeats 4000000 in
theorem c_X4_clear_0 {G : ah_G}   : ∀ (x0 : Nat) (σ : ah_H) (r : ah_H), f_X4_clear_0   x0 σ = some r → AW G m_X4_clear 1 0 0 0 [(0, .ref x0)] [] σ (ah_rv r) := by
  intro x0 σ r h
  unfold f_X4_clear_0 at h
  refine aw_aload_n (pc := 0) 0 dX4_clear_0 rfl ?_
  refine aw_iconst (pc := 1) (v := (0 : Int32)) dX4_clear_1 (by decide) ?_
  obtain ⟨σ1, e, h⟩ := op_bd h
  refine ow_pI (pc := 2) e dX4_clear_2 fd_X4_31 ?_
  refine aw_aload_n (pc := 5) 0 dX4_clear_5 rfl ?_
  refine aw_iconst (pc := 6) (v := (0 : Int32)) dX4_clear_6 (by decide) ?_
  obtain ⟨σ2, e, h⟩ := op_bd h
  refine ow_pI (pc := 7) e dX4_clear_7 fd_X4_35 ?_
  refine aw_aload_n (pc := 10) 0 dX4_clear_10 rfl ?_
  obtain ⟨v3, e, h⟩ := op_bd h
  refine ow_gR (pc := 11) e dX4_clear_11 fd_X4_18 rfl ?_
  refine aw_iconst (pc := 14) (v := (0 : Int32)) dX4_clear_14 (by decide) ?_
  obtain ⟨r4, e, h⟩ := op_bd h
  refine ow_cSv (pc := 15) [.ref v3, .int (0 : Int32)] ((c_J7_fill_53178 _ _ _ _ e).mono (by decide)) rfl dX4_clear_15 cw_X4_38 rfl (Nat.le_of_ble_eq_true rfl) ?_
  refine aw_aload_n (pc := 18) 0 dX4_clear_18 rfl ?_
  obtain ⟨v5, e, h⟩ := op_bd h
  refine ow_gR (pc := 19) e dX4_clear_19 fd_X4_21 rfl ?_
  refine aw_iconst (pc := 22) (v := (0 : Int32)) dX4_clear_22 (by decide) ?_
  obtain ⟨r6, e, h⟩ := op_bd h
  refine ow_cSv (pc := 23) [.ref v5, .int (0 : Int32)] ((c_J7_fill_53178 _ _ _ _ e).mono (by decide)) rfl dX4_clear_23 cw_X4_38 rfl (Nat.le_of_ble_eq_true rfl) ?_
  exact ow_vret (pc := 26) h dX4_clear_26 rfl
theorem c_X4_clear {G : ah_G}   (x0 : Nat) (σ : ah_H) (r : ah_H) (h : f_X4_clear  x0 σ = some r) : AM G m_X4_clear 1 0 0 [.ref x0] σ (ah_rv r) := aw_enter (by decide) (Nat.le_of_ble_eq_true rfl) (c_X4_clear_0 _ _ _ (op_ck_k h))
def f_X9_clear_0   (x0 : Nat) (σ : ah_H) : Option (ah_H) :=
  (op_pI 9 0 σ x0 (0 : Int32)).bind fun σ1 => (op_pI 9 2 σ1 x0 (-1 : Int32)).bind fun σ2 => (op_pI 9 3 σ2 x0 (-1 : Int32)).bind fun σ3 => (op_pI 9 4 σ3 x0 (0 : Int32)).bind fun σ4 => (op_pI 9 6 σ4 x0 (0 : Int32)).bind fun σ5 => (op_pI 9 8 σ5 x0 (0 : Int32)).bind fun σ6 => (op_gR 9 11 σ6 x0).bind fun v7 => (op_sI σ6 v7 (0 : Int32) (1 : Int32)).bind fun σ8 => (op_gR 9 11 σ8 x0).bind fun v9 => (op_sI σ8 v9 (1 : Int32) (9 : Int32)).bind fun σ10 => (op_gR 9 12 σ10 x0).bind fun v11 => (op_sI σ10 v11 (0 : Int32) (2 : Int32)).bind fun σ12 => (op_gR 9 12 σ12 x0).bind fun v13 => (op_sI σ12 v13 (1 : Int32) (8 : Int32)).bind fun σ14 => (op_pI 9 13 σ14 x0 (1 : Int32)).bind fun σ15 => (op_pI 9 14 σ15 x0 (0 : Int32)).bind fun σ16 => (op_gR 9 15 σ16 x0).bind fun v17 => (f_X4_clear v17 σ16).bind fun r18 => some r18
def f_X9_clear  (x0 : Nat) (σ : ah_H) : Option (ah_H) := op_ck 9 σ x0 (f_X9_clear_0 x0 σ)
set_option maxRecDepth 100000 in
set_option maxHeartbeats 4000000 in
theorem c_X9_clear_0 {G : ah_G}   : ∀ (x0 : Nat) (σ : ah_H) (r : ah_H), f_X9_clear_0   x0 σ = some r → AW G m_X9_clear 2 0 0 0 [(0, .ref x0)] [] σ (ah_rv r) := by
  intro x0 σ r h
  unfold f_X9_clear_0 at h
  refine aw_aload_n (pc := 0) 0 dX9_clear_0 rfl ?_
  refine aw_iconst (pc := 1) (v := (0 : Int32)) dX9_clear_1 (by decide) ?_
  obtain ⟨σ1, e, h⟩ := op_bd h
  refine ow_pI (pc := 2) e dX9_clear_2 fd_X9_45 ?_
  refine aw_aload_n (pc := 5) 0 dX9_clear_5 rfl ?_
  refine aw_iconst (pc := 6) (v := (-1 : Int32)) dX9_clear_6 (by decide) ?_
  obtain ⟨σ2, e, h⟩ := op_bd h
  refine ow_pI (pc := 7) e dX9_clear_7 fd_X9_49 ?_
  refine aw_aload_n (pc := 10) 0 dX9_clear_10 rfl ?_
  refine aw_iconst (pc := 11) (v := (-1 : Int32)) dX9_clear_11 (by decide) ?_
  obtain ⟨σ3, e, h⟩ := op_bd h
  refine ow_pI (pc := 12) e dX9_clear_12 fd_X9_52 ?_
  refine aw_aload_n (pc := 15) 0 dX9_clear_15 rfl ?_
  refine aw_iconst (pc := 16) (v := (0 : Int32)) dX9_clear_16 (by decide) ?_
  obtain ⟨σ4, e, h⟩ := op_bd h
  refine ow_pI (pc := 17) e dX9_clear_17 fd_X9_55 ?_
  refine aw_aload_n (pc := 20) 0 dX9_clear_20 rfl ?_
  refine aw_iconst (pc := 21) (v := (0 : Int32)) dX9_clear_21 (by decide) ?_
  obtain ⟨σ5, e, h⟩ := op_bd h
  refine ow_pI (pc := 22) e dX9_clear_22 fd_X9_58 ?_
  refine aw_aload_n (pc := 25) 0 dX9_clear_25 rfl ?_
  refine aw_iconst (pc := 26) (v := (0 : Int32)) dX9_clear_26 (by decide) ?_
  obtain ⟨σ6, e, h⟩ := op_bd h
  refine ow_pI (pc := 27) e dX9_clear_27 fd_X9_61 ?_
  refine aw_aload_n (pc := 30) 0 dX9_clear_30 rfl ?_
  obtain ⟨v7, e, h⟩ := op_bd h
  refine ow_gR (pc := 31) e dX9_clear_31 fd_X9_29 rfl ?_
  refine aw_iconst (pc := 34) (v := (0 : Int32)) dX9_clear_34 (by decide) ?_
  refine aw_iconst (pc := 35) (v := (1 : Int32)) dX9_clear_35 (by decide) ?_
  obtain ⟨σ8, e, h⟩ := op_bd h
  refine ow_sI (pc := 36) e dX9_clear_36 ?_
  refine aw_aload_n (pc := 37) 0 dX9_clear_37 rfl ?_
  obtain ⟨v9, e, h⟩ := op_bd h
  refine ow_gR (pc := 38) e dX9_clear_38 fd_X9_29 rfl ?_
  refine aw_iconst (pc := 41) (v := (1 : Int32)) dX9_clear_41 (by decide) ?_
  refine aw_bipush (pc := 42) (v := (9 : Int32)) dX9_clear_42 (by decide) ?_
  obtain ⟨σ10, e, h⟩ := op_bd h
  refine ow_sI (pc := 44) e dX9_clear_44 ?_
  refine aw_aload_n (pc := 45) 0 dX9_clear_45 rfl ?_
  obtain ⟨v11, e, h⟩ := op_bd h
  refine ow_gR (pc := 46) e dX9_clear_46 fd_X9_32 rfl ?_
  refine aw_iconst (pc := 49) (v := (0 : Int32)) dX9_clear_49 (by decide) ?_
  refine aw_iconst (pc := 50) (v := (2 : Int32)) dX9_clear_50 (by decide) ?_
  obtain ⟨σ12, e, h⟩ := op_bd h
  refine ow_sI (pc := 51) e dX9_clear_51 ?_
  refine aw_aload_n (pc := 52) 0 dX9_clear_52 rfl ?_
  obtain ⟨v13, e, h⟩ := op_bd h
  refine ow_gR (pc := 53) e dX9_clear_53 fd_X9_32 rfl ?_
  refine aw_iconst (pc := 56) (v := (1 : Int32)) dX9_clear_56 (by decide) ?_
  refine aw_bipush (pc := 57) (v := (8 : Int32)) dX9_clear_57 (by decide) ?_
  obtain ⟨σ14, e, h⟩ := op_bd h
  refine ow_sI (pc := 59) e dX9_clear_59 ?_
  refine aw_aload_n (pc := 60) 0 dX9_clear_60 rfl ?_
  refine aw_iconst (pc := 61) (v := (1 : Int32)) dX9_clear_61 (by decide) ?_
  obtain ⟨σ15, e, h⟩ := op_bd h
  refine ow_pI (pc := 62) e dX9_clear_62 fd_X9_64 ?_
  refine aw_aload_n (pc := 65) 0 dX9_clear_65 rfl ?_
  refine aw_iconst (pc := 66) (v := (0 : Int32)) dX9_clear_66 (by decide) ?_
  obtain ⟨σ16, e, h⟩ := op_bd h
  refine ow_pI (pc := 67) e dX9_clear_67 fd_X9_67 ?_
  refine aw_aload_n (pc := 70) 0 dX9_clear_70 rfl ?_
  obtain ⟨v17, e, h⟩ := op_bd h
  refine ow_gR (pc := 71) e dX9_clear_71 fd_X9_38 rfl ?_
  obtain ⟨r18, e, h⟩ := op_bd h
  refine ow_cVv (pc := 74) [] ((c_X4_clear _ _ _ e).mono (by decide)) (op_ck_sh e) rfl dX9_clear_74 cw_X9_70 rfl (Nat.le_of_ble_eq_true rfl) ?_
  exact ow_vret (pc := 77) h dX9_clear_77 rfl
theorem c_X9_clear {G : ah_G}   (x0 : Nat) (σ : ah_H) (r : ah_H) (h : f_X9_clear  x0 σ = some r) : AM G m_X9_clear 2 0 0 [.ref x0] σ (ah_rv r) := aw_enter (by decide) (Nat.le_of_ble_eq_true rfl) (c_X9_clear_0 _ _ _ (op_ck_k h))
def f_X5_writeTo_0   (x0 : Nat) (x1 : Nat) (σ : ah_H) : Option (ah_H) :=
  (op_gR 5 0 σ x0).bind fun v1 => (op_cp σ v1 (0 : Int32) x1 (0 : Int32) (7 : Int32)).bind fun σ2 => (op_gR 5 1 σ2 x0).bind fun v3 => (op_cp σ2 v3 (0 : Int32) x1 (7 : Int32) (7 : Int32)).bind fun σ4 => (op_gR 5 2 σ4 x0).bind fun v5 => (op_cp σ4 v5 (0 : Int32) x1 (14 : Int32) (7 : Int32)).bind fun σ6 => (op_gR 5 3 σ6 x0).bind fun v7 => (op_cp σ6 v7 (0 : Int32) x1 (21 : Int32) (7 : Int32)).bind fun σ8 => some σ8
def f_X5_writeTo  (x0 : Nat) (x1 : Nat) (σ : ah_H) : Option (ah_H) := op_ck 5 σ x0 (f_X5_writeTo_0 x0 x1 σ)
set_option maxRecDepth 100000 in
set_option maxHeartbeats 4000000 in
theorem c_X5_writeTo_0 {G : ah_G}   : ∀ (x0 : Nat) (x1 : Nat) (σ : ah_H) (r : ah_H), f_X5_writeTo_0   x0 x1 σ = some r → AW G m_X5_writeTo 3 0 0 0 [(0, .ref x0), (1, .ref x1)] [] σ (ah_rv r) := by
  intro x0 x1 σ r h
  unfold f_X5_writeTo_0 at h
  refine aw_aload_n (pc := 0) 0 dX5_writeTo_0 rfl ?_
  obtain ⟨v1, e, h⟩ := op_bd h
  refine ow_gR (pc := 1) e dX5_writeTo_1 fd_X5_9 rfl ?_
  refine aw_iconst (pc := 4) (v := (0 : Int32)) dX5_writeTo_4 (by decide) ?_
  refine aw_aload_n (pc := 5) 1 dX5_writeTo_5 rfl ?_
  refine aw_iconst (pc := 6) (v := (0 : Int32)) dX5_writeTo_6 (by decide) ?_
  refine aw_bipush (pc := 7) (v := (7 : Int32)) dX5_writeTo_7 (by decide) ?_
  obtain ⟨σ2, e, h⟩ := op_bd h
  refine ow_cp (pc := 9) e dX5_writeTo_9 cp_X5_59 (Nat.le_of_ble_eq_true rfl) ?_
  refine aw_aload_n (pc := 12) 0 dX5_writeTo_12 rfl ?_
  obtain ⟨v3, e, h⟩ := op_bd h
  refine ow_gR (pc := 13) e dX5_writeTo_13 fd_X5_15 rfl ?_
  refine aw_iconst (pc := 16) (v := (0 : Int32)) dX5_writeTo_16 (by decide) ?_
  refine aw_aload_n (pc := 17) 1 dX5_writeTo_17 rfl ?_
  refine aw_bipush (pc := 18) (v := (7 : Int32)) dX5_writeTo_18 (by decide) ?_
  refine aw_bipush (pc := 20) (v := (7 : Int32)) dX5_writeTo_20 (by decide) ?_
  obtain ⟨σ4, e, h⟩ := op_bd h
  refine ow_cp (pc := 22) e dX5_writeTo_22 cp_X5_59 (Nat.le_of_ble_eq_true rfl) ?_
  refine aw_aload_n (pc := 25) 0 dX5_writeTo_25 rfl ?_
  obtain ⟨v5, e, h⟩ := op_bd h
  refine ow_gR (pc := 26) e dX5_writeTo_26 fd_X5_18 rfl ?_
  refine aw_iconst (pc := 29) (v := (0 : Int32)) dX5_writeTo_29 (by decide) ?_
  refine aw_aload_n (pc := 30) 1 dX5_writeTo_30 rfl ?_
  refine aw_bipush (pc := 31) (v := (14 : Int32)) dX5_writeTo_31 (by decide) ?_
  refine aw_bipush (pc := 33) (v := (7 : Int32)) dX5_writeTo_33 (by decide) ?_
  obtain ⟨σ6, e, h⟩ := op_bd h
  refine ow_cp (pc := 35) e dX5_writeTo_35 cp_X5_59 (Nat.le_of_ble_eq_true rfl) ?_
  refine aw_aload_n (pc := 38) 0 dX5_writeTo_38 rfl ?_
  obtain ⟨v7, e, h⟩ := op_bd h
  refine ow_gR (pc := 39) e dX5_writeTo_39 fd_X5_21 rfl ?_
  refine aw_iconst (pc := 42) (v := (0 : Int32)) dX5_writeTo_42 (by decide) ?_
  refine aw_aload_n (pc := 43) 1 dX5_writeTo_43 rfl ?_
  refine aw_bipush (pc := 44) (v := (21 : Int32)) dX5_writeTo_44 (by decide) ?_
  refine aw_bipush (pc := 46) (v := (7 : Int32)) dX5_writeTo_46 (by decide) ?_
  obtain ⟨σ8, e, h⟩ := op_bd h
  refine ow_cp (pc := 48) e dX5_writeTo_48 cp_X5_59 (Nat.le_of_ble_eq_true rfl) ?_
  exact ow_vret (pc := 51) h dX5_writeTo_51 rfl
theorem c_X5_writeTo {G : ah_G}   (x0 : Nat) (x1 : Nat) (σ : ah_H) (r : ah_H) (h : f_X5_writeTo  x0 x1 σ = some r) : AM G m_X5_writeTo 3 0 0 [.ref x0, .ref x1] σ (ah_rv r) := aw_enter (by decide) (Nat.le_of_ble_eq_true rfl) (c_X5_writeTo_0 _ _ _ _ (op_ck_k h))
def f_X5_remember_0   (x0 : Nat) (σ : ah_H) : Option (ah_H) :=
  (op_gR 5 6 σ x0).bind fun v1 => (op_gI 5 7 σ x0).bind fun v2 => (op_gI 5 4 σ x0).bind fun v3 => (op_rem (v2 + v3) (20 : Int32)).bind fun v4 => (op_aR .int σ v1 v4).bind fun v5 => (f_X5_writeTo x0 v5 σ).bind fun r6 => (op_gI 5 4 r6 x0).bind fun v7 => if (20 : Int32) ≤ v7 then ((op_gI 5 7 r6 x0).bind fun v8 => (op_rem (v8 + (1 : Int32)) (20 : Int32)).bind fun v9 => (op_pI 5 7 r6 x0 v9).bind fun σ10 => some σ10) else ((op_gI 5 4 r6 x0).bind fun v11 => (op_pI 5 4 r6 x0 (v11 + (1 : Int32))).bind fun σ12 => some σ12)
def f_X5_remember  (x0 : Nat) (σ : ah_H) : Option (ah_H) := op_ck 5 σ x0 (f_X5_remember_0 x0 σ)
set_option maxRecDepth 100000 in
set_option maxHeartbeats 4000000 in
theorem c_X5_remember_0 {G : ah_G}   : ∀ (x0 : Nat) (σ : ah_H) (r : ah_H), f_X5_remember_0   x0 σ = some r → AW G m_X5_remember 4 0 0 0 [(0, .ref x0)] [] σ (ah_rv r) := by
  intro x0 σ r h
  unfold f_X5_remember_0 at h
  refine aw_aload_n (pc := 0) 0 dX5_remember_0 rfl ?_
  refine aw_aload_n (pc := 1) 0 dX5_remember_1 rfl ?_
  obtain ⟨v1, e, h⟩ := op_bd h
  refine ow_gR (pc := 2) e dX5_remember_2 fd_X5_26 rfl ?_
  refine aw_aload_n (pc := 5) 0 dX5_remember_5 rfl ?_
  obtain ⟨v2, e, h⟩ := op_bd h
  refine ow_gI (pc := 6) e dX5_remember_6 fd_X5_45 rfl ?_
  refine aw_aload_n (pc := 9) 0 dX5_remember_9 rfl ?_
  obtain ⟨v3, e, h⟩ := op_bd h
  refine ow_gI (pc := 10) e dX5_remember_10 fd_X5_41 rfl ?_
  refine aw_iadd (pc := 13) dX5_remember_13 ?_
  refine aw_bipush (pc := 14) (v := (20 : Int32)) dX5_remember_14 (by decide) ?_
  obtain ⟨v4, e, h⟩ := op_bd h
  refine ow_rem (pc := 16) e dX5_remember_16 ?_
  obtain ⟨v5, e, h⟩ := op_bd h
  refine ow_aR (pc := 17) e dX5_remember_17 (by decide) ?_
  obtain ⟨r6, e, h⟩ := op_bd h
  refine ow_cVv (pc := 18) [.ref v5] ((c_X5_writeTo _ _ _ _ e).mono (by decide)) (op_ck_sh e) rfl dX5_remember_18 cw_X5_52 rfl (Nat.le_of_ble_eq_true rfl) ?_
  refine aw_aload_n (pc := 21) 0 dX5_remember_21 rfl ?_
  obtain ⟨v7, e, h⟩ := op_bd h
  refine ow_gI (pc := 22) e dX5_remember_22 fd_X5_41 rfl ?_
  refine aw_bipush (pc := 25) (v := (20 : Int32)) dX5_remember_25 (by decide) ?_
  refine aw_icmp_ge (pc := 27) 43 dX5_remember_27 (by decide) (fun z => ?_) (fun z => ?_)
  · replace h := (if_pos z).symm.trans h
    refine aw_aload_n (pc := 43) 0 dX5_remember_43 rfl ?_
    refine aw_aload_n (pc := 44) 0 dX5_remember_44 rfl ?_
    obtain ⟨v8, e, h⟩ := op_bd h
    refine ow_gI (pc := 45) e dX5_remember_45 fd_X5_45 rfl ?_
    refine aw_iconst (pc := 48) (v := (1 : Int32)) dX5_remember_48 (by decide) ?_
    refine aw_iadd (pc := 49) dX5_remember_49 ?_
    refine aw_bipush (pc := 50) (v := (20 : Int32)) dX5_remember_50 (by decide) ?_
    obtain ⟨v9, e, h⟩ := op_bd h
    refine ow_rem (pc := 52) e dX5_remember_52 ?_
    obtain ⟨σ10, e, h⟩ := op_bd h
    refine ow_pI (pc := 53) e dX5_remember_53 fd_X5_45 ?_
    exact ow_vret (pc := 56) h dX5_remember_56 rfl
  · replace h := (if_neg z).symm.trans h
    refine aw_aload_n (pc := 30) 0 dX5_remember_30 rfl ?_
    refine aw_dup (pc := 31) dX5_remember_31 rfl ?_
    obtain ⟨v11, e, h⟩ := op_bd h
    refine ow_gI (pc := 32) e dX5_remember_32 fd_X5_41 rfl ?_
    refine aw_iconst (pc := 35) (v := (1 : Int32)) dX5_remember_35 (by decide) ?_
    refine aw_iadd (pc := 36) dX5_remember_36 ?_
    obtain ⟨σ12, e, h⟩ := op_bd h
    refine ow_pI (pc := 37) e dX5_remember_37 fd_X5_41 ?_
    refine aw_goto (pc := 40) 56 dX5_remember_40 (by decide) ?_
    exact ow_vret (pc := 56) h dX5_remember_56 rfl
theorem c_X5_remember {G : ah_G}   (x0 : Nat) (σ : ah_H) (r : ah_H) (h : f_X5_remember  x0 σ = some r) : AM G m_X5_remember 4 0 0 [.ref x0] σ (ah_rv r) := aw_enter (by decide) (Nat.le_of_ble_eq_true rfl) (c_X5_remember_0 _ _ _ (op_ck_k h))
def f_X9_isCorner_0   (x0 : Nat) (x1 : Int32) (σ : ah_H) : Option (Int32 × ah_H) :=
  if x1 < 0 then ((op_rz (0 : Int32)).map fun q => (q, σ)) else ((op_gI 9 0 σ x0).bind fun v1 => if v1 ≤ x1 then ((op_rz (0 : Int32)).map fun q => (q, σ)) else ((op_rz (1 : Int32)).map fun q => (q, σ)))
def f_X9_isCorner  (x0 : Nat) (x1 : Int32) (σ : ah_H) : Option (Int32 × ah_H) := op_ck 9 σ x0 (f_X9_isCorner_0 x0 x1 σ)
set_option maxRecDepth 100000 in
set_option maxHeartbeats 4000000 in
theorem c_X9_isCorner_0 {G : ah_G}   : ∀ (x0 : Nat) (x1 : Int32) (σ : ah_H) (r : Int32 × ah_H), f_X9_isCorner_0   x0 x1 σ = some r → AW G m_X9_isCorner 0 0 0 0 [(0, .ref x0), (1, .int x1)] [] σ (ah_ri r) := by
  intro x0 x1 σ r h
  unfold f_X9_isCorner_0 at h
  refine aw_iload_n (pc := 0) 1 dX9_isCorner_0 rfl ?_
  refine aw_if_lt (pc := 1) 16 dX9_isCorner_1 (by decide) (fun z => ?_) (fun z => ?_)
  · replace h := (if_pos z).symm.trans h
    refine aw_iconst (pc := 16) (v := (0 : Int32)) dX9_isCorner_16 (by decide) ?_
    exact ow_zret (pc := 17) h dX9_isCorner_17 rfl
  · replace h := (if_neg z).symm.trans h
    refine aw_iload_n (pc := 4) 1 dX9_isCorner_4 rfl ?_
    refine aw_aload_n (pc := 5) 0 dX9_isCorner_5 rfl ?_
    obtain ⟨v1, e, h⟩ := op_bd h
    refine ow_gI (pc := 6) e dX9_isCorner_6 fd_X9_45 rfl ?_
    refine aw_icmp_ge (pc := 9) 16 dX9_isCorner_9 (by decide) (fun z => ?_) (fun z => ?_)
    · replace h := (if_pos z).symm.trans h
      refine aw_iconst (pc := 16) (v := (0 : Int32)) dX9_isCorner_16 (by decide) ?_
      exact ow_zret (pc := 17) h dX9_isCorner_17 rfl
    · replace h := (if_neg z).symm.trans h
      refine aw_iconst (pc := 12) (v := (1 : Int32)) dX9_isCorner_12 (by decide) ?_
      refine aw_goto (pc := 13) 17 dX9_isCorner_13 (by decide) ?_
      exact ow_zret (pc := 17) h dX9_isCorner_17 rfl
theorem c_X9_isCorner {G : ah_G}   (x0 : Nat) (x1 : Int32) (σ : ah_H) (r : Int32 × ah_H) (h : f_X9_isCorner  x0 x1 σ = some r) : AM G m_X9_isCorner 0 0 0 [.ref x0, .int x1] σ (ah_ri r) := aw_enter (by decide) (Nat.le_of_ble_eq_true rfl) (c_X9_isCorner_0 _ _ _ _ (op_ck_k h))
def f_X5_pipesLaid_23  (K4 : Nat → Int32 → Int32 → ah_H → Option (Int32 × ah_H)) (x0 : Nat) (x1 : Int32) (x2 : Int32) (σ : ah_H) : Option (Int32 × ah_H) :=
  K4 x0 x1 (x2 + (1 : Int32)) σ
def f_X5_pipesLaid_4_b  (K4 : Nat → Int32 → Int32 → ah_H → Option (Int32 × ah_H)) (x0 : Nat) (x1 : Int32) (x2 : Int32) (σ : ah_H) : Option (Int32 × ah_H) :=
  if (7 : Int32) ≤ x2 then (some (x1, σ)) else ((op_gR 5 0 σ x0).bind fun v1 => (op_aI σ v1 x2).bind fun v2 => if v2 = (-1 : Int32) then (f_X5_pipesLaid_23 K4 x0 x1 x2 σ) else (f_X5_pipesLaid_23 K4 x0 (x1 + (1 : Int32)) x2 σ))
def f_X5_pipesLaid_4   : Nat → Nat → Int32 → Int32 → ah_H → Option (Int32 × ah_H)
  | 0, _, _, _, _ => none
  | n + 1, x0, x1, x2, σ => f_X5_pipesLaid_4_b (f_X5_pipesLaid_4 n) x0 x1 x2 σ
def f_X5_pipesLaid_0   (x0 : Nat) (σ : ah_H) : Option (Int32 × ah_H) :=
  f_X5_pipesLaid_4 5000 x0 (0 : Int32) (0 : Int32) σ
def f_X5_pipesLaid  (x0 : Nat) (σ : ah_H) : Option (Int32 × ah_H) := op_ck 5 σ x0 (f_X5_pipesLaid_0 x0 σ)
set_option maxRecDepth 100000 in
set_option maxHeartbeats 4000000 in
theorem c_X5_pipesLaid_23 {G : ah_G}  (K4 : Nat → Int32 → Int32 → ah_H → Option (Int32 × ah_H)) (hK4 : ∀ (x0 : Nat) (x1 : Int32) (x2 : Int32) (σ : ah_H) (r : Int32 × ah_H), K4 x0 x1 x2 σ = some r → AW G m_X5_pipesLaid 0 0 0 4 [(0, .ref x0), (1, .int x1), (2, .int x2)] [] σ (ah_ri r)) : ∀ (x0 : Nat) (x1 : Int32) (x2 : Int32) (σ : ah_H) (r : Int32 × ah_H), f_X5_pipesLaid_23  K4 x0 x1 x2 σ = some r → AW G m_X5_pipesLaid 0 0 0 23 [(0, .ref x0), (1, .int x1), (2, .int x2)] [] σ (ah_ri r) := by
  intro x0 x1 x2 σ r h
  unfold f_X5_pipesLaid_23 at h
  refine aw_iinc (pc := 23) 2 [(2, .int (x2 + (1 : Int32))), (0, .ref x0), (1, .int x1)] (x2 + (1 : Int32)) dX5_pipesLaid_23 rfl rfl (by decide) rfl ?_
  refine aw_goto (pc := 26) 4 dX5_pipesLaid_26 (by decide) ?_
  refine aw_sub [1, 2, 0] rfl ?_
  exact hK4 _ _ _ _ _ h
set_option maxRecDepth 100000 in
set_option maxHeartbeats 4000000 in
theorem c_X5_pipesLaid_4_b {G : ah_G}  (K4 : Nat → Int32 → Int32 → ah_H → Option (Int32 × ah_H)) (hK4 : ∀ (x0 : Nat) (x1 : Int32) (x2 : Int32) (σ : ah_H) (r : Int32 × ah_H), K4 x0 x1 x2 σ = some r → AW G m_X5_pipesLaid 0 0 0 4 [(0, .ref x0), (1, .int x1), (2, .int x2)] [] σ (ah_ri r)) : ∀ (x0 : Nat) (x1 : Int32) (x2 : Int32) (σ : ah_H) (r : Int32 × ah_H), f_X5_pipesLaid_4_b  K4 x0 x1 x2 σ = some r → AW G m_X5_pipesLaid 0 0 0 4 [(0, .ref x0), (1, .int x1), (2, .int x2)] [] σ (ah_ri r) := by
  intro x0 x1 x2 σ r h
  unfold f_X5_pipesLaid_4_b at h
  refine aw_iload_n (pc := 4) 2 dX5_pipesLaid_4 rfl ?_
  refine aw_bipush (pc := 5) (v := (7 : Int32)) dX5_pipesLaid_5 (by decide) ?_
  refine aw_icmp_ge (pc := 7) 29 dX5_pipesLaid_7 (by decide) (fun z => ?_) (fun z => ?_)
  · replace h := (if_pos z).symm.trans h
    refine aw_iload_n (pc := 29) 1 dX5_pipesLaid_29 rfl ?_
    exact ow_iret (pc := 30) h dX5_pipesLaid_30 rfl
  · replace h := (if_neg z).symm.trans h
    refine aw_aload_n (pc := 10) 0 dX5_pipesLaid_10 rfl ?_
    obtain ⟨v1, e, h⟩ := op_bd h
    refine ow_gR (pc := 11) e dX5_pipesLaid_11 fd_X5_9 rfl ?_
    refine aw_iload_n (pc := 14) 2 dX5_pipesLaid_14 rfl ?_
    obtain ⟨v2, e, h⟩ := op_bd h
    refine ow_aI (pc := 15) e dX5_pipesLaid_15 ?_
    refine aw_iconst (pc := 16) (v := (-1 : Int32)) dX5_pipesLaid_16 (by decide) ?_
    refine aw_icmp_eq (pc := 17) 23 dX5_pipesLaid_17 (by decide) (fun z => ?_) (fun z => ?_)
    · replace h := (if_pos z).symm.trans h
      exact c_X5_pipesLaid_23 K4 hK4 _ _ _ _ _ h
    · replace h := (if_neg z).symm.trans h
      refine aw_iinc (pc := 20) 1 [(1, .int (x1 + (1 : Int32))), (0, .ref x0), (2, .int x2)] (x1 + (1 : Int32)) dX5_pipesLaid_20 rfl rfl (by decide) rfl ?_
      refine aw_sub [1, 0, 2] rfl ?_
      exact c_X5_pipesLaid_23 K4 hK4 _ _ _ _ _ h
theorem c_X5_pipesLaid_4 {G : ah_G}   : ∀ (n : Nat) (x0 : Nat) (x1 : Int32) (x2 : Int32) (σ : ah_H) (r : Int32 × ah_H), f_X5_pipesLaid_4   n x0 x1 x2 σ = some r → AW G m_X5_pipesLaid 0 0 0 4 [(0, .ref x0), (1, .int x1), (2, .int x2)] [] σ (ah_ri r) := by
  intro n
  induction n with
  | zero => intro x0 x1 x2 σ r h; cases h
  | succ n ih => intro x0 x1 x2 σ r h; exact c_X5_pipesLaid_4_b   _ ih x0 x1 x2 σ r h
set_option maxRecDepth 100000 in
set_option maxHeartbeats 4000000 in
theorem c_X5_pipesLaid_0 {G : ah_G}   : ∀ (x0 : Nat) (σ : ah_H) (r : Int32 × ah_H), f_X5_pipesLaid_0   x0 σ = some r → AW G m_X5_pipesLaid 0 0 0 0 [(0, .ref x0)] [] σ (ah_ri r) := by
  intro x0 σ r h
  unfold f_X5_pipesLaid_0 at h
  refine aw_iconst (pc := 0) (v := (0 : Int32)) dX5_pipesLaid_0 (by decide) ?_
  refine aw_istore_n (pc := 1) [(1, .int (0 : Int32)), (0, .ref x0)] dX5_pipesLaid_1 rfl (by decide) rfl ?_
  refine aw_iconst (pc := 2) (v := (0 : Int32)) dX5_pipesLaid_2 (by decide) ?_
  refine aw_istore_n (pc := 3) [(2, .int (0 : Int32)), (1, .int (0 : Int32)), (0, .ref x0)] dX5_pipesLaid_3 rfl (by decide) rfl ?_
  refine aw_sub [2, 1, 0] rfl ?_
  exact c_X5_pipesLaid_4  _ _ _ _ _ _ h
theorem c_X5_pipesLaid {G : ah_G}   (x0 : Nat) (σ : ah_H) (r : Int32 × ah_H) (h : f_X5_pipesLaid  x0 σ = some r) : AM G m_X5_pipesLaid 0 0 0 [.ref x0] σ (ah_ri r) := aw_enter (by decide) (Nat.le_of_ble_eq_true rfl) (c_X5_pipesLaid_0 _ _ _ (op_ck_k h))
def f_X12_is_0   (x0 : Int32) (σ : ah_H) : Option (Int64 × ah_H) :=
  if x0 = 0 then (some ((0 : Int64), σ)) else (some ((1 : Int64), σ))
def f_X12_is  (x0 : Int32) (σ : ah_H) : Option (Int64 × ah_H) := f_X12_is_0 x0 σ
set_option maxRecDepth 100000 in
set_option maxHeartbeats 4000000 in
theorem c_X12_is_0 {G : ah_G}   : ∀ (x0 : Int32) (σ : ah_H) (r : Int64 × ah_H), f_X12_is_0   x0 σ = some r → AW G m_X12_is 0 0 0 0 [(0, .int x0)] [] σ (ah_rl r) := by
  intro x0 σ r h
  unfold f_X12_is_0 at h
  refine aw_iload_n (pc := 0) 0 dX12_is_0 rfl ?_
  refine aw_if_eq (pc := 1) 8 dX12_is_1 (by decide) (fun z => ?_) (fun z => ?_)
  · replace h := (if_pos z).symm.trans h
    refine aw_lconst (pc := 8) (v := (0 : Int64)) dX12_is_8 (by decide) ?_
    exact ow_lret (pc := 9) h dX12_is_9 rfl
  · replace h := (if_neg z).symm.trans h
    refine aw_lconst (pc := 4) (v := (1 : Int64)) dX12_is_4 (by decide) ?_
    refine aw_goto (pc := 5) 9 dX12_is_5 (by decide) ?_
    exact ow_lret (pc := 9) h dX12_is_9 rfl
theorem c_X12_is {G : ah_G}   (x0 : Int32) (σ : ah_H) (r : Int64 × ah_H) (h : f_X12_is  x0 σ = some r) : AM G m_X12_is 0 0 0 [.int x0] σ (ah_rl r) := aw_enter (by decide) (Nat.le_of_ble_eq_true rfl) (c_X12_is_0 _ _ _ h)
def f_X12_works_40   (s0 : Nat) (s1 : Int32) (s2 : Int32) (σ : ah_H) : Option (Int32 × ah_H) :=
  (f_X12_is s2 σ).bind fun r1 => (op_sL r1.2 s0 s1 r1.1).bind fun σ2 => (op_rz (1 : Int32)).map fun q => (q, σ2)
def f_X12_works_407   (x0 : Nat) (x6 : Int64) (σ : ah_H) : Option (Int32 × ah_H) :=
  (op_gR 12 36 σ x0).bind fun v1 => (op_gI 12 37 σ x0).bind fun v2 => (op_sL σ v1 (v2 - (1 : Int32)) x6).bind fun σ3 => if 0 < (lg_cmp x6 (1000000000000 : Int64)) then ((op_rz (0 : Int32)).map fun q => (q, σ3)) else (if (lg_cmp x6 (-1000000000000 : Int64)) < 0 then ((op_rz (0 : Int32)).map fun q => (q, σ3)) else ((op_rz (1 : Int32)).map fun q => (q, σ3)))
def f_X12_works_212   (x0 : Nat) (x2 : Int64) (x4 : Int64) (σ : ah_H) : Option (Int32 × ah_H) :=
  f_X12_works_407 x0 (x4 * x2) σ
def f_X12_works_250   (x0 : Nat) (s0 : Int32) (σ : ah_H) : Option (Int32 × ah_H) :=
  (f_X12_is s0 σ).bind fun r1 => f_X12_works_407 x0 r1.1 r1.2
def f_X12_works_270   (x0 : Nat) (s0 : Int32) (σ : ah_H) : Option (Int32 × ah_H) :=
  (f_X12_is s0 σ).bind fun r1 => f_X12_works_407 x0 r1.1 r1.2
def f_X12_works_290   (x0 : Nat) (s0 : Int32) (σ : ah_H) : Option (Int32 × ah_H) :=
  (f_X12_is s0 σ).bind fun r1 => f_X12_works_407 x0 r1.1 r1.2
def f_X12_works_310   (x0 : Nat) (s0 : Int32) (σ : ah_H) : Option (Int32 × ah_H) :=
  (f_X12_is s0 σ).bind fun r1 => f_X12_works_407 x0 r1.1 r1.2
def f_X12_works_330   (x0 : Nat) (s0 : Int32) (σ : ah_H) : Option (Int32 × ah_H) :=
  (f_X12_is s0 σ).bind fun r1 => f_X12_works_407 x0 r1.1 r1.2
def f_X12_works_350   (x0 : Nat) (s0 : Int32) (σ : ah_H) : Option (Int32 × ah_H) :=
  (f_X12_is s0 σ).bind fun r1 => f_X12_works_407 x0 r1.1 r1.2
def f_X12_works_376   (x0 : Nat) (s0 : Int32) (σ : ah_H) : Option (Int32 × ah_H) :=
  (f_X12_is s0 σ).bind fun r1 => f_X12_works_407 x0 r1.1 r1.2
def f_X12_works_375   (x0 : Nat) (σ : ah_H) : Option (Int32 × ah_H) :=
  f_X12_works_376 x0 (0 : Int32) σ
def f_X12_works_402   (x0 : Nat) (s0 : Int32) (σ : ah_H) : Option (Int32 × ah_H) :=
  (f_X12_is s0 σ).bind fun r1 => f_X12_works_407 x0 r1.1 r1.2
def f_X12_works_397   (x0 : Nat) (σ : ah_H) : Option (Int32 × ah_H) :=
  f_X12_works_402 x0 (1 : Int32) σ
def f_X12_works_0   (x0 : Nat) (x1 : Int32) (σ : ah_H) : Option (Int32 × ah_H) :=
  (op_gR 12 36 σ x0).bind fun v1 => (op_gI 12 37 σ x0).bind fun v2 => (op_aL σ v1 (v2 - (1 : Int32))).bind fun v3 => if x1 = (260 : Int32) then ((op_gR 12 36 σ x0).bind fun v11 => (op_gI 12 37 σ x0).bind fun v12 => if (lg_cmp v3 (0 : Int64)) = 0 then (f_X12_works_40 v11 (v12 - (1 : Int32)) (1 : Int32) σ) else (f_X12_works_40 v11 (v12 - (1 : Int32)) (0 : Int32) σ)) else ((op_gR 12 36 σ x0).bind fun v4 => (op_gI 12 37 σ x0).bind fun v5 => (op_aL σ v4 (v5 - (2 : Int32))).bind fun v6 => (op_gI 12 37 σ x0).bind fun v7 => (op_pI 12 37 σ x0 (v7 - (1 : Int32))).bind fun σ8 => if x1 = (42 : Int32) then (if (lg_cmp v6 (0 : Int64)) = 0 then (f_X12_works_212 x0 v3 v6 σ8) else ((op_ldiv (1000000000000 : Int64) (op_absl v6)).bind fun v9 => if (lg_cmp (op_absl v3) v9) ≤ 0 then (f_X12_works_212 x0 v3 v6 σ8) else ((op_rz (0 : Int32)).map fun q => (q, σ8)))) else (if x1 = (43 : Int32) then (f_X12_works_407 x0 (v6 + v3) σ8) else (if x1 = (45 : Int32) then (f_X12_works_407 x0 (v6 - v3) σ8) else (if x1 = (47 : Int32) then (if (lg_cmp v3 (0 : Int64)) = 0 then ((op_rz (0 : Int32)).map fun q => (q, σ8)) else ((op_ldiv v6 v3).bind fun v10 => f_X12_works_407 x0 v10 σ8)) else (if x1 = (60 : Int32) then (if 0 ≤ (lg_cmp v6 v3) then (f_X12_works_250 x0 (0 : Int32) σ8) else (f_X12_works_250 x0 (1 : Int32) σ8)) else (if x1 = (61 : Int32) then (if (lg_cmp v6 v3) = 0 then (f_X12_works_290 x0 (1 : Int32) σ8) else (f_X12_works_290 x0 (0 : Int32) σ8)) else (if x1 = (62 : Int32) then (if (lg_cmp v6 v3) ≤ 0 then (f_X12_works_270 x0 (0 : Int32) σ8) else (f_X12_works_270 x0 (1 : Int32) σ8)) else (if x1 = (256 : Int32) then (if 0 < (lg_cmp v6 v3) then (f_X12_works_310 x0 (0 : Int32) σ8) else (f_X12_works_310 x0 (1 : Int32) σ8)) else (if x1 = (257 : Int32) then (if (lg_cmp v6 v3) = 0 then (f_X12_works_350 x0 (0 : Int32) σ8) else (f_X12_works_350 x0 (1 : Int32) σ8)) else (if x1 = (258 : Int32) then (if (lg_cmp v6 v3) < 0 then (f_X12_works_330 x0 (0 : Int32) σ8) else (f_X12_works_330 x0 (1 : Int32) σ8)) else (if x1 = (261 : Int32) then (if (lg_cmp v6 (0 : Int64)) = 0 then (f_X12_works_375 x0 σ8) else (if (lg_cmp v3 (0 : Int64)) = 0 then (f_X12_works_375 x0 σ8) else (f_X12_works_376 x0 (1 : Int32) σ8))) else (if (lg_cmp v6 (0 : Int64)) = 0 then (if (lg_cmp v3 (0 : Int64)) = 0 then (f_X12_works_402 x0 (0 : Int32) σ8) else (f_X12_works_397 x0 σ8)) else (f_X12_works_397 x0 σ8)))))))))))))
def f_X12_works  (x0 : Nat) (x1 : Int32) (σ : ah_H) : Option (Int32 × ah_H) := op_ck 12 σ x0 (f_X12_works_0 x0 x1 σ)
set_option maxRecDepth 100000 in
set_option maxHeartbeats 4000000 in
theorem c_X12_works_40 {G : ah_G}   : ∀ (s0 : Nat) (s1 : Int32) (s2 : Int32) (σ : ah_H) (r : Int32 × ah_H), f_X12_works_40   s0 s1 s2 σ = some r → AW G m_X12_works 1 0 0 40 [] [.int s2, .int s1, .ref s0] σ (ah_ri r) := by
  intro s0 s1 s2 σ r h
  unfold f_X12_works_40 at h
  obtain ⟨r1, e, h⟩ := op_bd h
  refine ow_cSl (pc := 40) [.int s2] ((c_X12_is _ _ _ e).mono (by decide)) rfl dX12_works_40 cw_X12_336 rfl (Nat.le_of_ble_eq_true rfl) ?_
  obtain ⟨σ2, e, h⟩ := op_bd h
  refine ow_sL (pc := 43) e dX12_works_43 ?_
  refine aw_iconst (pc := 44) (v := (1 : Int32)) dX12_works_44 (by decide) ?_
  exact ow_zret (pc := 45) h dX12_works_45 rfl
set_option maxRecDepth 100000 in
set_option maxHeartbeats 4000000 in
theorem c_X12_works_407 {G : ah_G}   : ∀ (x0 : Nat) (x6 : Int64) (σ : ah_H) (r : Int32 × ah_H), f_X12_works_407   x0 x6 σ = some r → AW G m_X12_works 1 0 0 407 [(0, .ref x0), (6, .long x6)] [] σ (ah_ri r) := by
  intro x0 x6 σ r h
  unfold f_X12_works_407 at h
  refine aw_aload_n (pc := 407) 0 dX12_works_407 rfl ?_
  obtain ⟨v1, e, h⟩ := op_bd h
  refine ow_gR (pc := 408) e dX12_works_408 fd_X12_80 rfl ?_
  refine aw_aload_n (pc := 411) 0 dX12_works_411 rfl ?_
  obtain ⟨v2, e, h⟩ := op_bd h
  refine ow_gI (pc := 412) e dX12_works_412 fd_X12_333 rfl ?_
  refine aw_iconst (pc := 415) (v := (1 : Int32)) dX12_works_415 (by decide) ?_
  refine aw_isub (pc := 416) dX12_works_416 ?_
  refine aw_lload (pc := 417) 1 dX12_works_417 rfl ?_
  obtain ⟨σ3, e, h⟩ := op_bd h
  refine ow_sL (pc := 419) e dX12_works_419 ?_
  refine aw_lload (pc := 420) 1 dX12_works_420 rfl ?_
  refine aw_ldc2 (pc := 422) dX12_works_422 kl_X12_346 ?_
  refine aw_lcmp (pc := 425) dX12_works_425 ?_
  refine aw_if_gt (pc := 426) 442 dX12_works_426 (by decide) (fun z => ?_) (fun z => ?_)
  · replace h := (if_pos z).symm.trans h
    refine aw_iconst (pc := 442) (v := (0 : Int32)) dX12_works_442 (by decide) ?_
    exact ow_zret (pc := 443) h dX12_works_443 rfl
  · replace h := (if_neg z).symm.trans h
    refine aw_lload (pc := 429) 1 dX12_works_429 rfl ?_
    refine aw_ldc2 (pc := 431) dX12_works_431 kl_X12_348 ?_
    refine aw_lcmp (pc := 434) dX12_works_434 ?_
    refine aw_if_lt (pc := 435) 442 dX12_works_435 (by decide) (fun z => ?_) (fun z => ?_)
    · replace h := (if_pos z).symm.trans h
      refine aw_iconst (pc := 442) (v := (0 : Int32)) dX12_works_442 (by decide) ?_
      exact ow_zret (pc := 443) h dX12_works_443 rfl
    · replace h := (if_neg z).symm.trans h
      refine aw_iconst (pc := 438) (v := (1 : Int32)) dX12_works_438 (by decide) ?_
      refine aw_goto (pc := 439) 443 dX12_works_439 (by decide) ?_
      exact ow_zret (pc := 443) h dX12_works_443 rfl
set_option maxRecDepth 100000 in
set_option maxHeartbeats 4000000 in
theorem c_X12_works_212 {G : ah_G}   : ∀ (x0 : Nat) (x2 : Int64) (x4 : Int64) (σ : ah_H) (r : Int32 × ah_H), f_X12_works_212   x0 x2 x4 σ = some r → AW G m_X12_works 1 0 0 212 [(0, .ref x0), (2, .long x2), (4, .long x4)] [] σ (ah_ri r) := by
  intro x0 x2 x4 σ r h
  unfold f_X12_works_212 at h
  refine aw_lload (pc := 212) 2 dX12_works_212 rfl ?_
  refine aw_lload_n (pc := 214) 1 dX12_works_214 rfl ?_
  refine aw_lmul (pc := 215) dX12_works_215 ?_
  refine aw_lstore (pc := 216) [(6, .long (x4 * x2)), (0, .ref x0), (2, .long x2), (4, .long x4)] dX12_works_216 (by decide) rfl ?_
  refine aw_goto (pc := 218) 407 dX12_works_218 (by decide) ?_
  refine aw_sub [1, 0] rfl ?_
  exact c_X12_works_407  _ _ _ _ h
set_option maxRecDepth 100000 in
set_option maxHeartbeats 4000000 in
theorem c_X12_works_250 {G : ah_G}   : ∀ (x0 : Nat) (s0 : Int32) (σ : ah_H) (r : Int32 × ah_H), f_X12_works_250   x0 s0 σ = some r → AW G m_X12_works 1 0 0 250 [(0, .ref x0)] [.int s0] σ (ah_ri r) := by
  intro x0 s0 σ r h
  unfold f_X12_works_250 at h
  obtain ⟨r1, e, h⟩ := op_bd h
  refine ow_cSl (pc := 250) [.int s0] ((c_X12_is _ _ _ e).mono (by decide)) rfl dX12_works_250 cw_X12_336 rfl (Nat.le_of_ble_eq_true rfl) ?_
  refine aw_lstore (pc := 253) [(6, .long r1.1), (0, .ref x0)] dX12_works_253 (by decide) rfl ?_
  refine aw_goto (pc := 255) 407 dX12_works_255 (by decide) ?_
  refine aw_sub [1, 0] rfl ?_
  exact c_X12_works_407  _ _ _ _ h
set_option maxRecDepth 100000 in
set_option maxHeartbeats 4000000 in
theorem c_X12_works_270 {G : ah_G}   : ∀ (x0 : Nat) (s0 : Int32) (σ : ah_H) (r : Int32 × ah_H), f_X12_works_270   x0 s0 σ = some r → AW G m_X12_works 1 0 0 270 [(0, .ref x0)] [.int s0] σ (ah_ri r) := by
  intro x0 s0 σ r h
  unfold f_X12_works_270 at h
  obtain ⟨r1, e, h⟩ := op_bd h
  refine ow_cSl (pc := 270) [.int s0] ((c_X12_is _ _ _ e).mono (by decide)) rfl dX12_works_270 cw_X12_336 rfl (Nat.le_of_ble_eq_true rfl) ?_
  refine aw_lstore (pc := 273) [(6, .long r1.1), (0, .ref x0)] dX12_works_273 (by decide) rfl ?_
  refine aw_goto (pc := 275) 407 dX12_works_275 (by decide) ?_
  refine aw_sub [1, 0] rfl ?_
  exact c_X12_works_407  _ _ _ _ h
set_option maxRecDepth 100000 in
set_option maxHeartbeats 4000000 in
theorem c_X12_works_290 {G : ah_G}   : ∀ (x0 : Nat) (s0 : Int32) (σ : ah_H) (r : Int32 × ah_H), f_X12_works_290   x0 s0 σ = some r → AW G m_X12_works 1 0 0 290 [(0, .ref x0)] [.int s0] σ (ah_ri r) := by
  intro x0 s0 σ r h
  unfold f_X12_works_290 at h
  obtain ⟨r1, e, h⟩ := op_bd h
  refine ow_cSl (pc := 290) [.int s0] ((c_X12_is _ _ _ e).mono (by decide)) rfl dX12_works_290 cw_X12_336 rfl (Nat.le_of_ble_eq_true rfl) ?_
  refine aw_lstore (pc := 293) [(6, .long r1.1), (0, .ref x0)] dX12_works_293 (by decide) rfl ?_
  refine aw_goto (pc := 295) 407 dX12_works_295 (by decide) ?_
  refine aw_sub [1, 0] rfl ?_
  exact c_X12_works_407  _ _ _ _ h
set_option maxRecDepth 100000 in
set_option maxHeartbeats 4000000 in
theorem c_X12_works_310 {G : ah_G}   : ∀ (x0 : Nat) (s0 : Int32) (σ : ah_H) (r : Int32 × ah_H), f_X12_works_310   x0 s0 σ = some r → AW G m_X12_works 1 0 0 310 [(0, .ref x0)] [.int s0] σ (ah_ri r) := by
  intro x0 s0 σ r h
  unfold f_X12_works_310 at h
  obtain ⟨r1, e, h⟩ := op_bd h
  refine ow_cSl (pc := 310) [.int s0] ((c_X12_is _ _ _ e).mono (by decide)) rfl dX12_works_310 cw_X12_336 rfl (Nat.le_of_ble_eq_true rfl) ?_
  refine aw_lstore (pc := 313) [(6, .long r1.1), (0, .ref x0)] dX12_works_313 (by decide) rfl ?_
  refine aw_goto (pc := 315) 407 dX12_works_315 (by decide) ?_
  refine aw_sub [1, 0] rfl ?_
  exact c_X12_works_407  _ _ _ _ h
set_option maxRecDepth 100000 in
set_option maxHeartbeats 4000000 in
theorem c_X12_works_330 {G : ah_G}   : ∀ (x0 : Nat) (s0 : Int32) (σ : ah_H) (r : Int32 × ah_H), f_X12_works_330   x0 s0 σ = some r → AW G m_X12_works 1 0 0 330 [(0, .ref x0)] [.int s0] σ (ah_ri r) := by
  intro x0 s0 σ r h
  unfold f_X12_works_330 at h
  obtain ⟨r1, e, h⟩ := op_bd h
  refine ow_cSl (pc := 330) [.int s0] ((c_X12_is _ _ _ e).mono (by decide)) rfl dX12_works_330 cw_X12_336 rfl (Nat.le_of_ble_eq_true rfl) ?_
  refine aw_lstore (pc := 333) [(6, .long r1.1), (0, .ref x0)] dX12_works_333 (by decide) rfl ?_
  refine aw_goto (pc := 335) 407 dX12_works_335 (by decide) ?_
  refine aw_sub [1, 0] rfl ?_
  exact c_X12_works_407  _ _ _ _ h
set_option maxRecDepth 100000 in
set_option maxHeartbeats 4000000 in
theorem c_X12_works_350 {G : ah_G}   : ∀ (x0 : Nat) (s0 : Int32) (σ : ah_H) (r : Int32 × ah_H), f_X12_works_350   x0 s0 σ = some r → AW G m_X12_works 1 0 0 350 [(0, .ref x0)] [.int s0] σ (ah_ri r) := by
  intro x0 s0 σ r h
  unfold f_X12_works_350 at h
  obtain ⟨r1, e, h⟩ := op_bd h
  refine ow_cSl (pc := 350) [.int s0] ((c_X12_is _ _ _ e).mono (by decide)) rfl dX12_works_350 cw_X12_336 rfl (Nat.le_of_ble_eq_true rfl) ?_
  refine aw_lstore (pc := 353) [(6, .long r1.1), (0, .ref x0)] dX12_works_353 (by decide) rfl ?_
  refine aw_goto (pc := 355) 407 dX12_works_355 (by decide) ?_
  refine aw_sub [1, 0] rfl ?_
  exact c_X12_works_407  _ _ _ _ h
set_option maxRecDepth 100000 in
set_option maxHeartbeats 4000000 in
theorem c_X12_works_376 {G : ah_G}   : ∀ (x0 : Nat) (s0 : Int32) (σ : ah_H) (r : Int32 × ah_H), f_X12_works_376   x0 s0 σ = some r → AW G m_X12_works 1 0 0 376 [(0, .ref x0)] [.int s0] σ (ah_ri r) := by
  intro x0 s0 σ r h
  unfold f_X12_works_376 at h
  obtain ⟨r1, e, h⟩ := op_bd h
  refine ow_cSl (pc := 376) [.int s0] ((c_X12_is _ _ _ e).mono (by decide)) rfl dX12_works_376 cw_X12_336 rfl (Nat.le_of_ble_eq_true rfl) ?_
  refine aw_lstore (pc := 379) [(6, .long r1.1), (0, .ref x0)] dX12_works_379 (by decide) rfl ?_
  refine aw_goto (pc := 381) 407 dX12_works_381 (by decide) ?_
  refine aw_sub [1, 0] rfl ?_
  exact c_X12_works_407  _ _ _ _ h
set_option maxRecDepth 100000 in
set_option maxHeartbeats 4000000 in
theorem c_X12_works_375 {G : ah_G}   : ∀ (x0 : Nat) (σ : ah_H) (r : Int32 × ah_H), f_X12_works_375   x0 σ = some r → AW G m_X12_works 1 0 0 375 [(0, .ref x0)] [] σ (ah_ri r) := by
  intro x0 σ r h
  unfold f_X12_works_375 at h
  refine aw_iconst (pc := 375) (v := (0 : Int32)) dX12_works_375 (by decide) ?_
  exact c_X12_works_376  _ _ _ _ h
set_option maxRecDepth 100000 in
set_option maxHeartbeats 4000000 in
theorem c_X12_works_402 {G : ah_G}   : ∀ (x0 : Nat) (s0 : Int32) (σ : ah_H) (r : Int32 × ah_H), f_X12_works_402   x0 s0 σ = some r → AW G m_X12_works 1 0 0 402 [(0, .ref x0)] [.int s0] σ (ah_ri r) := by
  intro x0 s0 σ r h
  unfold f_X12_works_402 at h
  obtain ⟨r1, e, h⟩ := op_bd h
  refine ow_cSl (pc := 402) [.int s0] ((c_X12_is _ _ _ e).mono (by decide)) rfl dX12_works_402 cw_X12_336 rfl (Nat.le_of_ble_eq_true rfl) ?_
  refine aw_lstore (pc := 405) [(6, .long r1.1), (0, .ref x0)] dX12_works_405 (by decide) rfl ?_
  refine aw_sub [1, 0] rfl ?_
  exact c_X12_works_407  _ _ _ _ h
set_option maxRecDepth 100000 in
set_option maxHeartbeats 4000000 in
theorem c_X12_works_397 {G : ah_G}   : ∀ (x0 : Nat) (σ : ah_H) (r : Int32 × ah_H), f_X12_works_397   x0 σ = some r → AW G m_X12_works 1 0 0 397 [(0, .ref x0)] [] σ (ah_ri r) := by
  intro x0 σ r h
  unfold f_X12_works_397 at h
  refine aw_iconst (pc := 397) (v := (1 : Int32)) dX12_works_397 (by decide) ?_
  refine aw_goto (pc := 398) 402 dX12_works_398 (by decide) ?_
  exact c_X12_works_402  _ _ _ _ h
set_option maxRecDepth 100000 in
set_option maxHeartbeats 4000000 in
theorem c_X12_works_0 {G : ah_G}   : ∀ (x0 : Nat) (x1 : Int32) (σ : ah_H) (r : Int32 × ah_H), f_X12_works_0   x0 x1 σ = some r → AW G m_X12_works 1 0 0 0 [(0, .ref x0), (1, .int x1)] [] σ (ah_ri r) := by
  intro x0 x1 σ r h
  unfold f_X12_works_0 at h
  refine aw_aload_n (pc := 0) 0 dX12_works_0 rfl ?_
  obtain ⟨v1, e, h⟩ := op_bd h
  refine ow_gR (pc := 1) e dX12_works_1 fd_X12_80 rfl ?_
  refine aw_aload_n (pc := 4) 0 dX12_works_4 rfl ?_
  obtain ⟨v2, e, h⟩ := op_bd h
  refine ow_gI (pc := 5) e dX12_works_5 fd_X12_333 rfl ?_
  refine aw_iconst (pc := 8) (v := (1 : Int32)) dX12_works_8 (by decide) ?_
  refine aw_isub (pc := 9) dX12_works_9 ?_
  obtain ⟨v3, e, h⟩ := op_bd h
  refine ow_aL (pc := 10) e dX12_works_10 ?_
  refine aw_lstore_n (pc := 11) [(2, .long v3), (0, .ref x0), (1, .int x1)] dX12_works_11 rfl (by decide) rfl ?_
  refine aw_iload_n (pc := 12) 2 dX12_works_12 rfl ?_
  refine aw_sipush (pc := 13) (v := (260 : Int32)) dX12_works_13 (by decide) ?_
  refine aw_icmp_ne (pc := 16) 46 dX12_works_16 (by decide) (fun z => ?_) (fun z => ?_)
  · replace h := (if_neg z).symm.trans h
    refine aw_aload_n (pc := 46) 1 dX12_works_46 rfl ?_
    obtain ⟨v4, e, h⟩ := op_bd h
    refine ow_gR (pc := 47) e dX12_works_47 fd_X12_80 rfl ?_
    refine aw_aload_n (pc := 50) 1 dX12_works_50 rfl ?_
    obtain ⟨v5, e, h⟩ := op_bd h
    refine ow_gI (pc := 51) e dX12_works_51 fd_X12_333 rfl ?_
    refine aw_iconst (pc := 54) (v := (2 : Int32)) dX12_works_54 (by decide) ?_
    refine aw_isub (pc := 55) dX12_works_55 ?_
    obtain ⟨v6, e, h⟩ := op_bd h
    refine ow_aL (pc := 56) e dX12_works_56 ?_
    refine aw_lstore (pc := 57) [(4, .long v6), (2, .long v3), (0, .ref x0), (1, .int x1)] dX12_works_57 (by decide) rfl ?_
    refine aw_aload_n (pc := 59) 2 dX12_works_59 rfl ?_
    refine aw_dup (pc := 60) dX12_works_60 rfl ?_
    obtain ⟨v7, e, h⟩ := op_bd h
    refine ow_gI (pc := 61) e dX12_works_61 fd_X12_333 rfl ?_
    refine aw_iconst (pc := 64) (v := (1 : Int32)) dX12_works_64 (by decide) ?_
    refine aw_isub (pc := 65) dX12_works_65 ?_
    obtain ⟨σ8, e, h⟩ := op_bd h
    refine ow_pI (pc := 66) e dX12_works_66 fd_X12_333 ?_
    refine aw_iload_n (pc := 69) 3 dX12_works_69 rfl ?_
    by_cases z0 : x1 = (42 : Int32)
    · replace h := (if_pos z0).symm.trans h
      refine aw_lookup (pc := 70) (off := 116) 186 dX12_works_70 (by decide) (by rw [z0]; decide) (by decide) ?_
      refine aw_lload (pc := 186) 0 dX12_works_186 rfl ?_
      refine aw_lconst (pc := 188) (v := (0 : Int64)) dX12_works_188 (by decide) ?_
      refine aw_lcmp (pc := 189) dX12_works_189 ?_
      refine aw_if_eq (pc := 190) 212 dX12_works_190 (by decide) (fun z => ?_) (fun z => ?_)
      · replace h := (if_pos z).symm.trans h
        refine aw_sub [2, 1, 0] rfl ?_
        exact c_X12_works_212  _ _ _ _ _ h
      · replace h := (if_neg z).symm.trans h
        refine aw_lload_n (pc := 193) 1 dX12_works_193 rfl ?_
        refine ow_absl (pc := 194) dX12_works_194 mt_X12_340 (Nat.le_of_ble_eq_true rfl) ?_
        refine aw_ldc2 (pc := 197) dX12_works_197 kl_X12_346 ?_
        refine aw_lload (pc := 200) 0 dX12_works_200 rfl ?_
        refine ow_absl (pc := 202) dX12_works_202 mt_X12_340 (Nat.le_of_ble_eq_true rfl) ?_
        obtain ⟨v9, e, h⟩ := op_bd h
        refine ow_ldiv (pc := 205) e dX12_works_205 ?_
        refine aw_lcmp (pc := 206) dX12_works_206 ?_
        refine aw_if_le (pc := 207) 212 dX12_works_207 (by decide) (fun z => ?_) (fun z => ?_)
        · replace h := (if_pos z).symm.trans h
          refine aw_sub [2, 1, 0] rfl ?_
          exact c_X12_works_212  _ _ _ _ _ h
        · replace h := (if_neg z).symm.trans h
          refine aw_iconst (pc := 210) (v := (0 : Int32)) dX12_works_210 (by decide) ?_
          exact ow_zret (pc := 211) h dX12_works_211 rfl
    · replace h := (if_neg z0).symm.trans h
      by_cases z1 : x1 = (43 : Int32)
      · replace h := (if_pos z1).symm.trans h
        refine aw_lookup (pc := 70) (off := 98) 168 dX12_works_70 (by decide) (by rw [z1]; decide) (by decide) ?_
        refine aw_lload (pc := 168) 0 dX12_works_168 rfl ?_
        refine aw_lload_n (pc := 170) 1 dX12_works_170 rfl ?_
        refine aw_ladd (pc := 171) dX12_works_171 ?_
        refine aw_lstore (pc := 172) [(6, .long (v6 + v3)), (4, .long v6), (2, .long v3), (0, .ref x0), (1, .int x1)] dX12_works_172 (by decide) rfl ?_
        refine aw_goto (pc := 174) 407 dX12_works_174 (by decide) ?_
        refine aw_sub [3, 0] rfl ?_
        exact c_X12_works_407  _ _ _ _ h
      · replace h := (if_neg z1).symm.trans h
        by_cases z2 : x1 = (45 : Int32)
        · replace h := (if_pos z2).symm.trans h
          refine aw_lookup (pc := 70) (off := 107) 177 dX12_works_70 (by decide) (by rw [z2]; decide) (by decide) ?_
          refine aw_lload (pc := 177) 0 dX12_works_177 rfl ?_
          refine aw_lload_n (pc := 179) 1 dX12_works_179 rfl ?_
          refine aw_lsub (pc := 180) dX12_works_180 ?_
          refine aw_lstore (pc := 181) [(6, .long (v6 - v3)), (4, .long v6), (2, .long v3), (0, .ref x0), (1, .int x1)] dX12_works_181 (by decide) rfl ?_
          refine aw_goto (pc := 183) 407 dX12_works_183 (by decide) ?_
          refine aw_sub [3, 0] rfl ?_
          exact c_X12_works_407  _ _ _ _ h
        · replace h := (if_neg z2).symm.trans h
          by_cases z3 : x1 = (47 : Int32)
          · replace h := (if_pos z3).symm.trans h
            refine aw_lookup (pc := 70) (off := 151) 221 dX12_works_70 (by decide) (by rw [z3]; decide) (by decide) ?_
            refine aw_lload_n (pc := 221) 1 dX12_works_221 rfl ?_
            refine aw_lconst (pc := 222) (v := (0 : Int64)) dX12_works_222 (by decide) ?_
            refine aw_lcmp (pc := 223) dX12_works_223 ?_
            refine aw_if_ne (pc := 224) 229 dX12_works_224 (by decide) (fun z => ?_) (fun z => ?_)
            · replace h := (if_neg z).symm.trans h
              refine aw_lload (pc := 229) 0 dX12_works_229 rfl ?_
              refine aw_lload_n (pc := 231) 1 dX12_works_231 rfl ?_
              obtain ⟨v10, e, h⟩ := op_bd h
              refine ow_ldiv (pc := 232) e dX12_works_232 ?_
              refine aw_lstore (pc := 233) [(6, .long v10), (4, .long v6), (2, .long v3), (0, .ref x0), (1, .int x1)] dX12_works_233 (by decide) rfl ?_
              refine aw_goto (pc := 235) 407 dX12_works_235 (by decide) ?_
              refine aw_sub [3, 0] rfl ?_
              exact c_X12_works_407  _ _ _ _ h
            · replace h := (if_pos z).symm.trans h
              refine aw_iconst (pc := 227) (v := (0 : Int32)) dX12_works_227 (by decide) ?_
              exact ow_zret (pc := 228) h dX12_works_228 rfl
          · replace h := (if_neg z3).symm.trans h
            by_cases z4 : x1 = (60 : Int32)
            · replace h := (if_pos z4).symm.trans h
              refine aw_lookup (pc := 70) (off := 168) 238 dX12_works_70 (by decide) (by rw [z4]; decide) (by decide) ?_
              refine aw_lload (pc := 238) 0 dX12_works_238 rfl ?_
              refine aw_lload_n (pc := 240) 1 dX12_works_240 rfl ?_
              refine aw_lcmp (pc := 241) dX12_works_241 ?_
              refine aw_if_ge (pc := 242) 249 dX12_works_242 (by decide) (fun z => ?_) (fun z => ?_)
              · replace h := (if_pos z).symm.trans h
                refine aw_iconst (pc := 249) (v := (0 : Int32)) dX12_works_249 (by decide) ?_
                refine aw_sub [2] rfl ?_
                exact c_X12_works_250  _ _ _ _ h
              · replace h := (if_neg z).symm.trans h
                refine aw_iconst (pc := 245) (v := (1 : Int32)) dX12_works_245 (by decide) ?_
                refine aw_goto (pc := 246) 250 dX12_works_246 (by decide) ?_
                refine aw_sub [2] rfl ?_
                exact c_X12_works_250  _ _ _ _ h
            · replace h := (if_neg z4).symm.trans h
              by_cases z5 : x1 = (61 : Int32)
              · replace h := (if_pos z5).symm.trans h
                refine aw_lookup (pc := 70) (off := 208) 278 dX12_works_70 (by decide) (by rw [z5]; decide) (by decide) ?_
                refine aw_lload (pc := 278) 0 dX12_works_278 rfl ?_
                refine aw_lload_n (pc := 280) 1 dX12_works_280 rfl ?_
                refine aw_lcmp (pc := 281) dX12_works_281 ?_
                refine aw_if_ne (pc := 282) 289 dX12_works_282 (by decide) (fun z => ?_) (fun z => ?_)
                · replace h := (if_neg z).symm.trans h
                  refine aw_iconst (pc := 289) (v := (0 : Int32)) dX12_works_289 (by decide) ?_
                  refine aw_sub [2] rfl ?_
                  exact c_X12_works_290  _ _ _ _ h
                · replace h := (if_pos z).symm.trans h
                  refine aw_iconst (pc := 285) (v := (1 : Int32)) dX12_works_285 (by decide) ?_
                  refine aw_goto (pc := 286) 290 dX12_works_286 (by decide) ?_
                  refine aw_sub [2] rfl ?_
                  exact c_X12_works_290  _ _ _ _ h
              · replace h := (if_neg z5).symm.trans h
                by_cases z6 : x1 = (62 : Int32)
                · replace h := (if_pos z6).symm.trans h
                  refine aw_lookup (pc := 70) (off := 188) 258 dX12_works_70 (by decide) (by rw [z6]; decide) (by decide) ?_
                  refine aw_lload (pc := 258) 0 dX12_works_258 rfl ?_
                  refine aw_lload_n (pc := 260) 1 dX12_works_260 rfl ?_
                  refine aw_lcmp (pc := 261) dX12_works_261 ?_
                  refine aw_if_le (pc := 262) 269 dX12_works_262 (by decide) (fun z => ?_) (fun z => ?_)
                  · replace h := (if_pos z).symm.trans h
                    refine aw_iconst (pc := 269) (v := (0 : Int32)) dX12_works_269 (by decide) ?_
                    refine aw_sub [2] rfl ?_
                    exact c_X12_works_270  _ _ _ _ h
                  · replace h := (if_neg z).symm.trans h
                    refine aw_iconst (pc := 265) (v := (1 : Int32)) dX12_works_265 (by decide) ?_
                    refine aw_goto (pc := 266) 270 dX12_works_266 (by decide) ?_
                    refine aw_sub [2] rfl ?_
                    exact c_X12_works_270  _ _ _ _ h
                · replace h := (if_neg z6).symm.trans h
                  by_cases z7 : x1 = (256 : Int32)
                  · replace h := (if_pos z7).symm.trans h
                    refine aw_lookup (pc := 70) (off := 228) 298 dX12_works_70 (by decide) (by rw [z7]; decide) (by decide) ?_
                    refine aw_lload (pc := 298) 0 dX12_works_298 rfl ?_
                    refine aw_lload_n (pc := 300) 1 dX12_works_300 rfl ?_
                    refine aw_lcmp (pc := 301) dX12_works_301 ?_
                    refine aw_if_gt (pc := 302) 309 dX12_works_302 (by decide) (fun z => ?_) (fun z => ?_)
                    · replace h := (if_pos z).symm.trans h
                      refine aw_iconst (pc := 309) (v := (0 : Int32)) dX12_works_309 (by decide) ?_
                      refine aw_sub [2] rfl ?_
                      exact c_X12_works_310  _ _ _ _ h
                    · replace h := (if_neg z).symm.trans h
                      refine aw_iconst (pc := 305) (v := (1 : Int32)) dX12_works_305 (by decide) ?_
                      refine aw_goto (pc := 306) 310 dX12_works_306 (by decide) ?_
                      refine aw_sub [2] rfl ?_
                      exact c_X12_works_310  _ _ _ _ h
                  · replace h := (if_neg z7).symm.trans h
                    by_cases z8 : x1 = (257 : Int32)
                    · replace h := (if_pos z8).symm.trans h
                      refine aw_lookup (pc := 70) (off := 268) 338 dX12_works_70 (by decide) (by rw [z8]; decide) (by decide) ?_
                      refine aw_lload (pc := 338) 0 dX12_works_338 rfl ?_
                      refine aw_lload_n (pc := 340) 1 dX12_works_340 rfl ?_
                      refine aw_lcmp (pc := 341) dX12_works_341 ?_
                      refine aw_if_eq (pc := 342) 349 dX12_works_342 (by decide) (fun z => ?_) (fun z => ?_)
                      · replace h := (if_pos z).symm.trans h
                        refine aw_iconst (pc := 349) (v := (0 : Int32)) dX12_works_349 (by decide) ?_
                        refine aw_sub [2] rfl ?_
                        exact c_X12_works_350  _ _ _ _ h
                      · replace h := (if_neg z).symm.trans h
                        refine aw_iconst (pc := 345) (v := (1 : Int32)) dX12_works_345 (by decide) ?_
                        refine aw_goto (pc := 346) 350 dX12_works_346 (by decide) ?_
                        refine aw_sub [2] rfl ?_
                        exact c_X12_works_350  _ _ _ _ h
                    · replace h := (if_neg z8).symm.trans h
                      by_cases z9 : x1 = (258 : Int32)
                      · replace h := (if_pos z9).symm.trans h
                        refine aw_lookup (pc := 70) (off := 248) 318 dX12_works_70 (by decide) (by rw [z9]; decide) (by decide) ?_
                        refine aw_lload (pc := 318) 0 dX12_works_318 rfl ?_
                        refine aw_lload_n (pc := 320) 1 dX12_works_320 rfl ?_
                        refine aw_lcmp (pc := 321) dX12_works_321 ?_
                        refine aw_if_lt (pc := 322) 329 dX12_works_322 (by decide) (fun z => ?_) (fun z => ?_)
                        · replace h := (if_pos z).symm.trans h
                          refine aw_iconst (pc := 329) (v := (0 : Int32)) dX12_works_329 (by decide) ?_
                          refine aw_sub [2] rfl ?_
                          exact c_X12_works_330  _ _ _ _ h
                        · replace h := (if_neg z).symm.trans h
                          refine aw_iconst (pc := 325) (v := (1 : Int32)) dX12_works_325 (by decide) ?_
                          refine aw_goto (pc := 326) 330 dX12_works_326 (by decide) ?_
                          refine aw_sub [2] rfl ?_
                          exact c_X12_works_330  _ _ _ _ h
                      · replace h := (if_neg z9).symm.trans h
                        by_cases z10 : x1 = (261 : Int32)
                        · replace h := (if_pos z10).symm.trans h
                          refine aw_lookup (pc := 70) (off := 288) 358 dX12_works_70 (by decide) (by rw [z10]; decide) (by decide) ?_
                          refine aw_lload (pc := 358) 0 dX12_works_358 rfl ?_
                          refine aw_lconst (pc := 360) (v := (0 : Int64)) dX12_works_360 (by decide) ?_
                          refine aw_lcmp (pc := 361) dX12_works_361 ?_
                          refine aw_if_eq (pc := 362) 375 dX12_works_362 (by decide) (fun z => ?_) (fun z => ?_)
                          · replace h := (if_pos z).symm.trans h
                            refine aw_sub [2] rfl ?_
                            exact c_X12_works_375  _ _ _ h
                          · replace h := (if_neg z).symm.trans h
                            refine aw_lload_n (pc := 365) 1 dX12_works_365 rfl ?_
                            refine aw_lconst (pc := 366) (v := (0 : Int64)) dX12_works_366 (by decide) ?_
                            refine aw_lcmp (pc := 367) dX12_works_367 ?_
                            refine aw_if_eq (pc := 368) 375 dX12_works_368 (by decide) (fun z => ?_) (fun z => ?_)
                            · replace h := (if_pos z).symm.trans h
                              refine aw_sub [2] rfl ?_
                              exact c_X12_works_375  _ _ _ h
                            · replace h := (if_neg z).symm.trans h
                              refine aw_iconst (pc := 371) (v := (1 : Int32)) dX12_works_371 (by decide) ?_
                              refine aw_goto (pc := 372) 376 dX12_works_372 (by decide) ?_
                              refine aw_sub [2] rfl ?_
                              exact c_X12_works_376  _ _ _ _ h
                        · replace h := (if_neg z10).symm.trans h
                          have wz0 : ¬ (x1).toInt = 42 := fun q => z0 (Int32.toInt_inj.mp q)
                          have wz1 : ¬ (x1).toInt = 43 := fun q => z1 (Int32.toInt_inj.mp q)
                          have wz2 : ¬ (x1).toInt = 45 := fun q => z2 (Int32.toInt_inj.mp q)
                          have wz3 : ¬ (x1).toInt = 47 := fun q => z3 (Int32.toInt_inj.mp q)
                          have wz4 : ¬ (x1).toInt = 60 := fun q => z4 (Int32.toInt_inj.mp q)
                          have wz5 : ¬ (x1).toInt = 61 := fun q => z5 (Int32.toInt_inj.mp q)
                          have wz6 : ¬ (x1).toInt = 62 := fun q => z6 (Int32.toInt_inj.mp q)
                          have wz7 : ¬ (x1).toInt = 256 := fun q => z7 (Int32.toInt_inj.mp q)
                          have wz8 : ¬ (x1).toInt = 257 := fun q => z8 (Int32.toInt_inj.mp q)
                          have wz9 : ¬ (x1).toInt = 258 := fun q => z9 (Int32.toInt_inj.mp q)
                          have wz10 : ¬ (x1).toInt = 261 := fun q => z10 (Int32.toInt_inj.mp q)
                          refine aw_lookup (pc := 70) 384 dX12_works_70 (by decide) (op_lk _ _ _ (by simp [wz0, wz1, wz2, wz3, wz4, wz5, wz6, wz7, wz8, wz9, wz10])) (by decide) ?_
                          refine aw_lload (pc := 384) 0 dX12_works_384 rfl ?_
                          refine aw_lconst (pc := 386) (v := (0 : Int64)) dX12_works_386 (by decide) ?_
                          refine aw_lcmp (pc := 387) dX12_works_387 ?_
                          refine aw_if_ne (pc := 388) 397 dX12_works_388 (by decide) (fun z => ?_) (fun z => ?_)
                          · replace h := (if_neg z).symm.trans h
                            refine aw_sub [2] rfl ?_
                            exact c_X12_works_397  _ _ _ h
                          · replace h := (if_pos z).symm.trans h
                            refine aw_lload_n (pc := 391) 1 dX12_works_391 rfl ?_
                            refine aw_lconst (pc := 392) (v := (0 : Int64)) dX12_works_392 (by decide) ?_
                            refine aw_lcmp (pc := 393) dX12_works_393 ?_
                            refine aw_if_eq (pc := 394) 401 dX12_works_394 (by decide) (fun z => ?_) (fun z => ?_)
                            · replace h := (if_pos z).symm.trans h
                              refine aw_iconst (pc := 401) (v := (0 : Int32)) dX12_works_401 (by decide) ?_
                              refine aw_sub [2] rfl ?_
                              exact c_X12_works_402  _ _ _ _ h
                            · replace h := (if_neg z).symm.trans h
                              refine aw_sub [2] rfl ?_
                              exact c_X12_works_397  _ _ _ h
  · replace h := (if_pos z).symm.trans h
    refine aw_aload_n (pc := 19) 1 dX12_works_19 rfl ?_
    obtain ⟨v11, e, h⟩ := op_bd h
    refine ow_gR (pc := 20) e dX12_works_20 fd_X12_80 rfl ?_
    refine aw_aload_n (pc := 23) 1 dX12_works_23 rfl ?_
    obtain ⟨v12, e, h⟩ := op_bd h
    refine ow_gI (pc := 24) e dX12_works_24 fd_X12_333 rfl ?_
    refine aw_iconst (pc := 27) (v := (1 : Int32)) dX12_works_27 (by decide) ?_
    refine aw_isub (pc := 28) dX12_works_28 ?_
    refine aw_lload_n (pc := 29) 0 dX12_works_29 rfl ?_
    refine aw_lconst (pc := 30) (v := (0 : Int64)) dX12_works_30 (by decide) ?_
    refine aw_lcmp (pc := 31) dX12_works_31 ?_
    refine aw_if_ne (pc := 32) 39 dX12_works_32 (by decide) (fun z => ?_) (fun z => ?_)
    · replace h := (if_neg z).symm.trans h
      refine aw_iconst (pc := 39) (v := (0 : Int32)) dX12_works_39 (by decide) ?_
      refine aw_sub [] rfl ?_
      exact c_X12_works_40  _ _ _ _ _ h
    · replace h := (if_pos z).symm.trans h
      refine aw_iconst (pc := 35) (v := (1 : Int32)) dX12_works_35 (by decide) ?_
      refine aw_goto (pc := 36) 40 dX12_works_36 (by decide) ?_
      refine aw_sub [] rfl ?_
      exact c_X12_works_40  _ _ _ _ _ h
theorem c_X12_works {G : ah_G}   (x0 : Nat) (x1 : Int32) (σ : ah_H) (r : Int32 × ah_H) (h : f_X12_works  x0 x1 σ = some r) : AM G m_X12_works 1 0 0 [.ref x0, .int x1] σ (ah_ri r) := aw_enter (by decide) (Nat.le_of_ble_eq_true rfl) (c_X12_works_0 _ _ _ _ (op_ck_k h))
