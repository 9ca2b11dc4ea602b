def f_J6_bitCount_0f7a4_0   (x0 : Int32) (σ : ah_H) : Option (Int32 × ah_H) :=
  some (((((((((x0 - (((x0.toUInt32 >>> ((1 : Int32).toUInt32 &&& Int32.toUInt32 31)).toInt32) &&& (1431655765 : Int32))) &&& (858993459 : Int32)) + ((((x0 - (((x0.toUInt32 >>> ((1 : Int32).toUInt32 &&& Int32.toUInt32 31)).toInt32) &&& (1431655765 : Int32))).toUInt32 >>> ((2 : Int32).toUInt32 &&& Int32.toUInt32 31)).toInt32) &&& (858993459 : Int32))) + (((((x0 - (((x0.toUInt32 >>> ((1 : Int32).toUInt32 &&& Int32.toUInt32 31)).toInt32) &&& (1431655765 : Int32))) &&& (858993459 : Int32)) + ((((x0 - (((x0.toUInt32 >>> ((1 : Int32).toUInt32 &&& Int32.toUInt32 31)).toInt32) &&& (1431655765 : Int32))).toUInt32 >>> ((2 : Int32).toUInt32 &&& Int32.toUInt32 31)).toInt32) &&& (858993459 : Int32))).toUInt32 >>> ((4 : Int32).toUInt32 &&& Int32.toUInt32 31)).toInt32)) &&& (252645135 : Int32)) + (((((((x0 - (((x0.toUInt32 >>> ((1 : Int32).toUInt32 &&& Int32.toUInt32 31)).toInt32) &&& (1431655765 : Int32))) &&& (858993459 : Int32)) + ((((x0 - (((x0.toUInt32 >>> ((1 : Int32).toUInt32 &&& Int32.toUInt32 31)).toInt32) &&& (1431655765 : Int32))).toUInt32 >>> ((2 : Int32).toUInt32 &&& Int32.toUInt32 31)).toInt32) &&& (858993459 : Int32))) + (((((x0 - (((x0.toUInt32 >>> ((1 : Int32).toUInt32 &&& Int32.toUInt32 31)).toInt32) &&& (1431655765 : Int32))) &&& (858993459 : Int32)) + ((((x0 - (((x0.toUInt32 >>> ((1 : Int32).toUInt32 &&& Int32.toUInt32 31)).toInt32) &&& (1431655765 : Int32))).toUInt32 >>> ((2 : Int32).toUInt32 &&& Int32.toUInt32 31)).toInt32) &&& (858993459 : Int32))).toUInt32 >>> ((4 : Int32).toUInt32 &&& Int32.toUInt32 31)).toInt32)) &&& (252645135 : Int32)).toUInt32 >>> ((8 : Int32).toUInt32 &&& Int32.toUInt32 31)).toInt32)) + ((((((((x0 - (((x0.toUInt32 >>> ((1 : Int32).toUInt32 &&& Int32.toUInt32 31)).toInt32) &&& (1431655765 : Int32))) &&& (858993459 : Int32)) + ((((x0 - (((x0.toUInt32 >>> ((1 : Int32).toUInt32 &&& Int32.toUInt32 31)).toInt32) &&& (1431655765 : Int32))).toUInt32 >>> ((2 : Int32).toUInt32 &&& Int32.toUInt32 31)).toInt32) &&& (858993459 : Int32))) + (((((x0 - (((x0.toUInt32 >>> ((1 : Int32).toUInt32 &&& Int32.toUInt32 31)).toInt32) &&& (1431655765 : Int32))) &&& (858993459 : Int32)) + ((((x0 - (((x0.toUInt32 >>> ((1 : Int32).toUInt32 &&& Int32.toUInt32 31)).toInt32) &&& (1431655765 : Int32))).toUInt32 >>> ((2 : Int32).toUInt32 &&& Int32.toUInt32 31)).toInt32) &&& (858993459 : Int32))).toUInt32 >>> ((4 : Int32).toUInt32 &&& Int32.toUInt32 31)).toInt32)) &&& (252645135 : Int32)) + (((((((x0 - (((x0.toUInt32 >>> ((1 : Int32).toUInt32 &&& Int32.toUInt32 31)).toInt32) &&& (1431655765 : Int32))) &&& (858993459 : Int32)) + ((((x0 - (((x0.toUInt32 >>> ((1 : Int32).toUInt32 &&& Int32.toUInt32 31)).toInt32) &&& (1431655765 : Int32))).toUInt32 >>> ((2 : Int32).toUInt32 &&& Int32.toUInt32 31)).toInt32) &&& (858993459 : Int32))) + (((((x0 - (((x0.toUInt32 >>> ((1 : Int32).toUInt32 &&& Int32.toUInt32 31)).toInt32) &&& (1431655765 : Int32))) &&& (858993459 : Int32)) + ((((x0 - (((x0.toUInt32 >>> ((1 : Int32).toUInt32 &&& Int32.toUInt32 31)).toInt32) &&& (1431655765 : Int32))).toUInt32 >>> ((2 : Int32).toUInt32 &&& Int32.toUInt32 31)).toInt32) &&& (858993459 : Int32))).toUInt32 >>> ((4 : Int32).toUInt32 &&& Int32.toUInt32 31)).toInt32)) &&& (252645135 : Int32)).toUInt32 >>> ((8 : Int32).toUInt32 &&& Int32.toUInt32 31)).toInt32)).toUInt32 >>> ((16 : Int32).toUInt32 &&& Int32.toUInt32 31)).toInt32)) &&& (63 : Int32)), σ)
def f_J6_bitCount_0f7a4  (x0 : Int32) (σ : ah_H) : Option (Int32 × ah_H) := f_J6_bitCount_0f7a4_0 x0 σ
set_option maxRecDepth 100000 in
set_option maxHeartbeats 4000000 in
theorem c_J6_bitCount_0f7a4_0 {G : ah_G}   : ∀ (x0 : Int32) (σ : ah_H) (r : Int32 × ah_H), f_J6_bitCount_0f7a4_0   x0 σ = some r → AW G m_J6_bitCount_0f7a4 0 0 0 0 [(0, .int x0)] [] σ (ah_N G (ah_ri r)) := by
  intro x0 σ r h
  unfold f_J6_bitCount_0f7a4_0 at h
  refine aw_iload_n (pc := 0) 0 dJ6_bitCount_0f7a4_0 rfl ?_
  refine aw_iload_n (pc := 1) 0 dJ6_bitCount_0f7a4_1 rfl ?_
  refine aw_iconst (pc := 2) (v := (1 : Int32)) dJ6_bitCount_0f7a4_2 (by decide) ?_
  refine aw_iushr (pc := 3) dJ6_bitCount_0f7a4_3 ?_
  refine aw_ldcw (pc := 4) dJ6_bitCount_0f7a4_4 kc_J6_265 ?_
  refine aw_iand (pc := 7) dJ6_bitCount_0f7a4_7 ?_
  refine aw_isub (pc := 8) dJ6_bitCount_0f7a4_8 ?_
  refine aw_istore_n (pc := 9) [(0, .int (x0 - (((x0.toUInt32 >>> ((1 : Int32).toUInt32 &&& Int32.toUInt32 31)).toInt32) &&& (1431655765 : Int32))))] dJ6_bitCount_0f7a4_9 rfl (by decide) rfl ?_
  refine aw_iload_n (pc := 10) 0 dJ6_bitCount_0f7a4_10 rfl ?_
  refine aw_ldcw (pc := 11) dJ6_bitCount_0f7a4_11 kc_J6_266 ?_
  refine aw_iand (pc := 14) dJ6_bitCount_0f7a4_14 ?_
  refine aw_iload_n (pc := 15) 0 dJ6_bitCount_0f7a4_15 rfl ?_
  refine aw_iconst (pc := 16) (v := (2 : Int32)) dJ6_bitCount_0f7a4_16 (by decide) ?_
  refine aw_iushr (pc := 17) dJ6_bitCount_0f7a4_17 ?_
  refine aw_ldcw (pc := 18) dJ6_bitCount_0f7a4_18 kc_J6_266 ?_
  refine aw_iand (pc := 21) dJ6_bitCount_0f7a4_21 ?_
  refine aw_iadd (pc := 22) dJ6_bitCount_0f7a4_22 ?_
  refine aw_istore_n (pc := 23) [(0, .int (((x0 - (((x0.toUInt32 >>> ((1 : Int32).toUInt32 &&& Int32.toUInt32 31)).toInt32) &&& (1431655765 : Int32))) &&& (858993459 : Int32)) + ((((x0 - (((x0.toUInt32 >>> ((1 : Int32).toUInt32 &&& Int32.toUInt32 31)).toInt32) &&& (1431655765 : Int32))).toUInt32 >>> ((2 : Int32).toUInt32 &&& Int32.toUInt32 31)).toInt32) &&& (858993459 : Int32))))] dJ6_bitCount_0f7a4_23 rfl (by decide) rfl ?_
  refine aw_iload_n (pc := 24) 0 dJ6_bitCount_0f7a4_24 rfl ?_
  refine aw_iload_n (pc := 25) 0 dJ6_bitCount_0f7a4_25 rfl ?_
  refine aw_iconst (pc := 26) (v := (4 : Int32)) dJ6_bitCount_0f7a4_26 (by decide) ?_
  refine aw_iushr (pc := 27) dJ6_bitCount_0f7a4_27 ?_
  refine aw_iadd (pc := 28) dJ6_bitCount_0f7a4_28 ?_
  refine aw_ldcw (pc := 29) dJ6_bitCount_0f7a4_29 kc_J6_267 ?_
  refine aw_iand (pc := 32) dJ6_bitCount_0f7a4_32 ?_
  refine aw_istore_n (pc := 33) [(0, .int (((((x0 - (((x0.toUInt32 >>> ((1 : Int32).toUInt32 &&& Int32.toUInt32 31)).toInt32) &&& (1431655765 : Int32))) &&& (858993459 : Int32)) + ((((x0 - (((x0.toUInt32 >>> ((1 : Int32).toUInt32 &&& Int32.toUInt32 31)).toInt32) &&& (1431655765 : Int32))).toUInt32 >>> ((2 : Int32).toUInt32 &&& Int32.toUInt32 31)).toInt32) &&& (858993459 : Int32))) + (((((x0 - (((x0.toUInt32 >>> ((1 : Int32).toUInt32 &&& Int32.toUInt32 31)).toInt32) &&& (1431655765 : Int32))) &&& (858993459 : Int32)) + ((((x0 - (((x0.toUInt32 >>> ((1 : Int32).toUInt32 &&& Int32.toUInt32 31)).toInt32) &&& (1431655765 : Int32))).toUInt32 >>> ((2 : Int32).toUInt32 &&& Int32.toUInt32 31)).toInt32) &&& (858993459 : Int32))).toUInt32 >>> ((4 : Int32).toUInt32 &&& Int32.toUInt32 31)).toInt32)) &&& (252645135 : Int32)))] dJ6_bitCount_0f7a4_33 rfl (by decide) rfl ?_
  refine aw_iload_n (pc := 34) 0 dJ6_bitCount_0f7a4_34 rfl ?_
  refine aw_iload_n (pc := 35) 0 dJ6_bitCount_0f7a4_35 rfl ?_
  refine aw_bipush (pc := 36) (v := (8 : Int32)) dJ6_bitCount_0f7a4_36 (by decide) ?_
  refine aw_iushr (pc := 38) dJ6_bitCount_0f7a4_38 ?_
  refine aw_iadd (pc := 39) dJ6_bitCount_0f7a4_39 ?_
  refine aw_istore_n (pc := 40) [(0, .int ((((((x0 - (((x0.toUInt32 >>> ((1 : Int32).toUInt32 &&& Int32.toUInt32 31)).toInt32) &&& (1431655765 : Int32))) &&& (858993459 : Int32)) + ((((x0 - (((x0.toUInt32 >>> ((1 : Int32).toUInt32 &&& Int32.toUInt32 31)).toInt32) &&& (1431655765 : Int32))).toUInt32 >>> ((2 : Int32).toUInt32 &&& Int32.toUInt32 31)).toInt32) &&& (858993459 : Int32))) + (((((x0 - (((x0.toUInt32 >>> ((1 : Int32).toUInt32 &&& Int32.toUInt32 31)).toInt32) &&& (1431655765 : Int32))) &&& (858993459 : Int32)) + ((((x0 - (((x0.toUInt32 >>> ((1 : Int32).toUInt32 &&& Int32.toUInt32 31)).toInt32) &&& (1431655765 : Int32))).toUInt32 >>> ((2 : Int32).toUInt32 &&& Int32.toUInt32 31)).toInt32) &&& (858993459 : Int32))).toUInt32 >>> ((4 : Int32).toUInt32 &&& Int32.toUInt32 31)).toInt32)) &&& (252645135 : Int32)) + (((((((x0 - (((x0.toUInt32 >>> ((1 : Int32).toUInt32 &&& Int32.toUInt32 31)).toInt32) &&& (1431655765 : Int32))) &&& (858993459 : Int32)) + ((((x0 - (((x0.toUInt32 >>> ((1 : Int32).toUInt32 &&& Int32.toUInt32 31)).toInt32) &&& (1431655765 : Int32))).toUInt32 >>> ((2 : Int32).toUInt32 &&& Int32.toUInt32 31)).toInt32) &&& (858993459 : Int32))) + (((((x0 - (((x0.toUInt32 >>> ((1 : Int32).toUInt32 &&& Int32.toUInt32 31)).toInt32) &&& (1431655765 : Int32))) &&& (858993459 : Int32)) + ((((x0 - (((x0.toUInt32 >>> ((1 : Int32).toUInt32 &&& Int32.toUInt32 31)).toInt32) &&& (1431655765 : Int32))).toUInt32 >>> ((2 : Int32).toUInt32 &&& Int32.toUInt32 31)).toInt32) &&& (858993459 : Int32))).toUInt32 >>> ((4 : Int32).toUInt32 &&& Int32.toUInt32 31)).toInt32)) &&& (252645135 : Int32)).toUInt32 >>> ((8 : Int32).toUInt32 &&& Int32.toUInt32 31)).toInt32)))] dJ6_bitCount_0f7a4_40 rfl (by decide) rfl ?_
  refine aw_iload_n (pc := 41) 0 dJ6_bitCount_0f7a4_41 rfl ?_
  refine aw_iload_n (pc := 42) 0 dJ6_bitCount_0f7a4_42 rfl ?_
  refine aw_bipush (pc := 43) (v := (16 : Int32)) dJ6_bitCount_0f7a4_43 (by decide) ?_
  refine aw_iushr (pc := 45) dJ6_bitCount_0f7a4_45 ?_
  refine aw_iadd (pc := 46) dJ6_bitCount_0f7a4_46 ?_
  refine aw_istore_n (pc := 47) [(0, .int (((((((x0 - (((x0.toUInt32 >>> ((1 : Int32).toUInt32 &&& Int32.toUInt32 31)).toInt32) &&& (1431655765 : Int32))) &&& (858993459 : Int32)) + ((((x0 - (((x0.toUInt32 >>> ((1 : Int32).toUInt32 &&& Int32.toUInt32 31)).toInt32) &&& (1431655765 : Int32))).toUInt32 >>> ((2 : Int32).toUInt32 &&& Int32.toUInt32 31)).toInt32) &&& (858993459 : Int32))) + (((((x0 - (((x0.toUInt32 >>> ((1 : Int32).toUInt32 &&& Int32.toUInt32 31)).toInt32) &&& (1431655765 : Int32))) &&& (858993459 : Int32)) + ((((x0 - (((x0.toUInt32 >>> ((1 : Int32).toUInt32 &&& Int32.toUInt32 31)).toInt32) &&& (1431655765 : Int32))).toUInt32 >>> ((2 : Int32).toUInt32 &&& Int32.toUInt32 31)).toInt32) &&& (858993459 : Int32))).toUInt32 >>> ((4 : Int32).toUInt32 &&& Int32.toUInt32 31)).toInt32)) &&& (252645135 : Int32)) + (((((((x0 - (((x0.toUInt32 >>> ((1 : Int32).toUInt32 &&& Int32.toUInt32 31)).toInt32) &&& (1431655765 : Int32))) &&& (858993459 : Int32)) + ((((x0 - (((x0.toUInt32 >>> ((1 : Int32).toUInt32 &&& Int32.toUInt32 31)).toInt32) &&& (1431655765 : Int32))).toUInt32 >>> ((2 : Int32).toUInt32 &&& Int32.toUInt32 31)).toInt32) &&& (858993459 : Int32))) + (((((x0 - (((x0.toUInt32 >>> ((1 : Int32).toUInt32 &&& Int32.toUInt32 31)).toInt32) &&& (1431655765 : Int32))) &&& (858993459 : Int32)) + ((((x0 - (((x0.toUInt32 >>> ((1 : Int32).toUInt32 &&& Int32.toUInt32 31)).toInt32) &&& (1431655765 : Int32))).toUInt32 >>> ((2 : Int32).toUInt32 &&& Int32.toUInt32 31)).toInt32) &&& (858993459 : Int32))).toUInt32 >>> ((4 : Int32).toUInt32 &&& Int32.toUInt32 31)).toInt32)) &&& (252645135 : Int32)).toUInt32 >>> ((8 : Int32).toUInt32 &&& Int32.toUInt32 31)).toInt32)) + ((((((((x0 - (((x0.toUInt32 >>> ((1 : Int32).toUInt32 &&& Int32.toUInt32 31)).toInt32) &&& (1431655765 : Int32))) &&& (858993459 : Int32)) + ((((x0 - (((x0.toUInt32 >>> ((1 : Int32).toUInt32 &&& Int32.toUInt32 31)).toInt32) &&& (1431655765 : Int32))).toUInt32 >>> ((2 : Int32).toUInt32 &&& Int32.toUInt32 31)).toInt32) &&& (858993459 : Int32))) + (((((x0 - (((x0.toUInt32 >>> ((1 : Int32).toUInt32 &&& Int32.toUInt32 31)).toInt32) &&& (1431655765 : Int32))) &&& (858993459 : Int32)) + ((((x0 - (((x0.toUInt32 >>> ((1 : Int32).toUInt32 &&& Int32.toUInt32 31)).toInt32) &&& (1431655765 : Int32))).toUInt32 >>> ((2 : Int32).toUInt32 &&& Int32.toUInt32 31)).toInt32) &&& (858993459 : Int32))).toUInt32 >>> ((4 : Int32).toUInt32 &&& Int32.toUInt32 31)).toInt32)) &&& (252645135 : Int32)) + (((((((x0 - (((x0.toUInt32 >>> ((1 : Int32).toUInt32 &&& Int32.toUInt32 31)).toInt32) &&& (1431655765 : Int32))) &&& (858993459 : Int32)) + ((((x0 - (((x0.toUInt32 >>> ((1 : Int32).toUInt32 &&& Int32.toUInt32 31)).toInt32) &&& (1431655765 : Int32))).toUInt32 >>> ((2 : Int32).toUInt32 &&& Int32.toUInt32 31)).toInt32) &&& (858993459 : Int32))) + (((((x0 - (((x0.toUInt32 >>> ((1 : Int32).toUInt32 &&& Int32.toUInt32 31)).toInt32) &&& (1431655765 : Int32))) &&& (858993459 : Int32)) + ((((x0 - (((x0.toUInt32 >>> ((1 : Int32).toUInt32 &&& Int32.toUInt32 31)).toInt32) &&& (1431655765 : Int32))).toUInt32 >>> ((2 : Int32).toUInt32 &&& Int32.toUInt32 31)).toInt32) &&& (858993459 : Int32))).toUInt32 >>> ((4 : Int32).toUInt32 &&& Int32.toUInt32 31)).toInt32)) &&& (252645135 : Int32)).toUInt32 >>> ((8 : Int32).toUInt32 &&& Int32.toUInt32 31)).toInt32)).toUInt32 >>> ((16 : Int32).toUInt32 &&& Int32.toUInt32 31)).toInt32)))] dJ6_bitCount_0f7a4_47 rfl (by decide) rfl ?_
  refine aw_iload_n (pc := 48) 0 dJ6_bitCount_0f7a4_48 rfl ?_
  refine aw_bipush (pc := 49) (v := (63 : Int32)) dJ6_bitCount_0f7a4_49 (by decide) ?_
  refine aw_iand (pc := 51) dJ6_bitCount_0f7a4_51 ?_
  exact ow_iret (pc := 52) h dJ6_bitCount_0f7a4_52 rfl
theorem c_J6_bitCount_0f7a4 {G : ah_G}   (x0 : Int32) (σ : ah_H) (r : Int32 × ah_H) (h : f_J6_bitCount_0f7a4  x0 σ = some r) : AM G m_J6_bitCount_0f7a4 0 0 0 [.int x0] σ (ah_ri r) := aw_enter (by decide) (Nat.le_of_ble_eq_true rfl) (c_J6_bitCount_0f7a4_0 _ _ _ h)
def f_J7_fill_d0a16_6_b  (K6 : Nat → Int64 → Int32 → Int32 → ah_H → Option (ah_H)) (x0 : Nat) (x1 : Int64) (x3 : Int32) (x4 : Int32) (σ : ah_H) : Option (ah_H) :=
  if x4 ≤ x3 then (some σ) else ((op_sL σ x0 x3 x1).bind fun σ1 => K6 x0 x1 (x3 + (1 : Int32)) x4 σ1)
def f_J7_fill_d0a16_6   : Nat → Nat → Int64 → Int32 → Int32 → ah_H → Option (ah_H)
  | 0, _, _, _, _, _ => none
  | n + 1, x0, x1, x3, x4, σ => f_J7_fill_d0a16_6_b (f_J7_fill_d0a16_6 n) x0 x1 x3 x4 σ
def f_J7_fill_d0a16_0   (x0 : Nat) (x1 : Int64) (σ : ah_H) : Option (ah_H) :=
  (op_len .long σ x0).bind fun n1 => f_J7_fill_d0a16_6 5000 x0 x1 (0 : Int32) (Int32.ofNat n1) σ
def f_J7_fill_d0a16  (x0 : Nat) (x1 : Int64) (σ : ah_H) : Option (ah_H) := f_J7_fill_d0a16_0 x0 x1 σ
set_option maxRecDepth 100000 in
set_option maxHeartbeats 4000000 in
theorem c_J7_fill_d0a16_6_b {G : ah_G}  (K6 : Nat → Int64 → Int32 → Int32 → ah_H → Option (ah_H)) (hK6 : ∀ (x0 : Nat) (x1 : Int64) (x3 : Int32) (x4 : Int32) (σ : ah_H) (r : ah_H), K6 x0 x1 x3 x4 σ = some r → AW G m_J7_fill_d0a16 0 0 0 6 [(0, .ref x0), (1, .long x1), (3, .int x3), (4, .int x4)] [] σ (ah_N G (ah_rv r))) : ∀ (x0 : Nat) (x1 : Int64) (x3 : Int32) (x4 : Int32) (σ : ah_H) (r : ah_H), f_J7_fill_d0a16_6_b  K6 x0 x1 x3 x4 σ = some r → AW G m_J7_fill_d0a16 0 0 0 6 [(0, .ref x0), (1, .long x1), (3, .int x3), (4, .int x4)] [] σ (ah_N G (ah_rv r)) := by
  intro x0 x1 x3 x4 σ r h
  unfold f_J7_fill_d0a16_6_b at h
  refine aw_iload_n (pc := 6) 2 dJ7_fill_d0a16_6 rfl ?_
  refine aw_iload (pc := 7) 3 dJ7_fill_d0a16_7 rfl ?_
  refine aw_icmp_ge (pc := 9) 22 dJ7_fill_d0a16_9 (by decide) (fun z => ?_) (fun z => ?_)
  · replace h := (if_pos z).symm.trans h
    exact ow_vret (pc := 22) h dJ7_fill_d0a16_22 rfl
  · replace h := (if_neg z).symm.trans h
    refine aw_aload_n (pc := 12) 0 dJ7_fill_d0a16_12 rfl ?_
    refine aw_iload_n (pc := 13) 2 dJ7_fill_d0a16_13 rfl ?_
    refine aw_lload_n (pc := 14) 1 dJ7_fill_d0a16_14 rfl ?_
    obtain ⟨σ1, e, h⟩ := op_bd h
    refine ow_sL (pc := 15) e dJ7_fill_d0a16_15 ?_
    refine aw_iinc (pc := 16) 2 [(3, .int (x3 + (1 : Int32))), (0, .ref x0), (1, .long x1), (4, .int x4)] (x3 + (1 : Int32)) dJ7_fill_d0a16_16 rfl rfl (by decide) rfl ?_
    refine aw_goto (pc := 19) 6 dJ7_fill_d0a16_19 (by decide) ?_
    refine aw_sub [1, 2, 0, 3] rfl ?_
    exact hK6 _ _ _ _ _ _ h
theorem c_J7_fill_d0a16_6 {G : ah_G}   : ∀ (n : Nat) (x0 : Nat) (x1 : Int64) (x3 : Int32) (x4 : Int32) (σ : ah_H) (r : ah_H), f_J7_fill_d0a16_6   n x0 x1 x3 x4 σ = some r → AW G m_J7_fill_d0a16 0 0 0 6 [(0, .ref x0), (1, .long x1), (3, .int x3), (4, .int x4)] [] σ (ah_N G (ah_rv r)) := by
  intro n
  induction n with
  | zero => intro x0 x1 x3 x4 σ r h; cases h
  | succ n ih => intro x0 x1 x3 x4 σ r h; exact c_J7_fill_d0a16_6_b   _ ih x0 x1 x3 x4 σ r h
set_option maxRecDepth 100000 in
set_option maxHeartbeats 4000000 in
theorem c_J7_fill_d0a16_0 {G : ah_G}   : ∀ (x0 : Nat) (x1 : Int64) (σ : ah_H) (r : ah_H), f_J7_fill_d0a16_0   x0 x1 σ = some r → AW G m_J7_fill_d0a16 0 0 0 0 [(0, .ref x0), (1, .long x1)] [] σ (ah_N G (ah_rv r)) := by
  intro x0 x1 σ r h
  unfold f_J7_fill_d0a16_0 at h
  refine aw_iconst (pc := 0) (v := (0 : Int32)) dJ7_fill_d0a16_0 (by decide) ?_
  refine aw_istore_n (pc := 1) [(3, .int (0 : Int32)), (0, .ref x0), (1, .long x1)] dJ7_fill_d0a16_1 rfl (by decide) rfl ?_
  refine aw_aload_n (pc := 2) 1 dJ7_fill_d0a16_2 rfl ?_
  obtain ⟨n1, e, h⟩ := op_bd h
  refine ow_alen (pc := 3) e dJ7_fill_d0a16_3 (by decide) ?_
  refine aw_istore (pc := 4) [(4, .int (Int32.ofNat n1)), (3, .int (0 : Int32)), (0, .ref x0), (1, .long x1)] dJ7_fill_d0a16_4 (by decide) rfl ?_
  refine aw_sub [2, 3, 1, 0] rfl ?_
  exact c_J7_fill_d0a16_6  _ _ _ _ _ _ _ h
theorem c_J7_fill_d0a16 {G : ah_G}   (x0 : Nat) (x1 : Int64) (σ : ah_H) (r : ah_H) (h : f_J7_fill_d0a16  x0 x1 σ = some r) : AM G m_J7_fill_d0a16 0 0 0 [.ref x0, .long x1] σ (ah_rv r) := aw_enter (by decide) (Nat.le_of_ble_eq_true rfl) (c_J7_fill_d0a16_0 _ _ _ _ h)
def f_J7_fill_53178_5_b  (K5 : Nat → Int32 → Int32 → Int32 → ah_H → Option (ah_H)) (x0 : Nat) (x1 : Int32) (x2 : Int32) (x3 : Int32) (σ : ah_H) : Option (ah_H) :=
  if x3 ≤ x2 then (some σ) else ((op_sI σ x0 x2 x1).bind fun σ1 => K5 x0 x1 (x2 + (1 : Int32)) x3 σ1)
def f_J7_fill_53178_5   : Nat → Nat → Int32 → Int32 → Int32 → ah_H → Option (ah_H)
  | 0, _, _, _, _, _ => none
  | n + 1, x0, x1, x2, x3, σ => f_J7_fill_53178_5_b (f_J7_fill_53178_5 n) x0 x1 x2 x3 σ
def f_J7_fill_53178_0   (x0 : Nat) (x1 : Int32) (σ : ah_H) : Option (ah_H) :=
  (op_len .int σ x0).bind fun n1 => f_J7_fill_53178_5 5000 x0 x1 (0 : Int32) (Int32.ofNat n1) σ
def f_J7_fill_53178  (x0 : Nat) (x1 : Int32) (σ : ah_H) : Option (ah_H) := f_J7_fill_53178_0 x0 x1 σ
set_option maxRecDepth 100000 in
set_option maxHeartbeats 4000000 in
theorem c_J7_fill_53178_5_b {G : ah_G}  (K5 : Nat → Int32 → Int32 → Int32 → ah_H → Option (ah_H)) (hK5 : ∀ (x0 : Nat) (x1 : Int32) (x2 : Int32) (x3 : Int32) (σ : ah_H) (r : ah_H), K5 x0 x1 x2 x3 σ = some r → AW G m_J7_fill_53178 0 0 0 5 [(0, .ref x0), (1, .int x1), (2, .int x2), (3, .int x3)] [] σ (ah_N G (ah_rv r))) : ∀ (x0 : Nat) (x1 : Int32) (x2 : Int32) (x3 : Int32) (σ : ah_H) (r : ah_H), f_J7_fill_53178_5_b  K5 x0 x1 x2 x3 σ = some r → AW G m_J7_fill_53178 0 0 0 5 [(0, .ref x0), (1, .int x1), (2, .int x2), (3, .int x3)] [] σ (ah_N G (ah_rv r)) := by
  intro x0 x1 x2 x3 σ r h
  unfold f_J7_fill_53178_5_b at h
  refine aw_iload_n (pc := 5) 2 dJ7_fill_53178_5 rfl ?_
  refine aw_iload_n (pc := 6) 3 dJ7_fill_53178_6 rfl ?_
  refine aw_icmp_ge (pc := 7) 20 dJ7_fill_53178_7 (by decide) (fun z => ?_) (fun z => ?_)
  · replace h := (if_pos z).symm.trans h
    exact ow_vret (pc := 20) h dJ7_fill_53178_20 rfl
  · replace h := (if_neg z).symm.trans h
    refine aw_aload_n (pc := 10) 0 dJ7_fill_53178_10 rfl ?_
    refine aw_iload_n (pc := 11) 2 dJ7_fill_53178_11 rfl ?_
    refine aw_iload_n (pc := 12) 1 dJ7_fill_53178_12 rfl ?_
    obtain ⟨σ1, e, h⟩ := op_bd h
    refine ow_sI (pc := 13) e dJ7_fill_53178_13 ?_
    refine aw_iinc (pc := 14) 2 [(2, .int (x2 + (1 : Int32))), (0, .ref x0), (1, .int x1), (3, .int x3)] (x2 + (1 : Int32)) dJ7_fill_53178_14 rfl rfl (by decide) rfl ?_
    refine aw_goto (pc := 17) 5 dJ7_fill_53178_17 (by decide) ?_
    refine aw_sub [1, 2, 0, 3] rfl ?_
    exact hK5 _ _ _ _ _ _ h
theorem c_J7_fill_53178_5 {G : ah_G}   : ∀ (n : Nat) (x0 : Nat) (x1 : Int32) (x2 : Int32) (x3 : Int32) (σ : ah_H) (r : ah_H), f_J7_fill_53178_5   n x0 x1 x2 x3 σ = some r → AW G m_J7_fill_53178 0 0 0 5 [(0, .ref x0), (1, .int x1), (2, .int x2), (3, .int x3)] [] σ (ah_N G (ah_rv r)) := by
  intro n
  induction n with
  | zero => intro x0 x1 x2 x3 σ r h; cases h
  | succ n ih => intro x0 x1 x2 x3 σ r h; exact c_J7_fill_53178_5_b   _ ih x0 x1 x2 x3 σ r h
set_option maxRecDepth 100000 in
set_option maxHeartbeats 4000000 in
theorem c_J7_fill_53178_0 {G : ah_G}   : ∀ (x0 : Nat) (x1 : Int32) (σ : ah_H) (r : ah_H), f_J7_fill_53178_0   x0 x1 σ = some r → AW G m_J7_fill_53178 0 0 0 0 [(0, .ref x0), (1, .int x1)] [] σ (ah_N G (ah_rv r)) := by
  intro x0 x1 σ r h
  unfold f_J7_fill_53178_0 at h
  refine aw_iconst (pc := 0) (v := (0 : Int32)) dJ7_fill_53178_0 (by decide) ?_
  refine aw_istore_n (pc := 1) [(2, .int (0 : Int32)), (0, .ref x0), (1, .int x1)] dJ7_fill_53178_1 rfl (by decide) rfl ?_
  refine aw_aload_n (pc := 2) 1 dJ7_fill_53178_2 rfl ?_
  obtain ⟨n1, e, h⟩ := op_bd h
  refine ow_alen (pc := 3) e dJ7_fill_53178_3 (by decide) ?_
  refine aw_istore_n (pc := 4) [(3, .int (Int32.ofNat n1)), (2, .int (0 : Int32)), (0, .ref x0), (1, .int x1)] dJ7_fill_53178_4 rfl (by decide) rfl ?_
  refine aw_sub [2, 3, 1, 0] rfl ?_
  exact c_J7_fill_53178_5  _ _ _ _ _ _ _ h
theorem c_J7_fill_53178 {G : ah_G}   (x0 : Nat) (x1 : Int32) (σ : ah_H) (r : ah_H) (h : f_J7_fill_53178  x0 x1 σ = some r) : AM G m_J7_fill_53178 0 0 0 [.ref x0, .int x1] σ (ah_rv r) := aw_enter (by decide) (Nat.le_of_ble_eq_true rfl) (c_J7_fill_53178_0 _ _ _ _ h)
def f_X0_serve_0   (x0 : Nat) (x1 : Nat) (σ : ah_H) : Option (ah_H) :=
  (op_pR 0 17 σ x0 x1).bind fun σ1 => (op_pZ 0 16 σ1 x0 (0 : Int32)).bind fun σ2 => (op_gR 0 6 σ2 x0).bind fun v3 => (f_J7_fill_53178 v3 (-1 : Int32) σ2).bind fun r4 => some r4
def f_X0_serve  (x0 : Nat) (x1 : Nat) (σ : ah_H) : Option (ah_H) := op_ck 0 σ x0 (f_X0_serve_0 x0 x1 σ)
set_option maxRecDepth 100000 in
set_option maxHeartbeats 4000000 in
theorem c_X0_serve_0 {G : ah_G}   : ∀ (x0 : Nat) (x1 : Nat) (σ : ah_H) (r : ah_H), f_X0_serve_0   x0 x1 σ = some r → AW G m_X0_serve 1 0 0 0 [(0, .ref x0), (1, .ref x1)] [] σ (ah_N G (ah_rv r)) := by
  intro x0 x1 σ r h
  unfold f_X0_serve_0 at h
  refine aw_aload_n (pc := 0) 0 dX0_serve_0 rfl ?_
  refine aw_aload_n (pc := 1) 1 dX0_serve_1 rfl ?_
  obtain ⟨σ1, e, h⟩ := op_bd h
  refine ow_pR (pc := 2) e dX0_serve_2 fd_X0_64 rfl ?_
  refine aw_aload_n (pc := 5) 0 dX0_serve_5 rfl ?_
  refine aw_iconst (pc := 6) (v := (0 : Int32)) dX0_serve_6 (by decide) ?_
  obtain ⟨σ2, e, h⟩ := op_bd h
  refine ow_pZ (pc := 7) e dX0_serve_7 fd_X0_68 ?_
  refine aw_aload_n (pc := 10) 0 dX0_serve_10 rfl ?_
  obtain ⟨v3, e, h⟩ := op_bd h
  refine ow_gR (pc := 11) e dX0_serve_11 fd_X0_21 rfl ?_
  refine aw_iconst (pc := 14) (v := (-1 : Int32)) dX0_serve_14 (by decide) ?_
  obtain ⟨r4, e, h⟩ := op_bd h
  refine ow_cSv (pc := 15) [.ref v3, .int (-1 : Int32)] ((c_J7_fill_53178 _ _ _ _ e).mono (by decide)) rfl dX0_serve_15 cw_X0_72 rfl (Nat.le_of_ble_eq_true rfl) ?_
  exact ow_vret (pc := 18) h dX0_serve_18 rfl
theorem c_X0_serve {G : ah_G}   (x0 : Nat) (x1 : Nat) (σ : ah_H) (r : ah_H) (h : f_X0_serve  x0 x1 σ = some r) : AM G m_X0_serve 1 0 0 [.ref x0, .ref x1] σ (ah_rv r) := aw_enter (by decide) (Nat.le_of_ble_eq_true rfl) (c_X0_serve_0 _ _ _ _ (op_ck_k h))
def f_X1_init_0   (x0 : Nat) (x1 : Nat) (x2 : Nat) (σ : ah_H) : Option (ah_H) :=
  (op_nwM .long 7 120 σ).bind fun r1 => (op_pR 1 0 r1.2 x0 r1.1).bind fun σ2 => (op_nwM .long 7 120 σ2).bind fun r3 => (op_pR 1 1 r3.2 x0 r3.1).bind fun σ4 => (op_nwA .long 7 σ4).bind fun r5 => (op_pR 1 2 r5.2 x0 r5.1).bind fun σ6 => (op_nwA .int 7 σ6).bind fun r7 => (op_pR 1 3 r7.2 x0 r7.1).bind fun σ8 => (op_nwA .int 7 σ8).bind fun r9 => (op_pR 1 4 r9.2 x0 r9.1).bind fun σ10 => (op_nwA .int 7 σ10).bind fun r11 => (op_pR 1 5 r11.2 x0 r11.1).bind fun σ12 => (op_pR 1 7 σ12 x0 x1).bind fun σ13 => (op_pR 1 8 σ13 x0 x2).bind fun σ14 => (op_gR 1 2 σ14 x0).bind fun v15 => (f_J7_fill_d0a16 v15 (9223372036854775807 : Int64) σ14).bind fun r16 => some r16
def f_X1_init  (x0 : Nat) (x1 : Nat) (x2 : Nat) (σ : ah_H) : Option (ah_H) := op_ck 1 σ x0 (f_X1_init_0 x0 x1 x2 σ)
set_option maxRecDepth 100000 in
set_option maxHeartbeats 4000000 in
theorem c_X1_init_0 {G : ah_G} (hex : ah_ex G)   : ∀ (x0 : Nat) (x1 : Nat) (x2 : Nat) (σ : ah_H) (r : ah_H), f_X1_init_0   x0 x1 x2 σ = some r → AW G m_X1_init 1 20 1722 0 [(0, .ref x0), (1, .ref x1), (2, .ref x2)] [] σ (ah_N G (ah_rv r)) := by
  intro x0 x1 x2 σ r h
  unfold f_X1_init_0 at h
  refine aw_aload_n (pc := 0) 0 dX1_init_0 rfl ?_
  refine ow_oi (pc := 1) dX1_init_1 oi_X1_3 (Nat.le_of_ble_eq_true rfl) ?_
  refine aw_aload_n (pc := 4) 0 dX1_init_4 rfl ?_
  refine aw_bipush (pc := 5) (v := (7 : Int32)) dX1_init_5 (by decide) ?_
  refine aw_bipush (pc := 7) (v := (120 : Int32)) dX1_init_7 (by decide) ?_
  obtain ⟨r1, e, h⟩ := op_bd h
  refine ow_nwM hex (pc := 9) (kc := 12) (ks := 875) (N := 7) (K := 120) e dX1_init_9 (by decide) (by decide) (by decide) (by decide) (by decide) (by decide) (by decide) (by decide) nm_X1_9 ?_
  obtain ⟨σ2, e, h⟩ := op_bd h
  refine ow_pRF (pc := 13) e dX1_init_13 fd_X1_11 rfl rfl (fun C T N h => by cases h; rfl) ?_
  refine aw_aload_n (pc := 16) 0 dX1_init_16 rfl ?_
  refine aw_bipush (pc := 17) (v := (7 : Int32)) dX1_init_17 (by decide) ?_
  refine aw_bipush (pc := 19) (v := (120 : Int32)) dX1_init_19 (by decide) ?_
  obtain ⟨r3, e, h⟩ := op_bd h
  refine ow_nwM hex (pc := 21) (kc := 4) (ks := 28) (N := 7) (K := 120) e dX1_init_21 (by decide) (by decide) (by decide) (by decide) (by decide) (by decide) (by decide) (by decide) nm_X1_9 ?_
  obtain ⟨σ4, e, h⟩ := op_bd h
  refine ow_pRF (pc := 25) e dX1_init_25 fd_X1_16 rfl rfl (fun C T N h => by cases h; rfl) ?_
  refine aw_aload_n (pc := 28) 0 dX1_init_28 rfl ?_
  refine aw_bipush (pc := 29) (v := (7 : Int32)) dX1_init_29 (by decide) ?_
  obtain ⟨r5, e, h⟩ := op_bd h
  refine ow_nwA hex (pc := 31) (kc := 3) (ks := 21) (N := 7) e dX1_init_31 rfl (by decide) (by decide) (by decide) ac_long (by decide) ⟨rfl, rfl⟩ ?_
  obtain ⟨σ6, e, h⟩ := op_bd h
  refine ow_pRF (pc := 33) e dX1_init_33 fd_X1_19 rfl rfl (fun C T N h => by cases h; rfl) ?_
  refine aw_aload_n (pc := 36) 0 dX1_init_36 rfl ?_
  refine aw_bipush (pc := 37) (v := (7 : Int32)) dX1_init_37 (by decide) ?_
  obtain ⟨r7, e, h⟩ := op_bd h
  refine ow_nwA hex (pc := 39) (kc := 2) (ks := 14) (N := 7) e dX1_init_39 rfl (by decide) (by decide) (by decide) ac_int (by decide) ⟨rfl, rfl⟩ ?_
  obtain ⟨σ8, e, h⟩ := op_bd h
  refine ow_pRF (pc := 41) e dX1_init_41 fd_X1_23 rfl rfl (fun C T N h => by cases h; rfl) ?_
  refine aw_aload_n (pc := 44) 0 dX1_init_44 rfl ?_
  refine aw_bipush (pc := 45) (v := (7 : Int32)) dX1_init_45 (by decide) ?_
  obtain ⟨r9, e, h⟩ := op_bd h
  refine ow_nwA hex (pc := 47) (kc := 1) (ks := 7) (N := 7) e dX1_init_47 rfl (by decide) (by decide) (by decide) ac_int (by decide) ⟨rfl, rfl⟩ ?_
  obtain ⟨σ10, e, h⟩ := op_bd h
  refine ow_pRF (pc := 49) e dX1_init_49 fd_X1_27 rfl rfl (fun C T N h => by cases h; rfl) ?_
  refine aw_aload_n (pc := 52) 0 dX1_init_52 rfl ?_
  refine aw_bipush (pc := 53) (v := (7 : Int32)) dX1_init_53 (by decide) ?_
  obtain ⟨r11, e, h⟩ := op_bd h
  refine ow_nwA hex (pc := 55) (kc := 0) (ks := 0) (N := 7) e dX1_init_55 rfl (by decide) (by decide) (by decide) ac_int (by decide) ⟨rfl, rfl⟩ ?_
  obtain ⟨σ12, e, h⟩ := op_bd h
  refine ow_pRF (pc := 57) e dX1_init_57 fd_X1_30 rfl rfl (fun C T N h => by cases h; rfl) ?_
  refine aw_aload_n (pc := 60) 0 dX1_init_60 rfl ?_
  refine aw_aload_n (pc := 61) 1 dX1_init_61 rfl ?_
  obtain ⟨σ13, e, h⟩ := op_bd h
  refine ow_pRF (pc := 62) e dX1_init_62 fd_X1_33 rfl rfl (fun C T N h => by cases h; rfl) ?_
  refine aw_aload_n (pc := 65) 0 dX1_init_65 rfl ?_
  refine aw_aload_n (pc := 66) 2 dX1_init_66 rfl ?_
  obtain ⟨σ14, e, h⟩ := op_bd h
  refine ow_pR (pc := 67) e dX1_init_67 fd_X1_36 rfl ?_
  refine aw_aload_n (pc := 70) 0 dX1_init_70 rfl ?_
  obtain ⟨v15, e, h⟩ := op_bd h
  refine ow_gR (pc := 71) e dX1_init_71 fd_X1_19 rfl ?_
  refine aw_ldc2 (pc := 74) dX1_init_74 kl_X1_42 ?_
  obtain ⟨r16, e, h⟩ := op_bd h
  refine ow_cSvK (pc := 77) [.ref v15, .long (9223372036854775807 : Int64)] ((c_J7_fill_d0a16 _ _ _ _ e).mono (by decide)) rfl dX1_init_77 cw_X1_44 rfl (Nat.le_of_ble_eq_true rfl) ?_
  exact ow_vret (pc := 80) h dX1_init_80 rfl
theorem c_X1_init {G : ah_G} (hex : ah_ex G)   (x0 : Nat) (x1 : Nat) (x2 : Nat) (σ : ah_H) (r : ah_H) (h : f_X1_init  x0 x1 x2 σ = some r) : AM G m_X1_init 1 20 1722 [.ref x0, .ref x1, .ref x2] σ (ah_rv r) := aw_enter (by decide) (Nat.le_of_ble_eq_true rfl) (c_X1_init_0 hex _ _ _ _ _ (op_ck_k h))
def f_X0_init_0   (x0 : Nat) (x1 : Nat) (σ : ah_H) : Option (ah_H) :=
  (op_nwA .int 7 σ).bind fun r1 => (op_pR 0 1 r1.2 x0 r1.1).bind fun σ2 => (op_nwA .int 7 σ2).bind fun r3 => (op_pR 0 3 r3.2 x0 r3.1).bind fun σ4 => (op_nwA .int 7 σ4).bind fun r5 => (op_pR 0 5 r5.2 x0 r5.1).bind fun σ6 => (op_nwA .int 7 σ6).bind fun r7 => (op_pR 0 6 r7.2 x0 r7.1).bind fun σ8 => (op_nwA .int 7 σ8).bind fun r9 => (op_pR 0 7 r9.2 x0 r9.1).bind fun σ10 => (op_nwM .long 7 104 σ10).bind fun r11 => (op_pR 0 9 r11.2 x0 r11.1).bind fun σ12 => (op_nwM .long 7 104 σ12).bind fun r13 => (op_pR 0 10 r13.2 x0 r13.1).bind fun σ14 => (op_nwA .long 104 σ14).bind fun r15 => (op_pR 0 11 r15.2 x0 r15.1).bind fun σ16 => (op_nwA .long 104 σ16).bind fun r17 => (op_pR 0 12 r17.2 x0 r17.1).bind fun σ18 => (op_nwA .long 13 σ18).bind fun r19 => (op_pR 0 13 r19.2 x0 r19.1).bind fun σ20 => (op_nwM .long 7 52 σ20).bind fun r21 => (op_pR 0 14 r21.2 x0 r21.1).bind fun σ22 => (op_nwM .long 4 100 σ22).bind fun r23 => (op_pR 0 15 r23.2 x0 r23.1).bind fun σ24 => (op_nwO 1 σ24).bind fun r25 => (op_gR 0 1 r25.2 x0).bind fun v26 => (f_X1_init r25.1 v26 x1 r25.2).bind fun σ27 => (op_pR 0 2 σ27 x0 r25.1).bind fun σ28 => (f_X0_serve x0 x1 σ28).bind fun r29 => some r29
def f_X0_init  (x0 : Nat) (x1 : Nat) (σ : ah_H) : Option (ah_H) := op_ck 0 σ x0 (f_X0_init_0 x0 x1 σ)
set_option maxRecDepth 100000 in
set_option maxHeartbeats 4000000 in
theorem c_X0_init_0 {G : ah_G} (hex : ah_ex G)   : ∀ (x0 : Nat) (x1 : Nat) (σ : ah_H) (r : ah_H), f_X0_init_0   x0 x1 σ = some r → AW G m_X0_init 2 58 4232 0 [(0, .ref x0), (1, .ref x1)] [] σ (ah_N G (ah_rv r)) := by
  intro x0 x1 σ r h
  unfold f_X0_init_0 at h
  refine aw_aload_n (pc := 0) 0 dX0_init_0 rfl ?_
  refine ow_oi (pc := 1) dX0_init_1 oi_X0_5 (Nat.le_of_ble_eq_true rfl) ?_
  refine aw_aload_n (pc := 4) 0 dX0_init_4 rfl ?_
  refine aw_bipush (pc := 5) (v := (7 : Int32)) dX0_init_5 (by decide) ?_
  obtain ⟨r1, e, h⟩ := op_bd h
  refine ow_nwA hex (pc := 7) (kc := 57) (ks := 4225) (N := 7) e dX0_init_7 rfl (by decide) (by decide) (by decide) ac_int (by decide) ⟨rfl, rfl⟩ ?_
  obtain ⟨σ2, e, h⟩ := op_bd h
  refine ow_pRF (pc := 9) e dX0_init_9 fd_X0_11 rfl rfl (fun C T N h => by cases h; rfl) ?_
  refine aw_aload_n (pc := 12) 0 dX0_init_12 rfl ?_
  refine aw_bipush (pc := 13) (v := (7 : Int32)) dX0_init_13 (by decide) ?_
  obtain ⟨r3, e, h⟩ := op_bd h
  refine ow_nwA hex (pc := 15) (kc := 56) (ks := 4218) (N := 7) e dX0_init_15 rfl (by decide) (by decide) (by decide) ac_int (by decide) ⟨rfl, rfl⟩ ?_
  obtain ⟨σ4, e, h⟩ := op_bd h
  refine ow_pRF (pc := 17) e dX0_init_17 fd_X0_15 rfl rfl (fun C T N h => by cases h; rfl) ?_
  refine aw_aload_n (pc := 20) 0 dX0_init_20 rfl ?_
  refine aw_bipush (pc := 21) (v := (7 : Int32)) dX0_init_21 (by decide) ?_
  obtain ⟨r5, e, h⟩ := op_bd h
  refine ow_nwA hex (pc := 23) (kc := 55) (ks := 4211) (N := 7) e dX0_init_23 rfl (by decide) (by decide) (by decide) ac_int (by decide) ⟨rfl, rfl⟩ ?_
  obtain ⟨σ6, e, h⟩ := op_bd h
  refine ow_pRF (pc := 25) e dX0_init_25 fd_X0_18 rfl rfl (fun C T N h => by cases h; rfl) ?_
  refine aw_aload_n (pc := 28) 0 dX0_init_28 rfl ?_
  refine aw_bipush (pc := 29) (v := (7 : Int32)) dX0_init_29 (by decide) ?_
  obtain ⟨r7, e, h⟩ := op_bd h
  refine ow_nwA hex (pc := 31) (kc := 54) (ks := 4204) (N := 7) e dX0_init_31 rfl (by decide) (by decide) (by decide) ac_int (by decide) ⟨rfl, rfl⟩ ?_
  obtain ⟨σ8, e, h⟩ := op_bd h
  refine ow_pRF (pc := 33) e dX0_init_33 fd_X0_21 rfl rfl (fun C T N h => by cases h; rfl) ?_
  refine aw_aload_n (pc := 36) 0 dX0_init_36 rfl ?_
  refine aw_bipush (pc := 37) (v := (7 : Int32)) dX0_init_37 (by decide) ?_
  obtain ⟨r9, e, h⟩ := op_bd h
  refine ow_nwA hex (pc := 39) (kc := 53) (ks := 4197) (N := 7) e dX0_init_39 rfl (by decide) (by decide) (by decide) ac_int (by decide) ⟨rfl, rfl⟩ ?_
  obtain ⟨σ10, e, h⟩ := op_bd h
  refine ow_pRF (pc := 41) e dX0_init_41 fd_X0_24 rfl rfl (fun C T N h => by cases h; rfl) ?_
  refine aw_aload_n (pc := 44) 0 dX0_init_44 rfl ?_
  refine aw_bipush (pc := 45) (v := (7 : Int32)) dX0_init_45 (by decide) ?_
  refine aw_bipush (pc := 47) (v := (104 : Int32)) dX0_init_47 (by decide) ?_
  obtain ⟨r11, e, h⟩ := op_bd h
  refine ow_nwM hex (pc := 49) (kc := 45) (ks := 3462) (N := 7) (K := 104) e dX0_init_49 (by decide) (by decide) (by decide) (by decide) (by decide) (by decide) (by decide) (by decide) nm_X0_27 ?_
  obtain ⟨σ12, e, h⟩ := op_bd h
  refine ow_pRF (pc := 53) e dX0_init_53 fd_X0_29 rfl rfl (fun C T N h => by cases h; rfl) ?_
  refine aw_aload_n (pc := 56) 0 dX0_init_56 rfl ?_
  refine aw_bipush (pc := 57) (v := (7 : Int32)) dX0_init_57 (by decide) ?_
  refine aw_bipush (pc := 59) (v := (104 : Int32)) dX0_init_59 (by decide) ?_
  obtain ⟨r13, e, h⟩ := op_bd h
  refine ow_nwM hex (pc := 61) (kc := 37) (ks := 2727) (N := 7) (K := 104) e dX0_init_61 (by decide) (by decide) (by decide) (by decide) (by decide) (by decide) (by decide) (by decide) nm_X0_27 ?_
  obtain ⟨σ14, e, h⟩ := op_bd h
  refine ow_pRF (pc := 65) e dX0_init_65 fd_X0_32 rfl rfl (fun C T N h => by cases h; rfl) ?_
  refine aw_aload_n (pc := 68) 0 dX0_init_68 rfl ?_
  refine aw_bipush (pc := 69) (v := (104 : Int32)) dX0_init_69 (by decide) ?_
  obtain ⟨r15, e, h⟩ := op_bd h
  refine ow_nwA hex (pc := 71) (kc := 36) (ks := 2623) (N := 104) e dX0_init_71 rfl (by decide) (by decide) (by decide) ac_long (by decide) ⟨rfl, rfl⟩ ?_
  obtain ⟨σ16, e, h⟩ := op_bd h
  refine ow_pRF (pc := 73) e dX0_init_73 fd_X0_35 rfl rfl (fun C T N h => by cases h; rfl) ?_
  refine aw_aload_n (pc := 76) 0 dX0_init_76 rfl ?_
  refine aw_bipush (pc := 77) (v := (104 : Int32)) dX0_init_77 (by decide) ?_
  obtain ⟨r17, e, h⟩ := op_bd h
  refine ow_nwA hex (pc := 79) (kc := 35) (ks := 2519) (N := 104) e dX0_init_79 rfl (by decide) (by decide) (by decide) ac_long (by decide) ⟨rfl, rfl⟩ ?_
  obtain ⟨σ18, e, h⟩ := op_bd h
  refine ow_pRF (pc := 81) e dX0_init_81 fd_X0_39 rfl rfl (fun C T N h => by cases h; rfl) ?_
  refine aw_aload_n (pc := 84) 0 dX0_init_84 rfl ?_
  refine aw_bipush (pc := 85) (v := (13 : Int32)) dX0_init_85 (by decide) ?_
  obtain ⟨r19, e, h⟩ := op_bd h
  refine ow_nwA hex (pc := 87) (kc := 34) (ks := 2506) (N := 13) e dX0_init_87 rfl (by decide) (by decide) (by decide) ac_long (by decide) ⟨rfl, rfl⟩ ?_
  obtain ⟨σ20, e, h⟩ := op_bd h
  refine ow_pRF (pc := 89) e dX0_init_89 fd_X0_42 rfl rfl (fun C T N h => by cases h; rfl) ?_
  refine aw_aload_n (pc := 92) 0 dX0_init_92 rfl ?_
  refine aw_bipush (pc := 93) (v := (7 : Int32)) dX0_init_93 (by decide) ?_
  refine aw_bipush (pc := 95) (v := (52 : Int32)) dX0_init_95 (by decide) ?_
  obtain ⟨r21, e, h⟩ := op_bd h
  refine ow_nwM hex (pc := 97) (kc := 26) (ks := 2135) (N := 7) (K := 52) e dX0_init_97 (by decide) (by decide) (by decide) (by decide) (by decide) (by decide) (by decide) (by decide) nm_X0_27 ?_
  obtain ⟨σ22, e, h⟩ := op_bd h
  refine ow_pRF (pc := 101) e dX0_init_101 fd_X0_45 rfl rfl (fun C T N h => by cases h; rfl) ?_
  refine aw_aload_n (pc := 104) 0 dX0_init_104 rfl ?_
  refine aw_iconst (pc := 105) (v := (4 : Int32)) dX0_init_105 (by decide) ?_
  refine aw_bipush (pc := 106) (v := (100 : Int32)) dX0_init_106 (by decide) ?_
  obtain ⟨r23, e, h⟩ := op_bd h
  refine ow_nwM hex (pc := 108) (kc := 21) (ks := 1731) (N := 4) (K := 100) e dX0_init_108 (by decide) (by decide) (by decide) (by decide) (by decide) (by decide) (by decide) (by decide) nm_X0_27 ?_
  obtain ⟨σ24, e, h⟩ := op_bd h
  refine ow_pRF (pc := 112) e dX0_init_112 fd_X0_48 rfl rfl (fun C T N h => by cases h; rfl) ?_
  refine aw_aload_n (pc := 115) 0 dX0_init_115 rfl ?_
  obtain ⟨r25, e, h⟩ := op_bd h
  refine ow_nwO hex (pc := 116) (kc := 20) (ks := 1722) (N := 9) e dX0_init_116 nw_X0_51 ?_
  refine aw_dup (pc := 119) dX0_init_119 rfl ?_
  refine aw_aload_n (pc := 120) 0 dX0_init_120 rfl ?_
  obtain ⟨v26, e, h⟩ := op_bd h
  refine ow_gR (pc := 121) e dX0_init_121 fd_X0_11 rfl ?_
  refine aw_aload_n (pc := 124) 1 dX0_init_124 rfl ?_
  obtain ⟨σ27, e, h⟩ := op_bd h
  refine ow_cI (pc := 125) (ka := 20) (kb := 1722) (kc := 0) (ks := 0) [.ref v26, .ref x1] ((c_X1_init hex _ _ _ _ _ e).mono (by decide)) rfl dX0_init_125 ci_X0_53 rfl (Nat.le_of_ble_eq_true rfl) ?_
  obtain ⟨σ28, e, h⟩ := op_bd h
  refine ow_pRF (pc := 128) e dX0_init_128 fd_X0_56 rfl rfl (fun C T N h => by cases h; rfl) ?_
  refine aw_aload_n (pc := 131) 0 dX0_init_131 rfl ?_
  refine aw_aload_n (pc := 132) 1 dX0_init_132 rfl ?_
  obtain ⟨r29, e, h⟩ := op_bd h
  refine ow_cVvK (pc := 133) [.ref x1] ((c_X0_serve _ _ _ _ e).mono (by decide)) (op_ck_sh e) rfl dX0_init_133 cw_X0_60 rfl (Nat.le_of_ble_eq_true rfl) ?_
  exact ow_vret (pc := 136) h dX0_init_136 rfl
theorem c_X0_init {G : ah_G} (hex : ah_ex G)   (x0 : Nat) (x1 : Nat) (σ : ah_H) (r : ah_H) (h : f_X0_init  x0 x1 σ = some r) : AM G m_X0_init 2 58 4232 [.ref x0, .ref x1] σ (ah_rv r) := aw_enter (by decide) (Nat.le_of_ble_eq_true rfl) (c_X0_init_0 hex _ _ _ _ (op_ck_k h))
def f_X0_isLess_0   (x0 : Int64) (x2 : Int64) (x4 : Int64) (x6 : Int64) (σ : ah_H) : Option (Int32 × ah_H) :=
  if (lg_cmp x0 x4) < 0 then ((op_rz (1 : Int32)).map fun q => (q, σ)) else (if (lg_cmp x0 x4) = 0 then (if 0 ≤ (lg_cmp x2 x6) then ((op_rz (0 : Int32)).map fun q => (q, σ)) else ((op_rz (1 : Int32)).map fun q => (q, σ))) else ((op_rz (0 : Int32)).map fun q => (q, σ)))
def f_X0_isLess  (x0 : Int64) (x2 : Int64) (x4 : Int64) (x6 : Int64) (σ : ah_H) : Option (Int32 × ah_H) := f_X0_isLess_0 x0 x2 x4 x6 σ
set_option maxRecDepth 100000 in
set_option maxHeartbeats 4000000 in
theorem c_X0_isLess_0 {G : ah_G}   : ∀ (x0 : Int64) (x2 : Int64) (x4 : Int64) (x6 : Int64) (σ : ah_H) (r : Int32 × ah_H), f_X0_isLess_0   x0 x2 x4 x6 σ = some r → AW G m_X0_isLess 0 0 0 0 [(0, .long x0), (2, .long x2), (4, .long x4), (6, .long x6)] [] σ (ah_N G (ah_ri r)) := by
  intro x0 x2 x4 x6 σ r h
  unfold f_X0_isLess_0 at h
  refine aw_lload_n (pc := 0) 0 dX0_isLess_0 rfl ?_
  refine aw_lload (pc := 1) 2 dX0_isLess_1 rfl ?_
  refine aw_lcmp (pc := 3) dX0_isLess_3 ?_
  refine aw_if_lt (pc := 4) 21 dX0_isLess_4 (by decide) (fun z => ?_) (fun z => ?_)
  · replace h := (if_pos z).symm.trans h
    refine aw_iconst (pc := 21) (v := (1 : Int32)) dX0_isLess_21 (by decide) ?_
    refine aw_goto (pc := 22) 26 dX0_isLess_22 (by decide) ?_
    exact ow_zret (pc := 26) h dX0_isLess_26 rfl
  · replace h := (if_neg z).symm.trans h
    refine aw_lload_n (pc := 7) 0 dX0_isLess_7 rfl ?_
    refine aw_lload (pc := 8) 2 dX0_isLess_8 rfl ?_
    refine aw_lcmp (pc := 10) dX0_isLess_10 ?_
    refine aw_if_ne (pc := 11) 25 dX0_isLess_11 (by decide) (fun z => ?_) (fun z => ?_)
    · replace h := (if_neg z).symm.trans h
      refine aw_iconst (pc := 25) (v := (0 : Int32)) dX0_isLess_25 (by decide) ?_
      exact ow_zret (pc := 26) h dX0_isLess_26 rfl
    · replace h := (if_pos z).symm.trans h
      refine aw_lload_n (pc := 14) 1 dX0_isLess_14 rfl ?_
      refine aw_lload (pc := 15) 3 dX0_isLess_15 rfl ?_
      refine aw_lcmp (pc := 17) dX0_isLess_17 ?_
      refine aw_if_ge (pc := 18) 25 dX0_isLess_18 (by decide) (fun z => ?_) (fun z => ?_)
      · replace h := (if_pos z).symm.trans h
        refine aw_iconst (pc := 25) (v := (0 : Int32)) dX0_isLess_25 (by decide) ?_
        exact ow_zret (pc := 26) h dX0_isLess_26 rfl
      · replace h := (if_neg z).symm.trans h
        refine aw_iconst (pc := 21) (v := (1 : Int32)) dX0_isLess_21 (by decide) ?_
        refine aw_goto (pc := 22) 26 dX0_isLess_22 (by decide) ?_
        exact ow_zret (pc := 26) h dX0_isLess_26 rfl
theorem c_X0_isLess {G : ah_G}   (x0 : Int64) (x2 : Int64) (x4 : Int64) (x6 : Int64) (σ : ah_H) (r : Int32 × ah_H) (h : f_X0_isLess  x0 x2 x4 x6 σ = some r) : AM G m_X0_isLess 0 0 0 [.long x0, .long x2, .long x4, .long x6] σ (ah_ri r) := aw_enter (by decide) (Nat.le_of_ble_eq_true rfl) (c_X0_isLess_0 _ _ _ _ _ _ h)
def f_X4_isTold_0   (x0 : Nat) (x1 : Int32) (σ : ah_H) : Option (Int32 × ah_H) :=
  (op_gR 4 5 σ x0).bind fun v1 => (op_aI σ v1 x1).bind fun v2 => (op_gR 4 4 σ x0).bind fun v3 => (op_aI σ v3 x1).bind fun v4 => if v2 ≤ v4 then ((op_rz (0 : Int32)).map fun q => (q, σ)) else ((op_rz (1 : Int32)).map fun q => (q, σ))
def f_X4_isTold  (x0 : Nat) (x1 : Int32) (σ : ah_H) : Option (Int32 × ah_H) := op_ck 4 σ x0 (f_X4_isTold_0 x0 x1 σ)
set_option maxRecDepth 100000 in
set_option maxHeartbeats 4000000 in
theorem c_X4_isTold_0 {G : ah_G}   : ∀ (x0 : Nat) (x1 : Int32) (σ : ah_H) (r : Int32 × ah_H), f_X4_isTold_0   x0 x1 σ = some r → AW G m_X4_isTold 0 0 0 0 [(0, .ref x0), (1, .int x1)] [] σ (ah_N G (ah_ri r)) := by
  intro x0 x1 σ r h
  unfold f_X4_isTold_0 at h
  refine aw_aload_n (pc := 0) 0 dX4_isTold_0 rfl ?_
  obtain ⟨v1, e, h⟩ := op_bd h
  refine ow_gR (pc := 1) e dX4_isTold_1 fd_X4_21 rfl ?_
  refine aw_iload_n (pc := 4) 1 dX4_isTold_4 rfl ?_
  obtain ⟨v2, e, h⟩ := op_bd h
  refine ow_aI (pc := 5) e dX4_isTold_5 ?_
  refine aw_aload_n (pc := 6) 0 dX4_isTold_6 rfl ?_
  obtain ⟨v3, e, h⟩ := op_bd h
  refine ow_gR (pc := 7) e dX4_isTold_7 fd_X4_18 rfl ?_
  refine aw_iload_n (pc := 10) 1 dX4_isTold_10 rfl ?_
  obtain ⟨v4, e, h⟩ := op_bd h
  refine ow_aI (pc := 11) e dX4_isTold_11 ?_
  refine aw_icmp_le (pc := 12) 19 dX4_isTold_12 (by decide) (fun z => ?_) (fun z => ?_)
  · replace h := (if_pos z).symm.trans h
    refine aw_iconst (pc := 19) (v := (0 : Int32)) dX4_isTold_19 (by decide) ?_
    exact ow_zret (pc := 20) h dX4_isTold_20 rfl
  · replace h := (if_neg z).symm.trans h
    refine aw_iconst (pc := 15) (v := (1 : Int32)) dX4_isTold_15 (by decide) ?_
    refine aw_goto (pc := 16) 20 dX4_isTold_16 (by decide) ?_
    exact ow_zret (pc := 20) h dX4_isTold_20 rfl
theorem c_X4_isTold {G : ah_G}   (x0 : Nat) (x1 : Int32) (σ : ah_H) (r : Int32 × ah_H) (h : f_X4_isTold  x0 x1 σ = some r) : AM G m_X4_isTold 0 0 0 [.ref x0, .int x1] σ (ah_ri r) := aw_enter (by decide) (Nat.le_of_ble_eq_true rfl) (c_X4_isTold_0 _ _ _ _ (op_ck_k h))
def f_X0_enter_145  (K57 : Nat → Int32 → Int32 → Int32 → ah_H → Option (ah_H)) (x0 : Nat) (x1 : Int32) (x2 : Int32) (x4 : Int32) (σ : ah_H) : Option (ah_H) :=
  K57 x0 x1 x2 (x4 + (1 : Int32)) σ
def f_X0_enter_57_b  (K57 : Nat → Int32 → Int32 → Int32 → ah_H → Option (ah_H)) (x0 : Nat) (x1 : Int32) (x2 : Int32) (x4 : Int32) (σ : ah_H) : Option (ah_H) :=
  (op_gR 0 17 σ x0).bind fun v1 => (op_gR 9 12 σ v1).bind fun v2 => (op_aI σ v2 (1 : Int32)).bind fun v3 => if v3 < x4 then (some σ) else ((op_gR 0 11 σ x0).bind fun v4 => (op_aL σ v4 ((x1 * (13 : Int32)) + x4)).bind fun v5 => (op_gR 0 13 σ x0).bind fun v6 => (op_aL σ v6 (x4 - x2)).bind fun v7 => (op_gR 0 11 σ x0).bind fun v8 => (op_aL σ v8 ((52 : Int32) + ((x1 * (13 : Int32)) + x4))).bind fun v9 => (op_gL 0 18 σ x0).bind fun v10 => (op_gL 0 19 σ x0).bind fun v11 => (f_X0_isLess (v5 + v7) v9 v10 v11 σ).bind fun r12 => if r12.1 = 0 then (f_X0_enter_145 K57 x0 x1 x2 x4 r12.2) else ((op_pL 0 18 r12.2 x0 (v5 + v7)).bind fun σ13 => (op_gR 0 11 σ13 x0).bind fun v14 => (op_aL σ13 v14 ((52 : Int32) + ((x1 * (13 : Int32)) + x4))).bind fun v15 => (op_pL 0 19 σ13 x0 v15).bind fun σ16 => f_X0_enter_145 K57 x0 x1 x2 x4 σ16))
def f_X0_enter_57   : Nat → Nat → Int32 → Int32 → Int32 → ah_H → Option (ah_H)
  | 0, _, _, _, _, _ => none
  | n + 1, x0, x1, x2, x4, σ => f_X0_enter_57_b (f_X0_enter_57 n) x0 x1 x2 x4 σ
def f_X0_enter_0   (x0 : Nat) (x1 : Int32) (x2 : Int32) (σ : ah_H) : Option (ah_H) :=
  (op_gR 0 12 σ x0).bind fun v1 => (op_aL σ v1 ((x1 * (13 : Int32)) + x2)).bind fun v2 => (op_pL 0 18 σ x0 v2).bind fun σ3 => (op_gR 0 12 σ3 x0).bind fun v4 => (op_aL σ3 v4 ((52 : Int32) + ((x1 * (13 : Int32)) + x2))).bind fun v5 => (op_pL 0 19 σ3 x0 v5).bind fun σ6 => (op_gI 0 8 σ6 x0).bind fun v7 => if v7 = 0 then (some σ6) else ((op_gR 0 17 σ6 x0).bind fun v8 => (op_gR 9 15 σ6 v8).bind fun v9 => (f_X4_isTold v9 (2 : Int32) σ6).bind fun r10 => if r10.1 = 0 then (some r10.2) else (f_X0_enter_57 5000 x0 x1 x2 (x2 + (1 : Int32)) r10.2))
def f_X0_enter  (x0 : Nat) (x1 : Int32) (x2 : Int32) (σ : ah_H) : Option (ah_H) := op_ck 0 σ x0 (f_X0_enter_0 x0 x1 x2 σ)
set_option maxRecDepth 100000 in
set_option maxHeartbeats 4000000 in
theorem c_X0_enter_145 {G : ah_G}  (K57 : Nat → Int32 → Int32 → Int32 → ah_H → Option (ah_H)) (hK57 : ∀ (x0 : Nat) (x1 : Int32) (x2 : Int32) (x4 : Int32) (σ : ah_H) (r : ah_H), K57 x0 x1 x2 x4 σ = some r → AW G m_X0_enter 1 0 0 57 [(0, .ref x0), (1, .int x1), (2, .int x2), (4, .int x4)] [] σ (ah_N G (ah_rv r))) : ∀ (x0 : Nat) (x1 : Int32) (x2 : Int32) (x4 : Int32) (σ : ah_H) (r : ah_H), f_X0_enter_145  K57 x0 x1 x2 x4 σ = some r → AW G m_X0_enter 1 0 0 145 [(0, .ref x0), (1, .int x1), (2, .int x2), (4, .int x4)] [] σ (ah_N G (ah_rv r)) := by
  intro x0 x1 x2 x4 σ r h
  unfold f_X0_enter_145 at h
  refine aw_iinc (pc := 145) 3 [(4, .int (x4 + (1 : Int32))), (0, .ref x0), (1, .int x1), (2, .int x2)] (x4 + (1 : Int32)) dX0_enter_145 rfl rfl (by decide) rfl ?_
  refine aw_goto (pc := 148) 57 dX0_enter_148 (by decide) ?_
  refine aw_sub [1, 2, 3, 0] rfl ?_
  exact hK57 _ _ _ _ _ _ h
set_option maxRecDepth 100000 in
set_option maxHeartbeats 4000000 in
theorem c_X0_enter_57_b {G : ah_G}  (K57 : Nat → Int32 → Int32 → Int32 → ah_H → Option (ah_H)) (hK57 : ∀ (x0 : Nat) (x1 : Int32) (x2 : Int32) (x4 : Int32) (σ : ah_H) (r : ah_H), K57 x0 x1 x2 x4 σ = some r → AW G m_X0_enter 1 0 0 57 [(0, .ref x0), (1, .int x1), (2, .int x2), (4, .int x4)] [] σ (ah_N G (ah_rv r))) : ∀ (x0 : Nat) (x1 : Int32) (x2 : Int32) (x4 : Int32) (σ : ah_H) (r : ah_H), f_X0_enter_57_b  K57 x0 x1 x2 x4 σ = some r → AW G m_X0_enter 1 0 0 57 [(0, .ref x0), (1, .int x1), (2, .int x2), (4, .int x4)] [] σ (ah_N G (ah_rv r)) := by
  intro x0 x1 x2 x4 σ r h
  unfold f_X0_enter_57_b at h
  refine aw_iload (pc := 57) 3 dX0_enter_57 rfl ?_
  refine aw_aload_n (pc := 59) 0 dX0_enter_59 rfl ?_
  obtain ⟨v1, e, h⟩ := op_bd h
  refine ow_gR (pc := 60) e dX0_enter_60 fd_X0_64 rfl ?_
  obtain ⟨v2, e, h⟩ := op_bd h
  refine ow_gR (pc := 63) e dX0_enter_63 fd_X0_142 rfl ?_
  refine aw_iconst (pc := 66) (v := (1 : Int32)) dX0_enter_66 (by decide) ?_
  obtain ⟨v3, e, h⟩ := op_bd h
  refine ow_aI (pc := 67) e dX0_enter_67 ?_
  refine aw_icmp_gt (pc := 68) 151 dX0_enter_68 (by decide) (fun z => ?_) (fun z => ?_)
  · replace h := (if_pos z).symm.trans h
    exact ow_vret (pc := 151) h dX0_enter_151 rfl
  · replace h := (if_neg z).symm.trans h
    refine aw_iload_n (pc := 71) 1 dX0_enter_71 rfl ?_
    refine aw_bipush (pc := 72) (v := (13 : Int32)) dX0_enter_72 (by decide) ?_
    refine aw_imul (pc := 74) dX0_enter_74 ?_
    refine aw_iload (pc := 75) 3 dX0_enter_75 rfl ?_
    refine aw_iadd (pc := 77) dX0_enter_77 ?_
    refine aw_istore (pc := 78) [(5, .int ((x1 * (13 : Int32)) + x4)), (0, .ref x0), (1, .int x1), (2, .int x2), (4, .int x4)] dX0_enter_78 (by decide) rfl ?_
    refine aw_aload_n (pc := 80) 1 dX0_enter_80 rfl ?_
    obtain ⟨v4, e, h⟩ := op_bd h
    refine ow_gR (pc := 81) e dX0_enter_81 fd_X0_35 rfl ?_
    refine aw_iload (pc := 84) 0 dX0_enter_84 rfl ?_
    obtain ⟨v5, e, h⟩ := op_bd h
    refine ow_aL (pc := 86) e dX0_enter_86 ?_
    refine aw_aload_n (pc := 87) 1 dX0_enter_87 rfl ?_
    obtain ⟨v6, e, h⟩ := op_bd h
    refine ow_gR (pc := 88) e dX0_enter_88 fd_X0_42 rfl ?_
    refine aw_iload (pc := 91) 4 dX0_enter_91 rfl ?_
    refine aw_iload_n (pc := 93) 3 dX0_enter_93 rfl ?_
    refine aw_isub (pc := 94) dX0_enter_94 ?_
    obtain ⟨v7, e, h⟩ := op_bd h
    refine ow_aL (pc := 95) e dX0_enter_95 ?_
    refine aw_ladd (pc := 96) dX0_enter_96 ?_
    refine aw_lstore (pc := 97) [(6, .long (v5 + v7)), (5, .int ((x1 * (13 : Int32)) + x4)), (0, .ref x0), (1, .int x1), (2, .int x2), (4, .int x4)] dX0_enter_97 (by decide) rfl ?_
    refine aw_lload (pc := 99) 0 dX0_enter_99 rfl ?_
    refine aw_aload_n (pc := 101) 2 dX0_enter_101 rfl ?_
    obtain ⟨v8, e, h⟩ := op_bd h
    refine ow_gR (pc := 102) e dX0_enter_102 fd_X0_35 rfl ?_
    refine aw_bipush (pc := 105) (v := (52 : Int32)) dX0_enter_105 (by decide) ?_
    refine aw_iload (pc := 107) 1 dX0_enter_107 rfl ?_
    refine aw_iadd (pc := 109) dX0_enter_109 ?_
    obtain ⟨v9, e, h⟩ := op_bd h
    refine ow_aL (pc := 110) e dX0_enter_110 ?_
    refine aw_aload_n (pc := 111) 2 dX0_enter_111 rfl ?_
    obtain ⟨v10, e, h⟩ := op_bd h
    refine ow_gL (pc := 112) e dX0_enter_112 fd_X0_187 ?_
    refine aw_aload_n (pc := 115) 2 dX0_enter_115 rfl ?_
    obtain ⟨v11, e, h⟩ := op_bd h
    refine ow_gL (pc := 116) e dX0_enter_116 fd_X0_208 ?_
    obtain ⟨r12, e, h⟩ := op_bd h
    refine ow_cSi (pc := 119) [.long (v5 + v7), .long v9, .long v10, .long v11] ((c_X0_isLess _ _ _ _ _ _ e).mono (by decide)) rfl dX0_enter_119 cw_X0_198 rfl (Nat.le_of_ble_eq_true rfl) ?_
    refine aw_if_eq (pc := 122) 145 dX0_enter_122 (by decide) (fun z => ?_) (fun z => ?_)
    · replace h := (if_pos z).symm.trans h
      refine aw_sub [2, 3, 4, 5] rfl ?_
      exact c_X0_enter_145 K57 hK57 _ _ _ _ _ _ h
    · replace h := (if_neg z).symm.trans h
      refine aw_aload_n (pc := 125) 2 dX0_enter_125 rfl ?_
      refine aw_lload (pc := 126) 0 dX0_enter_126 rfl ?_
      obtain ⟨σ13, e, h⟩ := op_bd h
      refine ow_pL (pc := 128) e dX0_enter_128 fd_X0_187 ?_
      refine aw_aload_n (pc := 131) 2 dX0_enter_131 rfl ?_
      refine aw_aload_n (pc := 132) 2 dX0_enter_132 rfl ?_
      obtain ⟨v14, e, h⟩ := op_bd h
      refine ow_gR (pc := 133) e dX0_enter_133 fd_X0_35 rfl ?_
      refine aw_bipush (pc := 136) (v := (52 : Int32)) dX0_enter_136 (by decide) ?_
      refine aw_iload (pc := 138) 1 dX0_enter_138 rfl ?_
      refine aw_iadd (pc := 140) dX0_enter_140 ?_
      obtain ⟨v15, e, h⟩ := op_bd h
      refine ow_aL (pc := 141) e dX0_enter_141 ?_
      obtain ⟨σ16, e, h⟩ := op_bd h
      refine ow_pL (pc := 142) e dX0_enter_142 fd_X0_208 ?_
      refine aw_sub [2, 3, 4, 5] rfl ?_
      exact c_X0_enter_145 K57 hK57 _ _ _ _ _ _ h
theorem c_X0_enter_57 {G : ah_G}   : ∀ (n : Nat) (x0 : Nat) (x1 : Int32) (x2 : Int32) (x4 : Int32) (σ : ah_H) (r : ah_H), f_X0_enter_57   n x0 x1 x2 x4 σ = some r → AW G m_X0_enter 1 0 0 57 [(0, .ref x0), (1, .int x1), (2, .int x2), (4, .int x4)] [] σ (ah_N G (ah_rv r)) := by
  intro n
  induction n with
  | zero => intro x0 x1 x2 x4 σ r h; cases h
  | succ n ih => intro x0 x1 x2 x4 σ r h; exact c_X0_enter_57_b   _ ih x0 x1 x2 x4 σ r h
set_option maxRecDepth 100000 in
set_option maxHeartbeats 4000000 in
theorem c_X0_enter_0 {G : ah_G}   : ∀ (x0 : Nat) (x1 : Int32) (x2 : Int32) (σ : ah_H) (r : ah_H), f_X0_enter_0   x0 x1 x2 σ = some r → AW G m_X0_enter 1 0 0 0 [(0, .ref x0), (1, .int x1), (2, .int x2)] [] σ (ah_N G (ah_rv r)) := by
  intro x0 x1 x2 σ r h
  unfold f_X0_enter_0 at h
  refine aw_iload_n (pc := 0) 1 dX0_enter_0 rfl ?_
  refine aw_bipush (pc := 1) (v := (13 : Int32)) dX0_enter_1 (by decide) ?_
  refine aw_imul (pc := 3) dX0_enter_3 ?_
  refine aw_iload_n (pc := 4) 2 dX0_enter_4 rfl ?_
  refine aw_iadd (pc := 5) dX0_enter_5 ?_
  refine aw_istore_n (pc := 6) [(3, .int ((x1 * (13 : Int32)) + x2)), (0, .ref x0), (1, .int x1), (2, .int x2)] dX0_enter_6 rfl (by decide) rfl ?_
  refine aw_aload_n (pc := 7) 1 dX0_enter_7 rfl ?_
  refine aw_aload_n (pc := 8) 1 dX0_enter_8 rfl ?_
  obtain ⟨v1, e, h⟩ := op_bd h
  refine ow_gR (pc := 9) e dX0_enter_9 fd_X0_39 rfl ?_
  refine aw_iload_n (pc := 12) 0 dX0_enter_12 rfl ?_
  obtain ⟨v2, e, h⟩ := op_bd h
  refine ow_aL (pc := 13) e dX0_enter_13 ?_
  obtain ⟨σ3, e, h⟩ := op_bd h
  refine ow_pL (pc := 14) e dX0_enter_14 fd_X0_187 ?_
  refine aw_aload_n (pc := 17) 1 dX0_enter_17 rfl ?_
  refine aw_aload_n (pc := 18) 1 dX0_enter_18 rfl ?_
  obtain ⟨v4, e, h⟩ := op_bd h
  refine ow_gR (pc := 19) e dX0_enter_19 fd_X0_39 rfl ?_
  refine aw_bipush (pc := 22) (v := (52 : Int32)) dX0_enter_22 (by decide) ?_
  refine aw_iload_n (pc := 24) 0 dX0_enter_24 rfl ?_
  refine aw_iadd (pc := 25) dX0_enter_25 ?_
  obtain ⟨v5, e, h⟩ := op_bd h
  refine ow_aL (pc := 26) e dX0_enter_26 ?_
  obtain ⟨σ6, e, h⟩ := op_bd h
  refine ow_pL (pc := 27) e dX0_enter_27 fd_X0_208 ?_
  refine aw_aload_n (pc := 30) 1 dX0_enter_30 rfl ?_
  obtain ⟨v7, e, h⟩ := op_bd h
  refine ow_gI (pc := 31) e dX0_enter_31 fd_X0_163 rfl ?_
  refine aw_if_eq (pc := 34) 51 dX0_enter_34 (by decide) (fun z => ?_) (fun z => ?_)
  · replace h := (if_pos z).symm.trans h
    exact ow_vret (pc := 51) h dX0_enter_51 rfl
  · replace h := (if_neg z).symm.trans h
    refine aw_aload_n (pc := 37) 1 dX0_enter_37 rfl ?_
    obtain ⟨v8, e, h⟩ := op_bd h
    refine ow_gR (pc := 38) e dX0_enter_38 fd_X0_64 rfl ?_
    obtain ⟨v9, e, h⟩ := op_bd h
    refine ow_gR (pc := 41) e dX0_enter_41 fd_X0_129 rfl ?_
    refine aw_iconst (pc := 44) (v := (2 : Int32)) dX0_enter_44 (by decide) ?_
    obtain ⟨r10, e, h⟩ := op_bd h
    refine ow_cVi (pc := 45) [.int (2 : Int32)] ((c_X4_isTold _ _ _ _ e).mono (by decide)) (op_ck_sh e) rfl dX0_enter_45 cw_X0_211 rfl (Nat.le_of_ble_eq_true rfl) ?_
    refine aw_if_ne (pc := 48) 52 dX0_enter_48 (by decide) (fun z => ?_) (fun z => ?_)
    · replace h := (if_neg z).symm.trans h
      refine aw_iload_n (pc := 52) 3 dX0_enter_52 rfl ?_
      refine aw_iconst (pc := 53) (v := (1 : Int32)) dX0_enter_53 (by decide) ?_
      refine aw_iadd (pc := 54) dX0_enter_54 ?_
      refine aw_istore (pc := 55) [(4, .int (x2 + (1 : Int32))), (3, .int ((x1 * (13 : Int32)) + x2)), (0, .ref x0), (1, .int x1), (2, .int x2)] dX0_enter_55 (by decide) rfl ?_
      refine aw_sub [2, 3, 4, 0] rfl ?_
      exact c_X0_enter_57  _ _ _ _ _ _ _ h
    · replace h := (if_pos z).symm.trans h
      exact ow_vret (pc := 51) h dX0_enter_51 rfl
theorem c_X0_enter {G : ah_G}   (x0 : Nat) (x1 : Int32) (x2 : Int32) (σ : ah_H) (r : ah_H) (h : f_X0_enter  x0 x1 x2 σ = some r) : AM G m_X0_enter 1 0 0 [.ref x0, .int x1, .int x2] σ (ah_rv r) := aw_enter (by decide) (Nat.le_of_ble_eq_true rfl) (c_X0_enter_0 _ _ _ _ _ (op_ck_k h))
def f_X0_joinBranches_163  (K22 : Nat → Int32 → Int32 → Int64 → Int64 → Int64 → Int64 → Int64 → Int64 → Int32 → ah_H → Option (ah_H)) (x0 : Nat) (x1 : Int32) (x2 : Int32) (x3 : Int64) (x5 : Int64) (x7 : Int64) (x11 : Int64) (x13 : Int64) (x15 : Int32) (x16 : Nat) (s0 : Int64) (s1 : Int64) (σ : ah_H) : Option (ah_H) :=
  (op_aL σ x16 x1).bind fun v1 => (op_aL σ x16 ((52 : Int32) + x1)).bind fun v2 => K22 x0 x1 x2 (x3 + v1) (x5 + v2) x7 (s0 + s1) x11 x13 (x15 + (1 : Int32)) σ
def f_X0_joinBranches_141  (K22 : Nat → Int32 → Int32 → Int64 → Int64 → Int64 → Int64 → Int64 → Int64 → Int32 → ah_H → Option (ah_H)) (x0 : Nat) (x1 : Int32) (x2 : Int32) (x3 : Int64) (x5 : Int64) (x9 : Int64) (x11 : Int64) (x13 : Int64) (x15 : Int32) (x16 : Nat) (s0 : Int64) (s1 : Int64) (σ : ah_H) : Option (ah_H) :=
  if x2 = 0 then (f_X0_joinBranches_163 K22 x0 x1 x2 x3 x5 (s0 + s1) x11 x13 x15 x16 x9 (0 : Int64) σ) else ((op_aL σ x16 (((52 : Int32) + x1) - (1 : Int32))).bind fun v1 => f_X0_joinBranches_163 K22 x0 x1 x2 x3 x5 (s0 + s1) x11 x13 x15 x16 x9 v1 σ)
def f_X0_joinBranches_123  (K22 : Nat → Int32 → Int32 → Int64 → Int64 → Int64 → Int64 → Int64 → Int64 → Int32 → ah_H → Option (ah_H)) (x0 : Nat) (x1 : Int32) (x2 : Int32) (x3 : Int64) (x5 : Int64) (x7 : Int64) (x9 : Int64) (x11 : Int64) (x13 : Int64) (x15 : Int32) (x16 : Nat) (σ : ah_H) : Option (ah_H) :=
  if x2 = 0 then (f_X0_joinBranches_141 K22 x0 x1 x2 x3 x5 x9 x11 x13 x15 x16 x7 (100000000000000000 : Int64) σ) else ((op_aL σ x16 (x1 - (1 : Int32))).bind fun v1 => f_X0_joinBranches_141 K22 x0 x1 x2 x3 x5 x9 x11 x13 x15 x16 x7 v1 σ)
def f_X0_joinBranches_191   (x0 : Nat) (x1 : Int32) (x3 : Int64) (x5 : Int64) (x11 : Int64) (x13 : Int64) (σ : ah_H) : Option (ah_H) :=
  (op_gR 0 12 σ x0).bind fun v1 => (op_sL σ v1 x1 (op_minl (100000000000000000 : Int64) x3)).bind fun σ2 => (op_gR 0 12 σ2 x0).bind fun v3 => (op_sL σ2 v3 ((52 : Int32) + x1) x5).bind fun σ4 => (op_gR 0 11 σ4 x0).bind fun v5 => (op_sL σ4 v5 x1 (op_minl (100000000000000000 : Int64) x11)).bind fun σ6 => (op_gR 0 11 σ6 x0).bind fun v7 => (op_sL σ6 v7 ((52 : Int32) + x1) x13).bind fun σ8 => some σ8
def f_X0_joinBranches_22_b  (K22 : Nat → Int32 → Int32 → Int64 → Int64 → Int64 → Int64 → Int64 → Int64 → Int32 → ah_H → Option (ah_H)) (x0 : Nat) (x1 : Int32) (x2 : Int32) (x3 : Int64) (x5 : Int64) (x7 : Int64) (x9 : Int64) (x11 : Int64) (x13 : Int64) (x15 : Int32) (σ : ah_H) : Option (ah_H) :=
  (op_gI 0 8 σ x0).bind fun v1 => if v1 ≤ x15 then (f_X0_joinBranches_191 x0 x1 x3 x5 x11 x13 σ) else ((op_gR 0 10 σ x0).bind fun v2 => (op_gR 0 7 σ x0).bind fun v3 => (op_aI σ v3 x15).bind fun v4 => (op_aR .long σ v2 v4).bind fun v5 => (op_gR 0 9 σ x0).bind fun v6 => (op_gR 0 7 σ x0).bind fun v7 => (op_aI σ v7 x15).bind fun v8 => (op_aR .long σ v6 v8).bind fun v9 => (op_aL σ v5 x1).bind fun v10 => (op_aL σ v5 ((52 : Int32) + x1)).bind fun v11 => (op_aL σ v9 x1).bind fun v12 => (op_aL σ v9 ((52 : Int32) + x1)).bind fun v13 => (f_X0_isLess (x11 + v10) (x13 + v11) (x7 + v12) (x9 + v13) σ).bind fun r14 => if r14.1 = 0 then (f_X0_joinBranches_123 K22 x0 x1 x2 x3 x5 x7 x9 (x7 + v12) (x9 + v13) x15 v5 r14.2) else (f_X0_joinBranches_123 K22 x0 x1 x2 x3 x5 x7 x9 (x11 + v10) (x13 + v11) x15 v5 r14.2))
def f_X0_joinBranches_22   : Nat → Nat → Int32 → Int32 → Int64 → Int64 → Int64 → Int64 → Int64 → Int64 → Int32 → ah_H → Option (ah_H)
  | 0, _, _, _, _, _, _, _, _, _, _, _ => none
  | n + 1, x0, x1, x2, x3, x5, x7, x9, x11, x13, x15, σ => f_X0_joinBranches_22_b (f_X0_joinBranches_22 n) x0 x1 x2 x3 x5 x7 x9 x11 x13 x15 σ
def f_X0_joinBranches_0   (x0 : Nat) (x1 : Int32) (x2 : Int32) (σ : ah_H) : Option (ah_H) :=
  f_X0_joinBranches_22 5000 x0 x1 x2 (0 : Int64) (0 : Int64) (0 : Int64) (0 : Int64) (100000000000000000 : Int64) (0 : Int64) (0 : Int32) σ
def f_X0_joinBranches  (x0 : Nat) (x1 : Int32) (x2 : Int32) (σ : ah_H) : Option (ah_H) := op_ck 0 σ x0 (f_X0_joinBranches_0 x0 x1 x2 σ)
set_option maxRecDepth 100000 in
set_option maxHeartbeats 4000000 in
theorem c_X0_joinBranches_163 {G : ah_G}  (K22 : Nat → Int32 → Int32 → Int64 → Int64 → Int64 → Int64 → Int64 → Int64 → Int32 → ah_H → Option (ah_H)) (hK22 : ∀ (x0 : Nat) (x1 : Int32) (x2 : Int32) (x3 : Int64) (x5 : Int64) (x7 : Int64) (x9 : Int64) (x11 : Int64) (x13 : Int64) (x15 : Int32) (σ : ah_H) (r : ah_H), K22 x0 x1 x2 x3 x5 x7 x9 x11 x13 x15 σ = some r → AW G m_X0_joinBranches 1 0 0 22 [(0, .ref x0), (1, .int x1), (2, .int x2), (3, .long x3), (5, .long x5), (7, .long x7), (9, .long x9), (11, .long x11), (13, .long x13), (15, .int x15)] [] σ (ah_N G (ah_rv r))) : ∀ (x0 : Nat) (x1 : Int32) (x2 : Int32) (x3 : Int64) (x5 : Int64) (x7 : Int64) (x11 : Int64) (x13 : Int64) (x15 : Int32) (x16 : Nat) (s0 : Int64) (s1 : Int64) (σ : ah_H) (r : ah_H), f_X0_joinBranches_163  K22 x0 x1 x2 x3 x5 x7 x11 x13 x15 x16 s0 s1 σ = some r → AW G m_X0_joinBranches 1 0 0 163 [(0, .ref x0), (1, .int x1), (2, .int x2), (3, .long x3), (5, .long x5), (7, .long x7), (11, .long x11), (13, .long x13), (15, .int x15), (16, .ref x16)] [.long s1, .long s0] σ (ah_N G (ah_rv r)) := by
  intro x0 x1 x2 x3 x5 x7 x11 x13 x15 x16 s0 s1 σ r h
  unfold f_X0_joinBranches_163 at h
  refine aw_ladd (pc := 163) dX0_joinBranches_163 ?_
  refine aw_lstore (pc := 164) [(9, .long (s0 + s1)), (0, .ref x0), (1, .int x1), (2, .int x2), (3, .long x3), (5, .long x5), (7, .long x7), (11, .long x11), (13, .long x13), (15, .int x15), (16, .ref x16)] dX0_joinBranches_164 (by decide) rfl ?_
  refine aw_lload_n (pc := 166) 4 dX0_joinBranches_166 rfl ?_
  refine aw_aload (pc := 167) 10 dX0_joinBranches_167 rfl ?_
  refine aw_iload_n (pc := 169) 2 dX0_joinBranches_169 rfl ?_
  obtain ⟨v1, e, h⟩ := op_bd h
  refine ow_aL (pc := 170) e dX0_joinBranches_170 ?_
  refine aw_ladd (pc := 171) dX0_joinBranches_171 ?_
  refine aw_lstore_n (pc := 172) [(3, .long (x3 + v1)), (9, .long (s0 + s1)), (0, .ref x0), (1, .int x1), (2, .int x2), (5, .long x5), (7, .long x7), (11, .long x11), (13, .long x13), (15, .int x15), (16, .ref x16)] dX0_joinBranches_172 rfl (by decide) rfl ?_
  refine aw_lload (pc := 173) 5 dX0_joinBranches_173 rfl ?_
  refine aw_aload (pc := 175) 10 dX0_joinBranches_175 rfl ?_
  refine aw_bipush (pc := 177) (v := (52 : Int32)) dX0_joinBranches_177 (by decide) ?_
  refine aw_iload_n (pc := 179) 3 dX0_joinBranches_179 rfl ?_
  refine aw_iadd (pc := 180) dX0_joinBranches_180 ?_
  obtain ⟨v2, e, h⟩ := op_bd h
  refine ow_aL (pc := 181) e dX0_joinBranches_181 ?_
  refine aw_ladd (pc := 182) dX0_joinBranches_182 ?_
  refine aw_lstore (pc := 183) [(5, .long (x5 + v2)), (3, .long (x3 + v1)), (9, .long (s0 + s1)), (0, .ref x0), (1, .int x1), (2, .int x2), (7, .long x7), (11, .long x11), (13, .long x13), (15, .int x15), (16, .ref x16)] dX0_joinBranches_183 (by decide) rfl ?_
  refine aw_iinc (pc := 185) 9 [(15, .int (x15 + (1 : Int32))), (5, .long (x5 + v2)), (3, .long (x3 + v1)), (9, .long (s0 + s1)), (0, .ref x0), (1, .int x1), (2, .int x2), (7, .long x7), (11, .long x11), (13, .long x13), (16, .ref x16)] (x15 + (1 : Int32)) dX0_joinBranches_185 rfl rfl (by decide) rfl ?_
  refine aw_goto (pc := 188) 22 dX0_joinBranches_188 (by decide) ?_
  refine aw_sub [4, 5, 6, 2, 1, 7, 3, 8, 9, 0] rfl ?_
  exact hK22 _ _ _ _ _ _ _ _ _ _ _ _ h
set_option maxRecDepth 100000 in
set_option maxHeartbeats 4000000 in
theorem c_X0_joinBranches_141 {G : ah_G}  (K22 : Nat → Int32 → Int32 → Int64 → Int64 → Int64 → Int64 → Int64 → Int64 → Int32 → ah_H → Option (ah_H)) (hK22 : ∀ (x0 : Nat) (x1 : Int32) (x2 : Int32) (x3 : Int64) (x5 : Int64) (x7 : Int64) (x9 : Int64) (x11 : Int64) (x13 : Int64) (x15 : Int32) (σ : ah_H) (r : ah_H), K22 x0 x1 x2 x3 x5 x7 x9 x11 x13 x15 σ = some r → AW G m_X0_joinBranches 1 0 0 22 [(0, .ref x0), (1, .int x1), (2, .int x2), (3, .long x3), (5, .long x5), (7, .long x7), (9, .long x9), (11, .long x11), (13, .long x13), (15, .int x15)] [] σ (ah_N G (ah_rv r))) : ∀ (x0 : Nat) (x1 : Int32) (x2 : Int32) (x3 : Int64) (x5 : Int64) (x9 : Int64) (x11 : Int64) (x13 : Int64) (x15 : Int32) (x16 : Nat) (s0 : Int64) (s1 : Int64) (σ : ah_H) (r : ah_H), f_X0_joinBranches_141  K22 x0 x1 x2 x3 x5 x9 x11 x13 x15 x16 s0 s1 σ = some r → AW G m_X0_joinBranches 1 0 0 141 [(0, .ref x0), (1, .int x1), (2, .int x2), (3, .long x3), (5, .long x5), (9, .long x9), (11, .long x11), (13, .long x13), (15, .int x15), (16, .ref x16)] [.long s1, .long s0] σ (ah_N G (ah_rv r)) := by
  intro x0 x1 x2 x3 x5 x9 x11 x13 x15 x16 s0 s1 σ r h
  unfold f_X0_joinBranches_141 at h
  refine aw_ladd (pc := 141) dX0_joinBranches_141 ?_
  refine aw_lstore (pc := 142) [(7, .long (s0 + s1)), (0, .ref x0), (1, .int x1), (2, .int x2), (3, .long x3), (5, .long x5), (9, .long x9), (11, .long x11), (13, .long x13), (15, .int x15), (16, .ref x16)] dX0_joinBranches_142 (by decide) rfl ?_
  refine aw_lload (pc := 144) 6 dX0_joinBranches_144 rfl ?_
  refine aw_iload_n (pc := 146) 3 dX0_joinBranches_146 rfl ?_
  refine aw_if_eq (pc := 147) 162 dX0_joinBranches_147 (by decide) (fun z => ?_) (fun z => ?_)
  · replace h := (if_pos z).symm.trans h
    refine aw_lconst (pc := 162) (v := (0 : Int64)) dX0_joinBranches_162 (by decide) ?_
    refine aw_sub [1, 2, 3, 4, 5, 0, 7, 8, 9, 10] rfl ?_
    exact c_X0_joinBranches_163 K22 hK22 _ _ _ _ _ _ _ _ _ _ _ _ _ _ h
  · replace h := (if_neg z).symm.trans h
    refine aw_aload (pc := 150) 10 dX0_joinBranches_150 rfl ?_
    refine aw_bipush (pc := 152) (v := (52 : Int32)) dX0_joinBranches_152 (by decide) ?_
    refine aw_iload_n (pc := 154) 2 dX0_joinBranches_154 rfl ?_
    refine aw_iadd (pc := 155) dX0_joinBranches_155 ?_
    refine aw_iconst (pc := 156) (v := (1 : Int32)) dX0_joinBranches_156 (by decide) ?_
    refine aw_isub (pc := 157) dX0_joinBranches_157 ?_
    obtain ⟨v1, e, h⟩ := op_bd h
    refine ow_aL (pc := 158) e dX0_joinBranches_158 ?_
    refine aw_goto (pc := 159) 163 dX0_joinBranches_159 (by decide) ?_
    refine aw_sub [1, 2, 3, 4, 5, 0, 7, 8, 9, 10] rfl ?_
    exact c_X0_joinBranches_163 K22 hK22 _ _ _ _ _ _ _ _ _ _ _ _ _ _ h
set_option maxRecDepth 100000 in
set_option maxHeartbeats 4000000 in
theorem c_X0_joinBranches_123 {G : ah_G}  (K22 : Nat → Int32 → Int32 → Int64 → Int64 → Int64 → Int64 → Int64 → Int64 → Int32 → ah_H → Option (ah_H)) (hK22 : ∀ (x0 : Nat) (x1 : Int32) (x2 : Int32) (x3 : Int64) (x5 : Int64) (x7 : Int64) (x9 : Int64) (x11 : Int64) (x13 : Int64) (x15 : Int32) (σ : ah_H) (r : ah_H), K22 x0 x1 x2 x3 x5 x7 x9 x11 x13 x15 σ = some r → AW G m_X0_joinBranches 1 0 0 22 [(0, .ref x0), (1, .int x1), (2, .int x2), (3, .long x3), (5, .long x5), (7, .long x7), (9, .long x9), (11, .long x11), (13, .long x13), (15, .int x15)] [] σ (ah_N G (ah_rv r))) : ∀ (x0 : Nat) (x1 : Int32) (x2 : Int32) (x3 : Int64) (x5 : Int64) (x7 : Int64) (x9 : Int64) (x11 : Int64) (x13 : Int64) (x15 : Int32) (x16 : Nat) (σ : ah_H) (r : ah_H), f_X0_joinBranches_123  K22 x0 x1 x2 x3 x5 x7 x9 x11 x13 x15 x16 σ = some r → AW G m_X0_joinBranches 1 0 0 123 [(0, .ref x0), (1, .int x1), (2, .int x2), (3, .long x3), (5, .long x5), (7, .long x7), (9, .long x9), (11, .long x11), (13, .long x13), (15, .int x15), (16, .ref x16)] [] σ (ah_N G (ah_rv r)) := by
  intro x0 x1 x2 x3 x5 x7 x9 x11 x13 x15 x16 σ r h
  unfold f_X0_joinBranches_123 at h
  refine aw_lload (pc := 123) 5 dX0_joinBranches_123 rfl ?_
  refine aw_iload_n (pc := 125) 2 dX0_joinBranches_125 rfl ?_
  refine aw_if_eq (pc := 126) 138 dX0_joinBranches_126 (by decide) (fun z => ?_) (fun z => ?_)
  · replace h := (if_pos z).symm.trans h
    refine aw_ldc2 (pc := 138) dX0_joinBranches_138 kl_X0_174 ?_
    refine aw_sub [0, 1, 2, 3, 4, 6, 7, 8, 9, 10] rfl ?_
    exact c_X0_joinBranches_141 K22 hK22 _ _ _ _ _ _ _ _ _ _ _ _ _ _ h
  · replace h := (if_neg z).symm.trans h
    refine aw_aload (pc := 129) 10 dX0_joinBranches_129 rfl ?_
    refine aw_iload_n (pc := 131) 1 dX0_joinBranches_131 rfl ?_
    refine aw_iconst (pc := 132) (v := (1 : Int32)) dX0_joinBranches_132 (by decide) ?_
    refine aw_isub (pc := 133) dX0_joinBranches_133 ?_
    obtain ⟨v1, e, h⟩ := op_bd h
    refine ow_aL (pc := 134) e dX0_joinBranches_134 ?_
    refine aw_goto (pc := 135) 141 dX0_joinBranches_135 (by decide) ?_
    refine aw_sub [0, 1, 2, 3, 4, 6, 7, 8, 9, 10] rfl ?_
    exact c_X0_joinBranches_141 K22 hK22 _ _ _ _ _ _ _ _ _ _ _ _ _ _ h
set_option maxRecDepth 100000 in
set_option maxHeartbeats 4000000 in
theorem c_X0_joinBranches_191 {G : ah_G}   : ∀ (x0 : Nat) (x1 : Int32) (x3 : Int64) (x5 : Int64) (x11 : Int64) (x13 : Int64) (σ : ah_H) (r : ah_H), f_X0_joinBranches_191   x0 x1 x3 x5 x11 x13 σ = some r → AW G m_X0_joinBranches 1 0 0 191 [(0, .ref x0), (1, .int x1), (3, .long x3), (5, .long x5), (11, .long x11), (13, .long x13)] [] σ (ah_N G (ah_rv r)) := by
  intro x0 x1 x3 x5 x11 x13 σ r h
  unfold f_X0_joinBranches_191 at h
  refine aw_aload_n (pc := 191) 0 dX0_joinBranches_191 rfl ?_
  obtain ⟨v1, e, h⟩ := op_bd h
  refine ow_gR (pc := 192) e dX0_joinBranches_192 fd_X0_39 rfl ?_
  refine aw_iload_n (pc := 195) 1 dX0_joinBranches_195 rfl ?_
  refine aw_ldc2 (pc := 196) dX0_joinBranches_196 kl_X0_174 ?_
  refine aw_lload_n (pc := 199) 2 dX0_joinBranches_199 rfl ?_
  refine ow_minl (pc := 200) dX0_joinBranches_200 mt_X0_202 (Nat.le_of_ble_eq_true rfl) ?_
  obtain ⟨σ2, e, h⟩ := op_bd h
  refine ow_sL (pc := 203) e dX0_joinBranches_203 ?_
  refine aw_aload_n (pc := 204) 0 dX0_joinBranches_204 rfl ?_
  obtain ⟨v3, e, h⟩ := op_bd h
  refine ow_gR (pc := 205) e dX0_joinBranches_205 fd_X0_39 rfl ?_
  refine aw_bipush (pc := 208) (v := (52 : Int32)) dX0_joinBranches_208 (by decide) ?_
  refine aw_iload_n (pc := 210) 1 dX0_joinBranches_210 rfl ?_
  refine aw_iadd (pc := 211) dX0_joinBranches_211 ?_
  refine aw_lload (pc := 212) 3 dX0_joinBranches_212 rfl ?_
  obtain ⟨σ4, e, h⟩ := op_bd h
  refine ow_sL (pc := 214) e dX0_joinBranches_214 ?_
  refine aw_aload_n (pc := 215) 0 dX0_joinBranches_215 rfl ?_
  obtain ⟨v5, e, h⟩ := op_bd h
  refine ow_gR (pc := 216) e dX0_joinBranches_216 fd_X0_35 rfl ?_
  refine aw_iload_n (pc := 219) 1 dX0_joinBranches_219 rfl ?_
  refine aw_ldc2 (pc := 220) dX0_joinBranches_220 kl_X0_174 ?_
  refine aw_lload (pc := 223) 4 dX0_joinBranches_223 rfl ?_
  refine ow_minl (pc := 225) dX0_joinBranches_225 mt_X0_202 (Nat.le_of_ble_eq_true rfl) ?_
  obtain ⟨σ6, e, h⟩ := op_bd h
  refine ow_sL (pc := 228) e dX0_joinBranches_228 ?_
  refine aw_aload_n (pc := 229) 0 dX0_joinBranches_229 rfl ?_
  obtain ⟨v7, e, h⟩ := op_bd h
  refine ow_gR (pc := 230) e dX0_joinBranches_230 fd_X0_35 rfl ?_
  refine aw_bipush (pc := 233) (v := (52 : Int32)) dX0_joinBranches_233 (by decide) ?_
  refine aw_iload_n (pc := 235) 1 dX0_joinBranches_235 rfl ?_
  refine aw_iadd (pc := 236) dX0_joinBranches_236 ?_
  refine aw_lload (pc := 237) 5 dX0_joinBranches_237 rfl ?_
  obtain ⟨σ8, e, h⟩ := op_bd h
  refine ow_sL (pc := 239) e dX0_joinBranches_239 ?_
  exact ow_vret (pc := 240) h dX0_joinBranches_240 rfl
set_option maxRecDepth 100000 in
set_option maxHeartbeats 4000000 in
theorem c_X0_joinBranches_22_b {G : ah_G}  (K22 : Nat → Int32 → Int32 → Int64 → Int64 → Int64 → Int64 → Int64 → Int64 → Int32 → ah_H → Option (ah_H)) (hK22 : ∀ (x0 : Nat) (x1 : Int32) (x2 : Int32) (x3 : Int64) (x5 : Int64) (x7 : Int64) (x9 : Int64) (x11 : Int64) (x13 : Int64) (x15 : Int32) (σ : ah_H) (r : ah_H), K22 x0 x1 x2 x3 x5 x7 x9 x11 x13 x15 σ = some r → AW G m_X0_joinBranches 1 0 0 22 [(0, .ref x0), (1, .int x1), (2, .int x2), (3, .long x3), (5, .long x5), (7, .long x7), (9, .long x9), (11, .long x11), (13, .long x13), (15, .int x15)] [] σ (ah_N G (ah_rv r))) : ∀ (x0 : Nat) (x1 : Int32) (x2 : Int32) (x3 : Int64) (x5 : Int64) (x7 : Int64) (x9 : Int64) (x11 : Int64) (x13 : Int64) (x15 : Int32) (σ : ah_H) (r : ah_H), f_X0_joinBranches_22_b  K22 x0 x1 x2 x3 x5 x7 x9 x11 x13 x15 σ = some r → AW G m_X0_joinBranches 1 0 0 22 [(0, .ref x0), (1, .int x1), (2, .int x2), (3, .long x3), (5, .long x5), (7, .long x7), (9, .long x9), (11, .long x11), (13, .long x13), (15, .int x15)] [] σ (ah_N G (ah_rv r)) := by
  intro x0 x1 x2 x3 x5 x7 x9 x11 x13 x15 σ r h
  unfold f_X0_joinBranches_22_b at h
  refine aw_iload (pc := 22) 9 dX0_joinBranches_22 rfl ?_
  refine aw_aload_n (pc := 24) 0 dX0_joinBranches_24 rfl ?_
  obtain ⟨v1, e, h⟩ := op_bd h
  refine ow_gI (pc := 25) e dX0_joinBranches_25 fd_X0_163 rfl ?_
  refine aw_icmp_ge (pc := 28) 191 dX0_joinBranches_28 (by decide) (fun z => ?_) (fun z => ?_)
  · replace h := (if_pos z).symm.trans h
    refine aw_sub [0, 1, 3, 4, 7, 8] rfl ?_
    exact c_X0_joinBranches_191  _ _ _ _ _ _ _ _ h
  · replace h := (if_neg z).symm.trans h
    refine aw_aload_n (pc := 31) 0 dX0_joinBranches_31 rfl ?_
    obtain ⟨v2, e, h⟩ := op_bd h
    refine ow_gR (pc := 32) e dX0_joinBranches_32 fd_X0_32 rfl ?_
    refine aw_aload_n (pc := 35) 0 dX0_joinBranches_35 rfl ?_
    obtain ⟨v3, e, h⟩ := op_bd h
    refine ow_gR (pc := 36) e dX0_joinBranches_36 fd_X0_24 rfl ?_
    refine aw_iload (pc := 39) 9 dX0_joinBranches_39 rfl ?_
    obtain ⟨v4, e, h⟩ := op_bd h
    refine ow_aI (pc := 41) e dX0_joinBranches_41 ?_
    obtain ⟨v5, e, h⟩ := op_bd h
    refine ow_aR (pc := 42) e dX0_joinBranches_42 (by decide) ?_
    refine aw_astore (pc := 43) [(16, .ref v5), (0, .ref x0), (1, .int x1), (2, .int x2), (3, .long x3), (5, .long x5), (7, .long x7), (9, .long x9), (11, .long x11), (13, .long x13), (15, .int x15)] dX0_joinBranches_43 (by decide) rfl ?_
    refine aw_aload_n (pc := 45) 1 dX0_joinBranches_45 rfl ?_
    obtain ⟨v6, e, h⟩ := op_bd h
    refine ow_gR (pc := 46) e dX0_joinBranches_46 fd_X0_29 rfl ?_
    refine aw_aload_n (pc := 49) 1 dX0_joinBranches_49 rfl ?_
    obtain ⟨v7, e, h⟩ := op_bd h
    refine ow_gR (pc := 50) e dX0_joinBranches_50 fd_X0_24 rfl ?_
    refine aw_iload (pc := 53) 10 dX0_joinBranches_53 rfl ?_
    obtain ⟨v8, e, h⟩ := op_bd h
    refine ow_aI (pc := 55) e dX0_joinBranches_55 ?_
    obtain ⟨v9, e, h⟩ := op_bd h
    refine ow_aR (pc := 56) e dX0_joinBranches_56 (by decide) ?_
    refine aw_astore (pc := 57) [(17, .ref v9), (16, .ref v5), (0, .ref x0), (1, .int x1), (2, .int x2), (3, .long x3), (5, .long x5), (7, .long x7), (9, .long x9), (11, .long x11), (13, .long x13), (15, .int x15)] dX0_joinBranches_57 (by decide) rfl ?_
    refine aw_lload (pc := 59) 9 dX0_joinBranches_59 rfl ?_
    refine aw_aload (pc := 61) 1 dX0_joinBranches_61 rfl ?_
    refine aw_iload_n (pc := 63) 3 dX0_joinBranches_63 rfl ?_
    obtain ⟨v10, e, h⟩ := op_bd h
    refine ow_aL (pc := 64) e dX0_joinBranches_64 ?_
    refine aw_ladd (pc := 65) dX0_joinBranches_65 ?_
    refine aw_lstore (pc := 66) [(18, .long (x11 + v10)), (17, .ref v9), (16, .ref v5), (0, .ref x0), (1, .int x1), (2, .int x2), (3, .long x3), (5, .long x5), (7, .long x7), (9, .long x9), (11, .long x11), (13, .long x13), (15, .int x15)] dX0_joinBranches_66 (by decide) rfl ?_
    refine aw_lload (pc := 68) 11 dX0_joinBranches_68 rfl ?_
    refine aw_aload (pc := 70) 2 dX0_joinBranches_70 rfl ?_
    refine aw_bipush (pc := 72) (v := (52 : Int32)) dX0_joinBranches_72 (by decide) ?_
    refine aw_iload_n (pc := 74) 4 dX0_joinBranches_74 rfl ?_
    refine aw_iadd (pc := 75) dX0_joinBranches_75 ?_
    obtain ⟨v11, e, h⟩ := op_bd h
    refine ow_aL (pc := 76) e dX0_joinBranches_76 ?_
    refine aw_ladd (pc := 77) dX0_joinBranches_77 ?_
    refine aw_lstore (pc := 78) [(20, .long (x13 + v11)), (18, .long (x11 + v10)), (17, .ref v9), (16, .ref v5), (0, .ref x0), (1, .int x1), (2, .int x2), (3, .long x3), (5, .long x5), (7, .long x7), (9, .long x9), (11, .long x11), (13, .long x13), (15, .int x15)] dX0_joinBranches_78 (by decide) rfl ?_
    refine aw_lload (pc := 80) 9 dX0_joinBranches_80 rfl ?_
    refine aw_aload (pc := 82) 2 dX0_joinBranches_82 rfl ?_
    refine aw_iload_n (pc := 84) 5 dX0_joinBranches_84 rfl ?_
    obtain ⟨v12, e, h⟩ := op_bd h
    refine ow_aL (pc := 85) e dX0_joinBranches_85 ?_
    refine aw_ladd (pc := 86) dX0_joinBranches_86 ?_
    refine aw_lstore (pc := 87) [(11, .long (x7 + v12)), (20, .long (x13 + v11)), (18, .long (x11 + v10)), (17, .ref v9), (16, .ref v5), (0, .ref x0), (1, .int x1), (2, .int x2), (3, .long x3), (5, .long x5), (7, .long x7), (9, .long x9), (13, .long x13), (15, .int x15)] dX0_joinBranches_87 (by decide) rfl ?_
    refine aw_lload (pc := 89) 11 dX0_joinBranches_89 rfl ?_
    refine aw_aload (pc := 91) 3 dX0_joinBranches_91 rfl ?_
    refine aw_bipush (pc := 93) (v := (52 : Int32)) dX0_joinBranches_93 (by decide) ?_
    refine aw_iload_n (pc := 95) 6 dX0_joinBranches_95 rfl ?_
    refine aw_iadd (pc := 96) dX0_joinBranches_96 ?_
    obtain ⟨v13, e, h⟩ := op_bd h
    refine ow_aL (pc := 97) e dX0_joinBranches_97 ?_
    refine aw_ladd (pc := 98) dX0_joinBranches_98 ?_
    refine aw_lstore (pc := 99) [(13, .long (x9 + v13)), (11, .long (x7 + v12)), (20, .long (x13 + v11)), (18, .long (x11 + v10)), (17, .ref v9), (16, .ref v5), (0, .ref x0), (1, .int x1), (2, .int x2), (3, .long x3), (5, .long x5), (7, .long x7), (9, .long x9), (15, .int x15)] dX0_joinBranches_99 (by decide) rfl ?_
    refine aw_lload (pc := 101) 3 dX0_joinBranches_101 rfl ?_
    refine aw_lload (pc := 103) 2 dX0_joinBranches_103 rfl ?_
    refine aw_lload (pc := 105) 1 dX0_joinBranches_105 rfl ?_
    refine aw_lload (pc := 107) 0 dX0_joinBranches_107 rfl ?_
    obtain ⟨r14, e, h⟩ := op_bd h
    refine ow_cSi (pc := 109) [.long (x11 + v10), .long (x13 + v11), .long (x7 + v12), .long (x9 + v13)] ((c_X0_isLess _ _ _ _ _ _ e).mono (by decide)) rfl dX0_joinBranches_109 cw_X0_198 rfl (Nat.le_of_ble_eq_true rfl) ?_
    refine aw_if_eq (pc := 112) 123 dX0_joinBranches_112 (by decide) (fun z => ?_) (fun z => ?_)
    · replace h := (if_pos z).symm.trans h
      refine aw_sub [6, 7, 8, 9, 10, 11, 12, 1, 0, 13, 5] rfl ?_
      exact c_X0_joinBranches_123 K22 hK22 _ _ _ _ _ _ _ _ _ _ _ _ _ h
    · replace h := (if_neg z).symm.trans h
      refine aw_lload (pc := 115) 3 dX0_joinBranches_115 rfl ?_
      refine aw_lstore (pc := 117) [(11, .long (x11 + v10)), (13, .long (x9 + v13)), (20, .long (x13 + v11)), (18, .long (x11 + v10)), (17, .ref v9), (16, .ref v5), (0, .ref x0), (1, .int x1), (2, .int x2), (3, .long x3), (5, .long x5), (7, .long x7), (9, .long x9), (15, .int x15)] dX0_joinBranches_117 (by decide) rfl ?_
      refine aw_lload (pc := 119) 2 dX0_joinBranches_119 rfl ?_
      refine aw_lstore (pc := 121) [(13, .long (x13 + v11)), (11, .long (x11 + v10)), (20, .long (x13 + v11)), (18, .long (x11 + v10)), (17, .ref v9), (16, .ref v5), (0, .ref x0), (1, .int x1), (2, .int x2), (3, .long x3), (5, .long x5), (7, .long x7), (9, .long x9), (15, .int x15)] dX0_joinBranches_121 (by decide) rfl ?_
      refine aw_sub [6, 7, 8, 9, 10, 11, 12, 1, 0, 13, 5] rfl ?_
      exact c_X0_joinBranches_123 K22 hK22 _ _ _ _ _ _ _ _ _ _ _ _ _ h
theorem c_X0_joinBranches_22 {G : ah_G}   : ∀ (n : Nat) (x0 : Nat) (x1 : Int32) (x2 : Int32) (x3 : Int64) (x5 : Int64) (x7 : Int64) (x9 : Int64) (x11 : Int64) (x13 : Int64) (x15 : Int32) (σ : ah_H) (r : ah_H), f_X0_joinBranches_22   n x0 x1 x2 x3 x5 x7 x9 x11 x13 x15 σ = some r → AW G m_X0_joinBranches 1 0 0 22 [(0, .ref x0), (1, .int x1), (2, .int x2), (3, .long x3), (5, .long x5), (7, .long x7), (9, .long x9), (11, .long x11), (13, .long x13), (15, .int x15)] [] σ (ah_N G (ah_rv r)) := by
  intro n
  induction n with
  | zero => intro x0 x1 x2 x3 x5 x7 x9 x11 x13 x15 σ r h; cases h
  | succ n ih => intro x0 x1 x2 x3 x5 x7 x9 x11 x13 x15 σ r h; exact c_X0_joinBranches_22_b   _ ih x0 x1 x2 x3 x5 x7 x9 x11 x13 x15 σ r h
set_option maxRecDepth 100000 in
set_option maxHeartbeats 4000000 in
theorem c_X0_joinBranches_0 {G : ah_G}   : ∀ (x0 : Nat) (x1 : Int32) (x2 : Int32) (σ : ah_H) (r : ah_H), f_X0_joinBranches_0   x0 x1 x2 σ = some r → AW G m_X0_joinBranches 1 0 0 0 [(0, .ref x0), (1, .int x1), (2, .int x2)] [] σ (ah_N G (ah_rv r)) := by
  intro x0 x1 x2 σ r h
  unfold f_X0_joinBranches_0 at h
  refine aw_lconst (pc := 0) (v := (0 : Int64)) dX0_joinBranches_0 (by decide) ?_
  refine aw_lstore_n (pc := 1) [(3, .long (0 : Int64)), (0, .ref x0), (1, .int x1), (2, .int x2)] dX0_joinBranches_1 rfl (by decide) rfl ?_
  refine aw_lconst (pc := 2) (v := (0 : Int64)) dX0_joinBranches_2 (by decide) ?_
  refine aw_lstore (pc := 3) [(5, .long (0 : Int64)), (3, .long (0 : Int64)), (0, .ref x0), (1, .int x1), (2, .int x2)] dX0_joinBranches_3 (by decide) rfl ?_
  refine aw_lconst (pc := 5) (v := (0 : Int64)) dX0_joinBranches_5 (by decide) ?_
  refine aw_lstore (pc := 6) [(7, .long (0 : Int64)), (5, .long (0 : Int64)), (3, .long (0 : Int64)), (0, .ref x0), (1, .int x1), (2, .int x2)] dX0_joinBranches_6 (by decide) rfl ?_
  refine aw_lconst (pc := 8) (v := (0 : Int64)) dX0_joinBranches_8 (by decide) ?_
  refine aw_lstore (pc := 9) [(9, .long (0 : Int64)), (7, .long (0 : Int64)), (5, .long (0 : Int64)), (3, .long (0 : Int64)), (0, .ref x0), (1, .int x1), (2, .int x2)] dX0_joinBranches_9 (by decide) rfl ?_
  refine aw_ldc2 (pc := 11) dX0_joinBranches_11 kl_X0_174 ?_
  refine aw_lstore (pc := 14) [(11, .long (100000000000000000 : Int64)), (9, .long (0 : Int64)), (7, .long (0 : Int64)), (5, .long (0 : Int64)), (3, .long (0 : Int64)), (0, .ref x0), (1, .int x1), (2, .int x2)] dX0_joinBranches_14 (by decide) rfl ?_
  refine aw_lconst (pc := 16) (v := (0 : Int64)) dX0_joinBranches_16 (by decide) ?_
  refine aw_lstore (pc := 17) [(13, .long (0 : Int64)), (11, .long (100000000000000000 : Int64)), (9, .long (0 : Int64)), (7, .long (0 : Int64)), (5, .long (0 : Int64)), (3, .long (0 : Int64)), (0, .ref x0), (1, .int x1), (2, .int x2)] dX0_joinBranches_17 (by decide) rfl ?_
  refine aw_iconst (pc := 19) (v := (0 : Int32)) dX0_joinBranches_19 (by decide) ?_
  refine aw_istore (pc := 20) [(15, .int (0 : Int32)), (13, .long (0 : Int64)), (11, .long (100000000000000000 : Int64)), (9, .long (0 : Int64)), (7, .long (0 : Int64)), (5, .long (0 : Int64)), (3, .long (0 : Int64)), (0, .ref x0), (1, .int x1), (2, .int x2)] dX0_joinBranches_20 (by decide) rfl ?_
  refine aw_sub [7, 8, 9, 6, 5, 4, 3, 2, 1, 0] rfl ?_
  exact c_X0_joinBranches_22  _ _ _ _ _ _ _ _ _ _ _ _ _ h
theorem c_X0_joinBranches {G : ah_G}   (x0 : Nat) (x1 : Int32) (x2 : Int32) (σ : ah_H) (r : ah_H) (h : f_X0_joinBranches  x0 x1 x2 σ = some r) : AM G m_X0_joinBranches 1 0 0 [.ref x0, .int x1, .int x2] σ (ah_rv r) := aw_enter (by decide) (Nat.le_of_ble_eq_true rfl) (c_X0_joinBranches_0 _ _ _ _ _ (op_ck_k h))
def f_X0_offer_0   (x0 : Nat) (x1 : Int32) (x2 : Int64) (x4 : Int64) (σ : ah_H) : Option (ah_H) :=
  (op_aL σ x0 x1).bind fun v1 => (op_aL σ x0 ((52 : Int32) + x1)).bind fun v2 => (f_X0_isLess x2 x4 v1 v2 σ).bind fun r3 => if r3.1 = 0 then (some r3.2) else ((op_sL r3.2 x0 x1 x2).bind fun σ4 => (op_sL σ4 x0 ((52 : Int32) + x1) x4).bind fun σ5 => some σ5)
def f_X0_offer  (x0 : Nat) (x1 : Int32) (x2 : Int64) (x4 : Int64) (σ : ah_H) : Option (ah_H) := f_X0_offer_0 x0 x1 x2 x4 σ
set_option maxRecDepth 100000 in
set_option maxHeartbeats 4000000 in
theorem c_X0_offer_0 {G : ah_G}   : ∀ (x0 : Nat) (x1 : Int32) (x2 : Int64) (x4 : Int64) (σ : ah_H) (r : ah_H), f_X0_offer_0   x0 x1 x2 x4 σ = some r → AW G m_X0_offer 1 0 0 0 [(0, .ref x0), (1, .int x1), (2, .long x2), (4, .long x4)] [] σ (ah_N G (ah_rv r)) := by
  intro x0 x1 x2 x4 σ r h
  unfold f_X0_offer_0 at h
  refine aw_lload_n (pc := 0) 2 dX0_offer_0 rfl ?_
  refine aw_lload (pc := 1) 3 dX0_offer_1 rfl ?_
  refine aw_aload_n (pc := 3) 0 dX0_offer_3 rfl ?_
  refine aw_iload_n (pc := 4) 1 dX0_offer_4 rfl ?_
  obtain ⟨v1, e, h⟩ := op_bd h
  refine ow_aL (pc := 5) e dX0_offer_5 ?_
  refine aw_aload_n (pc := 6) 0 dX0_offer_6 rfl ?_
  refine aw_bipush (pc := 7) (v := (52 : Int32)) dX0_offer_7 (by decide) ?_
  refine aw_iload_n (pc := 9) 1 dX0_offer_9 rfl ?_
  refine aw_iadd (pc := 10) dX0_offer_10 ?_
  obtain ⟨v2, e, h⟩ := op_bd h
  refine ow_aL (pc := 11) e dX0_offer_11 ?_
  obtain ⟨r3, e, h⟩ := op_bd h
  refine ow_cSi (pc := 12) [.long x2, .long x4, .long v1, .long v2] ((c_X0_isLess _ _ _ _ _ _ e).mono (by decide)) rfl dX0_offer_12 cw_X0_198 rfl (Nat.le_of_ble_eq_true rfl) ?_
  refine aw_if_eq (pc := 15) 30 dX0_offer_15 (by decide) (fun z => ?_) (fun z => ?_)
  · replace h := (if_pos z).symm.trans h
    exact ow_vret (pc := 30) h dX0_offer_30 rfl
  · replace h := (if_neg z).symm.trans h
    refine aw_aload_n (pc := 18) 0 dX0_offer_18 rfl ?_
    refine aw_iload_n (pc := 19) 1 dX0_offer_19 rfl ?_
    refine aw_lload_n (pc := 20) 2 dX0_offer_20 rfl ?_
    obtain ⟨σ4, e, h⟩ := op_bd h
    refine ow_sL (pc := 21) e dX0_offer_21 ?_
    refine aw_aload_n (pc := 22) 0 dX0_offer_22 rfl ?_
    refine aw_bipush (pc := 23) (v := (52 : Int32)) dX0_offer_23 (by decide) ?_
    refine aw_iload_n (pc := 25) 1 dX0_offer_25 rfl ?_
    refine aw_iadd (pc := 26) dX0_offer_26 ?_
    refine aw_lload (pc := 27) 3 dX0_offer_27 rfl ?_
    obtain ⟨σ5, e, h⟩ := op_bd h
    refine ow_sL (pc := 29) e dX0_offer_29 ?_
    exact ow_vret (pc := 30) h dX0_offer_30 rfl
theorem c_X0_offer {G : ah_G}   (x0 : Nat) (x1 : Int32) (x2 : Int64) (x4 : Int64) (σ : ah_H) (r : ah_H) (h : f_X0_offer  x0 x1 x2 x4 σ = some r) : AM G m_X0_offer 1 0 0 [.ref x0, .int x1, .long x2, .long x4] σ (ah_rv r) := aw_enter (by decide) (Nat.le_of_ble_eq_true rfl) (c_X0_offer_0 _ _ _ _ _ _ h)
def f_X0_shiftOf_18   (s0 : Int32) (σ : ah_H) : Option (Int32 × ah_H) :=
  some (((10 : Int32) * (op_maxi (0 : Int32) ((5 : Int32) - s0))), σ)
def f_X0_shiftOf_0   (x0 : Nat) (x1 : Int32) (σ : ah_H) : Option (Int32 × ah_H) :=
  (op_gR 0 17 σ x0).bind fun v1 => (op_gI 9 2 σ v1).bind fun v2 => if x1 ≤ v2 then (f_X0_shiftOf_18 x1 σ) else (f_X0_shiftOf_18 (x1 - (1 : Int32)) σ)
def f_X0_shiftOf  (x0 : Nat) (x1 : Int32) (σ : ah_H) : Option (Int32 × ah_H) := op_ck 0 σ x0 (f_X0_shiftOf_0 x0 x1 σ)
set_option maxRecDepth 100000 in
set_option maxHeartbeats 4000000 in
theorem c_X0_shiftOf_18 {G : ah_G}   : ∀ (s0 : Int32) (σ : ah_H) (r : Int32 × ah_H), f_X0_shiftOf_18   s0 σ = some r → AW G m_X0_shiftOf 1 0 0 18 [] [.int s0] σ (ah_N G (ah_ri r)) := by
  intro s0 σ r h
  unfold f_X0_shiftOf_18 at h
  refine aw_istore_n (pc := 18) [(2, .int s0)] dX0_shiftOf_18 rfl (by decide) rfl ?_
  refine aw_bipush (pc := 19) (v := (10 : Int32)) dX0_shiftOf_19 (by decide) ?_
  refine aw_iconst (pc := 21) (v := (0 : Int32)) dX0_shiftOf_21 (by decide) ?_
  refine aw_iconst (pc := 22) (v := (5 : Int32)) dX0_shiftOf_22 (by decide) ?_
  refine aw_iload_n (pc := 23) 0 dX0_shiftOf_23 rfl ?_
  refine aw_isub (pc := 24) dX0_shiftOf_24 ?_
  refine ow_maxi (pc := 25) dX0_shiftOf_25 mt_X0_219 (Nat.le_of_ble_eq_true rfl) ?_
  refine aw_imul (pc := 28) dX0_shiftOf_28 ?_
  exact ow_iret (pc := 29) h dX0_shiftOf_29 rfl
set_option maxRecDepth 100000 in
set_option maxHeartbeats 4000000 in
theorem c_X0_shiftOf_0 {G : ah_G}   : ∀ (x0 : Nat) (x1 : Int32) (σ : ah_H) (r : Int32 × ah_H), f_X0_shiftOf_0   x0 x1 σ = some r → AW G m_X0_shiftOf 1 0 0 0 [(0, .ref x0), (1, .int x1)] [] σ (ah_N G (ah_ri r)) := by
  intro x0 x1 σ r h
  unfold f_X0_shiftOf_0 at h
  refine aw_iload_n (pc := 0) 1 dX0_shiftOf_0 rfl ?_
  refine aw_aload_n (pc := 1) 0 dX0_shiftOf_1 rfl ?_
  obtain ⟨v1, e, h⟩ := op_bd h
  refine ow_gR (pc := 2) e dX0_shiftOf_2 fd_X0_64 rfl ?_
  obtain ⟨v2, e, h⟩ := op_bd h
  refine ow_gI (pc := 5) e dX0_shiftOf_5 fd_X0_82 rfl ?_
  refine aw_icmp_le (pc := 8) 17 dX0_shiftOf_8 (by decide) (fun z => ?_) (fun z => ?_)
  · replace h := (if_pos z).symm.trans h
    refine aw_iload_n (pc := 17) 1 dX0_shiftOf_17 rfl ?_
    refine aw_sub [] rfl ?_
    exact c_X0_shiftOf_18  _ _ _ h
  · replace h := (if_neg z).symm.trans h
    refine aw_iload_n (pc := 11) 1 dX0_shiftOf_11 rfl ?_
    refine aw_iconst (pc := 12) (v := (1 : Int32)) dX0_shiftOf_12 (by decide) ?_
    refine aw_isub (pc := 13) dX0_shiftOf_13 ?_
    refine aw_goto (pc := 14) 18 dX0_shiftOf_14 (by decide) ?_
    refine aw_sub [] rfl ?_
    exact c_X0_shiftOf_18  _ _ _ h
theorem c_X0_shiftOf {G : ah_G}   (x0 : Nat) (x1 : Int32) (σ : ah_H) (r : Int32 × ah_H) (h : f_X0_shiftOf  x0 x1 σ = some r) : AM G m_X0_shiftOf 1 0 0 [.ref x0, .int x1] σ (ah_ri r) := aw_enter (by decide) (Nat.le_of_ble_eq_true rfl) (c_X0_shiftOf_0 _ _ _ _ (op_ck_k h))
def f_X1_greatest_0   (x0 : Nat) (x1 : Int32) (σ : ah_H) : Option (Int64 × ah_H) :=
  (op_gR 1 8 σ x0).bind fun v1 => (op_gI 9 8 σ v1).bind fun v2 => if v2 = 0 then (some ((0 : Int64), σ)) else ((op_gR 1 0 σ x0).bind fun v3 => (op_aR .long σ v3 x1).bind fun v4 => (op_gR 1 3 σ x0).bind fun v5 => (op_aI σ v5 x1).bind fun v6 => (op_aL σ v4 v6).bind fun v7 => some (v7, σ))
def f_X1_greatest  (x0 : Nat) (x1 : Int32) (σ : ah_H) : Option (Int64 × ah_H) := op_ck 1 σ x0 (f_X1_greatest_0 x0 x1 σ)
set_option maxRecDepth 100000 in
set_option maxHeartbeats 4000000 in
theorem c_X1_greatest_0 {G : ah_G}   : ∀ (x0 : Nat) (x1 : Int32) (σ : ah_H) (r : Int64 × ah_H), f_X1_greatest_0   x0 x1 σ = some r → AW G m_X1_greatest 0 0 0 0 [(0, .ref x0), (1, .int x1)] [] σ (ah_N G (ah_rl r)) := by
  intro x0 x1 σ r h
  unfold f_X1_greatest_0 at h
  refine aw_aload_n (pc := 0) 0 dX1_greatest_0 rfl ?_
  obtain ⟨v1, e, h⟩ := op_bd h
  refine ow_gR (pc := 1) e dX1_greatest_1 fd_X1_36 rfl ?_
  obtain ⟨v2, e, h⟩ := op_bd h
  refine ow_gI (pc := 4) e dX1_greatest_4 fd_X1_72 rfl ?_
  refine aw_if_ne (pc := 7) 14 dX1_greatest_7 (by decide) (fun z => ?_) (fun z => ?_)
  · replace h := (if_neg z).symm.trans h
    refine aw_aload_n (pc := 14) 0 dX1_greatest_14 rfl ?_
    obtain ⟨v3, e, h⟩ := op_bd h
    refine ow_gR (pc := 15) e dX1_greatest_15 fd_X1_11 rfl ?_
    refine aw_iload_n (pc := 18) 1 dX1_greatest_18 rfl ?_
    obtain ⟨v4, e, h⟩ := op_bd h
    refine ow_aR (pc := 19) e dX1_greatest_19 (by decide) ?_
    refine aw_aload_n (pc := 20) 0 dX1_greatest_20 rfl ?_
    obtain ⟨v5, e, h⟩ := op_bd h
    refine ow_gR (pc := 21) e dX1_greatest_21 fd_X1_23 rfl ?_
    refine aw_iload_n (pc := 24) 1 dX1_greatest_24 rfl ?_
    obtain ⟨v6, e, h⟩ := op_bd h
    refine ow_aI (pc := 25) e dX1_greatest_25 ?_
    obtain ⟨v7, e, h⟩ := op_bd h
    refine ow_aL (pc := 26) e dX1_greatest_26 ?_
    exact ow_lret (pc := 27) h dX1_greatest_27 rfl
  · replace h := (if_pos z).symm.trans h
    refine aw_lconst (pc := 10) (v := (0 : Int64)) dX1_greatest_10 (by decide) ?_
    refine aw_goto (pc := 11) 27 dX1_greatest_11 (by decide) ?_
    exact ow_lret (pc := 27) h dX1_greatest_27 rfl
theorem c_X1_greatest {G : ah_G}   (x0 : Nat) (x1 : Int32) (σ : ah_H) (r : Int64 × ah_H) (h : f_X1_greatest  x0 x1 σ = some r) : AM G m_X1_greatest 0 0 0 [.ref x0, .int x1] σ (ah_rl r) := aw_enter (by decide) (Nat.le_of_ble_eq_true rfl) (c_X1_greatest_0 _ _ _ _ (op_ck_k h))
def f_X9_fallByLength_0   (x0 : Nat) (x1 : Int32) (x2 : Int32) (σ : ah_H) : Option (Int32 × ah_H) :=
  (op_gR 9 5 σ x0).bind fun v1 => (op_aR .int σ v1 x1).bind fun v2 => (op_aI σ v2 (2 : Int32)).bind fun v3 => if v3 ≤ 0 then (some ((0 : Int32), σ)) else ((op_div x2 v3).bind fun v4 => some (v4, σ))
def f_X9_fallByLength  (x0 : Nat) (x1 : Int32) (x2 : Int32) (σ : ah_H) : Option (Int32 × ah_H) := op_ck 9 σ x0 (f_X9_fallByLength_0 x0 x1 x2 σ)
set_option maxRecDepth 100000 in
set_option maxHeartbeats 4000000 in
theorem c_X9_fallByLength_0 {G : ah_G}   : ∀ (x0 : Nat) (x1 : Int32) (x2 : Int32) (σ : ah_H) (r : Int32 × ah_H), f_X9_fallByLength_0   x0 x1 x2 σ = some r → AW G m_X9_fallByLength 0 0 0 0 [(0, .ref x0), (1, .int x1), (2, .int x2)] [] σ (ah_N G (ah_ri r)) := by
  intro x0 x1 x2 σ r h
  unfold f_X9_fallByLength_0 at h
  refine aw_aload_n (pc := 0) 0 dX9_fallByLength_0 rfl ?_
  obtain ⟨v1, e, h⟩ := op_bd h
  refine ow_gR (pc := 1) e dX9_fallByLength_1 fd_X9_16 rfl ?_
  refine aw_iload_n (pc := 4) 1 dX9_fallByLength_4 rfl ?_
  obtain ⟨v2, e, h⟩ := op_bd h
  refine ow_aR (pc := 5) e dX9_fallByLength_5 (by decide) ?_
  refine aw_iconst (pc := 6) (v := (2 : Int32)) dX9_fallByLength_6 (by decide) ?_
  obtain ⟨v3, e, h⟩ := op_bd h
  refine ow_aI (pc := 7) e dX9_fallByLength_7 ?_
  refine aw_istore_n (pc := 8) [(3, .int v3), (0, .ref x0), (1, .int x1), (2, .int x2)] dX9_fallByLength_8 rfl (by decide) rfl ?_
  refine aw_iload_n (pc := 9) 0 dX9_fallByLength_9 rfl ?_
  refine aw_if_le (pc := 10) 19 dX9_fallByLength_10 (by decide) (fun z => ?_) (fun z => ?_)
  · replace h := (if_pos z).symm.trans h
    refine aw_iconst (pc := 19) (v := (0 : Int32)) dX9_fallByLength_19 (by decide) ?_
    exact ow_iret (pc := 20) h dX9_fallByLength_20 rfl
  · replace h := (if_neg z).symm.trans h
    refine aw_iload_n (pc := 13) 3 dX9_fallByLength_13 rfl ?_
    refine aw_iload_n (pc := 14) 0 dX9_fallByLength_14 rfl ?_
    obtain ⟨v4, e, h⟩ := op_bd h
    refine ow_div (pc := 15) e dX9_fallByLength_15 ?_
    refine aw_goto (pc := 16) 20 dX9_fallByLength_16 (by decide) ?_
    exact ow_iret (pc := 20) h dX9_fallByLength_20 rfl
theorem c_X9_fallByLength {G : ah_G}   (x0 : Nat) (x1 : Int32) (x2 : Int32) (σ : ah_H) (r : Int32 × ah_H) (h : f_X9_fallByLength  x0 x1 x2 σ = some r) : AM G m_X9_fallByLength 0 0 0 [.ref x0, .int x1, .int x2] σ (ah_ri r) := aw_enter (by decide) (Nat.le_of_ble_eq_true rfl) (c_X9_fallByLength_0 _ _ _ _ _ (op_ck_k h))
def f_X9_otherEnd_0   (x0 : Nat) (x1 : Int32) (x2 : Int32) (σ : ah_H) : Option (Int32 × ah_H) :=
  (op_gR 9 5 σ x0).bind fun v1 => (op_aR .int σ v1 x1).bind fun v2 => (op_aI σ v2 (0 : Int32)).bind fun v3 => if v3 = x2 then ((op_gR 9 5 σ x0).bind fun v7 => (op_aR .int σ v7 x1).bind fun v8 => (op_aI σ v8 (1 : Int32)).bind fun v9 => some (v9, σ)) else ((op_gR 9 5 σ x0).bind fun v4 => (op_aR .int σ v4 x1).bind fun v5 => (op_aI σ v5 (0 : Int32)).bind fun v6 => some (v6, σ))
def f_X9_otherEnd  (x0 : Nat) (x1 : Int32) (x2 : Int32) (σ : ah_H) : Option (Int32 × ah_H) := op_ck 9 σ x0 (f_X9_otherEnd_0 x0 x1 x2 σ)
set_option maxRecDepth 100000 in
set_option maxHeartbeats 4000000 in
theorem c_X9_otherEnd_0 {G : ah_G}   : ∀ (x0 : Nat) (x1 : Int32) (x2 : Int32) (σ : ah_H) (r : Int32 × ah_H), f_X9_otherEnd_0   x0 x1 x2 σ = some r → AW G m_X9_otherEnd 0 0 0 0 [(0, .ref x0), (1, .int x1), (2, .int x2)] [] σ (ah_N G (ah_ri r)) := by
  intro x0 x1 x2 σ r h
  unfold f_X9_otherEnd_0 at h
  refine aw_aload_n (pc := 0) 0 dX9_otherEnd_0 rfl ?_
  obtain ⟨v1, e, h⟩ := op_bd h
  refine ow_gR (pc := 1) e dX9_otherEnd_1 fd_X9_16 rfl ?_
  refine aw_iload_n (pc := 4) 1 dX9_otherEnd_4 rfl ?_
  obtain ⟨v2, e, h⟩ := op_bd h
  refine ow_aR (pc := 5) e dX9_otherEnd_5 (by decide) ?_
  refine aw_iconst (pc := 6) (v := (0 : Int32)) dX9_otherEnd_6 (by decide) ?_
  obtain ⟨v3, e, h⟩ := op_bd h
  refine ow_aI (pc := 7) e dX9_otherEnd_7 ?_
  refine aw_iload_n (pc := 8) 2 dX9_otherEnd_8 rfl ?_
  refine aw_icmp_ne (pc := 9) 23 dX9_otherEnd_9 (by decide) (fun z => ?_) (fun z => ?_)
  · replace h := (if_neg z).symm.trans h
    refine aw_aload_n (pc := 23) 0 dX9_otherEnd_23 rfl ?_
    obtain ⟨v4, e, h⟩ := op_bd h
    refine ow_gR (pc := 24) e dX9_otherEnd_24 fd_X9_16 rfl ?_
    refine aw_iload_n (pc := 27) 1 dX9_otherEnd_27 rfl ?_
    obtain ⟨v5, e, h⟩ := op_bd h
    refine ow_aR (pc := 28) e dX9_otherEnd_28 (by decide) ?_
    refine aw_iconst (pc := 29) (v := (0 : Int32)) dX9_otherEnd_29 (by decide) ?_
    obtain ⟨v6, e, h⟩ := op_bd h
    refine ow_aI (pc := 30) e dX9_otherEnd_30 ?_
    exact ow_iret (pc := 31) h dX9_otherEnd_31 rfl
  · replace h := (if_pos z).symm.trans h
    refine aw_aload_n (pc := 12) 0 dX9_otherEnd_12 rfl ?_
    obtain ⟨v7, e, h⟩ := op_bd h
    refine ow_gR (pc := 13) e dX9_otherEnd_13 fd_X9_16 rfl ?_
    refine aw_iload_n (pc := 16) 1 dX9_otherEnd_16 rfl ?_
    obtain ⟨v8, e, h⟩ := op_bd h
    refine ow_aR (pc := 17) e dX9_otherEnd_17 (by decide) ?_
    refine aw_iconst (pc := 18) (v := (1 : Int32)) dX9_otherEnd_18 (by decide) ?_
    obtain ⟨v9, e, h⟩ := op_bd h
    refine ow_aI (pc := 19) e dX9_otherEnd_19 ?_
    refine aw_goto (pc := 20) 31 dX9_otherEnd_20 (by decide) ?_
    exact ow_iret (pc := 31) h dX9_otherEnd_31 rfl
theorem c_X9_otherEnd {G : ah_G}   (x0 : Nat) (x1 : Int32) (x2 : Int32) (σ : ah_H) (r : Int32 × ah_H) (h : f_X9_otherEnd  x0 x1 x2 σ = some r) : AM G m_X9_otherEnd 0 0 0 [.ref x0, .int x1, .int x2] σ (ah_ri r) := aw_enter (by decide) (Nat.le_of_ble_eq_true rfl) (c_X9_otherEnd_0 _ _ _ _ _ (op_ck_k h))
def f_X0_layEnds_300  (K182 : Nat → Int32 → Int32 → Int32 → Int32 → Int32 → Int32 → Int32 → Int64 → Int64 → Int32 → ah_H → Option (ah_H)) (x0 : Nat) (x1 : Int32) (x2 : Int32) (x3 : Int32) (x4 : Int32) (x6 : Int32) (x7 : Int32) (x9 : Int32) (x10 : Int64) (x12 : Int64) (x14 : Int32) (σ : ah_H) : Option (ah_H) :=
  K182 x0 x1 x2 x3 x4 x6 x7 x9 x10 x12 (x14 + (1 : Int32)) σ
def f_X0_layEnds_182_b  (K182 : Nat → Int32 → Int32 → Int32 → Int32 → Int32 → Int32 → Int32 → Int64 → Int64 → Int32 → ah_H → Option (ah_H)) (x0 : Nat) (x1 : Int32) (x2 : Int32) (x3 : Int32) (x4 : Int32) (x6 : Int32) (x7 : Int32) (x9 : Int32) (x10 : Int64) (x12 : Int64) (x14 : Int32) (σ : ah_H) : Option (ah_H) :=
  if x9 < x14 then (some σ) else ((op_gR 0 15 σ x0).bind fun v1 => (op_aR .long σ v1 x2).bind fun v2 => (op_gR 0 17 σ x0).bind fun v3 => (f_X9_fallByLength v3 x4 (x7 + x14) σ).bind fun r4 => (op_aL r4.2 v2 r4.1).bind fun v5 => if (lg_cmp v5 x10) < 0 then (f_X0_layEnds_300 K182 x0 x1 x2 x3 x4 x6 x7 x9 x10 x12 x14 r4.2) else ((op_gR 0 17 r4.2 x0).bind fun v6 => (op_gR 9 7 r4.2 v6).bind fun v7 => (op_aR .int r4.2 v7 x2).bind fun v8 => (op_aI r4.2 v8 (1 : Int32)).bind fun v9 => (op_gR 0 14 r4.2 x0).bind fun v10 => (op_aR .long r4.2 v10 x1).bind fun v11 => (op_div (x3 + x14) (2 : Int32)).bind fun v12 => (op_aL r4.2 v11 ((x2 * (13 : Int32)) + v12)).bind fun v13 => (op_gL 0 19 r4.2 x0).bind fun v14 => (op_gR 0 9 r4.2 x0).bind fun v15 => (op_aR .long r4.2 v15 x1).bind fun v16 => (op_gL 0 18 r4.2 x0).bind fun v17 => (f_X0_offer v16 ((x2 * (13 : Int32)) + x14) (v17 + ((Int32.toInt64 x6) * ((Int32.toInt64 v9) + v13))) (v14 + ((Int32.toInt64 (((x2 <<< ((8 : Int32) &&& 31)) ||| (x3 <<< ((4 : Int32) &&& 31))) ||| x14)) * x12)) r4.2).bind fun r18 => f_X0_layEnds_300 K182 x0 x1 x2 x3 x4 x6 x7 x9 x10 x12 x14 r18))
def f_X0_layEnds_182   : Nat → Nat → Int32 → Int32 → Int32 → Int32 → Int32 → Int32 → Int32 → Int64 → Int64 → Int32 → ah_H → Option (ah_H)
  | 0, _, _, _, _, _, _, _, _, _, _, _, _ => none
  | n + 1, x0, x1, x2, x3, x4, x6, x7, x9, x10, x12, x14, σ => f_X0_layEnds_182_b (f_X0_layEnds_182 n) x0 x1 x2 x3 x4 x6 x7 x9 x10 x12 x14 σ
def f_X0_layEnds_159   (x0 : Nat) (x1 : Int32) (x2 : Int32) (x3 : Int32) (x4 : Int32) (x6 : Int32) (x7 : Int32) (x8 : Int32) (x9 : Int32) (σ : ah_H) : Option (ah_H) :=
  (op_gR 0 2 σ x0).bind fun v1 => (f_X1_greatest v1 x1 σ).bind fun r2 => (f_X0_shiftOf x0 x1 r2.2).bind fun r3 => f_X0_layEnds_182 5000 x0 x1 x2 x3 x4 x6 x7 x9 r2.1 ((1 : Int64) <<< (Int32.toInt64 r3.1 &&& 63)) x8 r3.2
def f_X0_layEnds_0   (x0 : Nat) (x1 : Int32) (x2 : Int32) (x3 : Int32) (σ : ah_H) : Option (ah_H) :=
  (op_gR 0 1 σ x0).bind fun v1 => (op_aI σ v1 x1).bind fun v2 => (op_gR 0 17 σ x0).bind fun v3 => (f_X9_otherEnd v3 v2 x1 σ).bind fun r4 => (op_gR 0 17 r4.2 x0).bind fun v5 => (op_gR 9 5 r4.2 v5).bind fun v6 => (op_aR .int r4.2 v6 v2).bind fun v7 => (op_aI r4.2 v7 (2 : Int32)).bind fun v8 => (op_gR 0 17 r4.2 x0).bind fun v9 => (op_gR 9 1 r4.2 v9).bind fun v10 => (op_aR .int r4.2 v10 x1).bind fun v11 => (op_aI r4.2 v11 (0 : Int32)).bind fun v12 => (op_gR 0 17 r4.2 x0).bind fun v13 => (op_gR 9 1 r4.2 v13).bind fun v14 => (op_aR .int r4.2 v14 r4.1).bind fun v15 => (op_aI r4.2 v15 (0 : Int32)).bind fun v16 => (op_gR 0 17 r4.2 x0).bind fun v17 => (op_gR 9 12 r4.2 v17).bind fun v18 => (op_aI r4.2 v18 (0 : Int32)).bind fun v19 => (op_gR 0 17 r4.2 x0).bind fun v20 => (op_gR 9 11 r4.2 v20).bind fun v21 => (op_aI r4.2 v21 (0 : Int32)).bind fun v22 => (op_gR 0 17 r4.2 x0).bind fun v23 => (op_gR 9 12 r4.2 v23).bind fun v24 => (op_aI r4.2 v24 (1 : Int32)).bind fun v25 => (op_gR 0 17 r4.2 x0).bind fun v26 => (op_gR 9 11 r4.2 v26).bind fun v27 => (op_aI r4.2 v27 (1 : Int32)).bind fun v28 => (op_gR 0 17 r4.2 x0).bind fun v29 => (op_gI 9 2 r4.2 v29).bind fun v30 => if r4.1 = v30 then ((op_gR 0 17 r4.2 x0).bind fun v31 => (op_gR 9 1 r4.2 v31).bind fun v32 => (op_aR .int r4.2 v32 r4.1).bind fun v33 => (op_aI r4.2 v33 (0 : Int32)).bind fun v34 => (op_gR 0 17 r4.2 x0).bind fun v35 => (op_gI 9 3 r4.2 v35).bind fun v36 => f_X0_layEnds_159 x0 x1 x2 x3 v2 v8 ((v12 - x3) - v16) (op_maxi v19 ((v8 * v22) - ((v12 - x3) - v16))) (op_mini (op_mini v25 ((v8 * v28) - ((v12 - x3) - v16))) (v34 - v36)) r4.2) else (f_X0_layEnds_159 x0 x1 x2 x3 v2 v8 ((v12 - x3) - v16) (op_maxi v19 ((v8 * v22) - ((v12 - x3) - v16))) (op_mini v25 ((v8 * v28) - ((v12 - x3) - v16))) r4.2)
def f_X0_layEnds  (x0 : Nat) (x1 : Int32) (x2 : Int32) (x3 : Int32) (σ : ah_H) : Option (ah_H) := op_ck 0 σ x0 (f_X0_layEnds_0 x0 x1 x2 x3 σ)
set_option maxRecDepth 100000 in
set_option maxHeartbeats 4000000 in
theorem c_X0_layEnds_300 {G : ah_G}  (K182 : Nat → Int32 → Int32 → Int32 → Int32 → Int32 → Int32 → Int32 → Int64 → Int64 → Int32 → ah_H → Option (ah_H)) (hK182 : ∀ (x0 : Nat) (x1 : Int32) (x2 : Int32) (x3 : Int32) (x4 : Int32) (x6 : Int32) (x7 : Int32) (x9 : Int32) (x10 : Int64) (x12 : Int64) (x14 : Int32) (σ : ah_H) (r : ah_H), K182 x0 x1 x2 x3 x4 x6 x7 x9 x10 x12 x14 σ = some r → AW G m_X0_layEnds 2 0 0 182 [(0, .ref x0), (1, .int x1), (2, .int x2), (3, .int x3), (4, .int x4), (6, .int x6), (7, .int x7), (9, .int x9), (10, .long x10), (12, .long x12), (14, .int x14)] [] σ (ah_N G (ah_rv r))) : ∀ (x0 : Nat) (x1 : Int32) (x2 : Int32) (x3 : Int32) (x4 : Int32) (x6 : Int32) (x7 : Int32) (x9 : Int32) (x10 : Int64) (x12 : Int64) (x14 : Int32) (σ : ah_H) (r : ah_H), f_X0_layEnds_300  K182 x0 x1 x2 x3 x4 x6 x7 x9 x10 x12 x14 σ = some r → AW G m_X0_layEnds 2 0 0 300 [(0, .ref x0), (1, .int x1), (2, .int x2), (3, .int x3), (4, .int x4), (6, .int x6), (7, .int x7), (9, .int x9), (10, .long x10), (12, .long x12), (14, .int x14)] [] σ (ah_N G (ah_rv r)) := by
  intro x0 x1 x2 x3 x4 x6 x7 x9 x10 x12 x14 σ r h
  unfold f_X0_layEnds_300 at h
  refine aw_iinc (pc := 300) 10 [(14, .int (x14 + (1 : Int32))), (0, .ref x0), (1, .int x1), (2, .int x2), (3, .int x3), (4, .int x4), (6, .int x6), (7, .int x7), (9, .int x9), (10, .long x10), (12, .long x12)] (x14 + (1 : Int32)) dX0_layEnds_300 rfl rfl (by decide) rfl ?_
  refine aw_goto (pc := 303) 182 dX0_layEnds_303 (by decide) ?_
  refine aw_sub [1, 2, 3, 4, 5, 6, 7, 8, 9, 10, 0] rfl ?_
  exact hK182 _ _ _ _ _ _ _ _ _ _ _ _ _ h
set_option maxRecDepth 100000 in
set_option maxHeartbeats 4000000 in
theorem c_X0_layEnds_182_b {G : ah_G}  (K182 : Nat → Int32 → Int32 → Int32 → Int32 → Int32 → Int32 → Int32 → Int64 → Int64 → Int32 → ah_H → Option (ah_H)) (hK182 : ∀ (x0 : Nat) (x1 : Int32) (x2 : Int32) (x3 : Int32) (x4 : Int32) (x6 : Int32) (x7 : Int32) (x9 : Int32) (x10 : Int64) (x12 : Int64) (x14 : Int32) (σ : ah_H) (r : ah_H), K182 x0 x1 x2 x3 x4 x6 x7 x9 x10 x12 x14 σ = some r → AW G m_X0_layEnds 2 0 0 182 [(0, .ref x0), (1, .int x1), (2, .int x2), (3, .int x3), (4, .int x4), (6, .int x6), (7, .int x7), (9, .int x9), (10, .long x10), (12, .long x12), (14, .int x14)] [] σ (ah_N G (ah_rv r))) : ∀ (x0 : Nat) (x1 : Int32) (x2 : Int32) (x3 : Int32) (x4 : Int32) (x6 : Int32) (x7 : Int32) (x9 : Int32) (x10 : Int64) (x12 : Int64) (x14 : Int32) (σ : ah_H) (r : ah_H), f_X0_layEnds_182_b  K182 x0 x1 x2 x3 x4 x6 x7 x9 x10 x12 x14 σ = some r → AW G m_X0_layEnds 2 0 0 182 [(0, .ref x0), (1, .int x1), (2, .int x2), (3, .int x3), (4, .int x4), (6, .int x6), (7, .int x7), (9, .int x9), (10, .long x10), (12, .long x12), (14, .int x14)] [] σ (ah_N G (ah_rv r)) := by
  intro x0 x1 x2 x3 x4 x6 x7 x9 x10 x12 x14 σ r h
  unfold f_X0_layEnds_182_b at h
  refine aw_iload (pc := 182) 10 dX0_layEnds_182 rfl ?_
  refine aw_iload (pc := 184) 7 dX0_layEnds_184 rfl ?_
  refine aw_icmp_gt (pc := 186) 306 dX0_layEnds_186 (by decide) (fun z => ?_) (fun z => ?_)
  · replace h := (if_pos z).symm.trans h
    exact ow_vret (pc := 306) h dX0_layEnds_306 rfl
  · replace h := (if_neg z).symm.trans h
    refine aw_aload_n (pc := 189) 0 dX0_layEnds_189 rfl ?_
    obtain ⟨v1, e, h⟩ := op_bd h
    refine ow_gR (pc := 190) e dX0_layEnds_190 fd_X0_48 rfl ?_
    refine aw_iload_n (pc := 193) 2 dX0_layEnds_193 rfl ?_
    obtain ⟨v2, e, h⟩ := op_bd h
    refine ow_aR (pc := 194) e dX0_layEnds_194 (by decide) ?_
    refine aw_aload_n (pc := 195) 0 dX0_layEnds_195 rfl ?_
    obtain ⟨v3, e, h⟩ := op_bd h
    refine ow_gR (pc := 196) e dX0_layEnds_196 fd_X0_64 rfl ?_
    refine aw_iload (pc := 199) 4 dX0_layEnds_199 rfl ?_
    refine aw_iload (pc := 201) 6 dX0_layEnds_201 rfl ?_
    refine aw_iload (pc := 203) 10 dX0_layEnds_203 rfl ?_
    refine aw_iadd (pc := 205) dX0_layEnds_205 ?_
    obtain ⟨r4, e, h⟩ := op_bd h
    refine ow_cVi (pc := 206) [.int x4, .int (x7 + x14)] ((c_X9_fallByLength _ _ _ _ _ e).mono (by decide)) (op_ck_sh e) rfl dX0_layEnds_206 cw_X0_231 rfl (Nat.le_of_ble_eq_true rfl) ?_
    obtain ⟨v5, e, h⟩ := op_bd h
    refine ow_aL (pc := 209) e dX0_layEnds_209 ?_
    refine aw_lload (pc := 210) 8 dX0_layEnds_210 rfl ?_
    refine aw_lcmp (pc := 212) dX0_layEnds_212 ?_
    refine aw_if_lt (pc := 213) 300 dX0_layEnds_213 (by decide) (fun z => ?_) (fun z => ?_)
    · replace h := (if_pos z).symm.trans h
      exact c_X0_layEnds_300 K182 hK182 _ _ _ _ _ _ _ _ _ _ _ _ _ h
    · replace h := (if_neg z).symm.trans h
      refine aw_aload_n (pc := 216) 0 dX0_layEnds_216 rfl ?_
      obtain ⟨v6, e, h⟩ := op_bd h
      refine ow_gR (pc := 217) e dX0_layEnds_217 fd_X0_64 rfl ?_
      obtain ⟨v7, e, h⟩ := op_bd h
      refine ow_gR (pc := 220) e dX0_layEnds_220 fd_X0_122 rfl ?_
      refine aw_iload_n (pc := 223) 2 dX0_layEnds_223 rfl ?_
      obtain ⟨v8, e, h⟩ := op_bd h
      refine ow_aR (pc := 224) e dX0_layEnds_224 (by decide) ?_
      refine aw_iconst (pc := 225) (v := (1 : Int32)) dX0_layEnds_225 (by decide) ?_
      obtain ⟨v9, e, h⟩ := op_bd h
      refine ow_aI (pc := 226) e dX0_layEnds_226 ?_
      refine aw_i2l (pc := 227) dX0_layEnds_227 ?_
      refine aw_aload_n (pc := 228) 0 dX0_layEnds_228 rfl ?_
      obtain ⟨v10, e, h⟩ := op_bd h
      refine ow_gR (pc := 229) e dX0_layEnds_229 fd_X0_45 rfl ?_
      refine aw_iload_n (pc := 232) 1 dX0_layEnds_232 rfl ?_
      obtain ⟨v11, e, h⟩ := op_bd h
      refine ow_aR (pc := 233) e dX0_layEnds_233 (by decide) ?_
      refine aw_iload_n (pc := 234) 2 dX0_layEnds_234 rfl ?_
      refine aw_bipush (pc := 235) (v := (13 : Int32)) dX0_layEnds_235 (by decide) ?_
      refine aw_imul (pc := 237) dX0_layEnds_237 ?_
      refine aw_iload_n (pc := 238) 3 dX0_layEnds_238 rfl ?_
      refine aw_iload (pc := 239) 10 dX0_layEnds_239 rfl ?_
      refine aw_iadd (pc := 241) dX0_layEnds_241 ?_
      refine aw_iconst (pc := 242) (v := (2 : Int32)) dX0_layEnds_242 (by decide) ?_
      obtain ⟨v12, e, h⟩ := op_bd h
      refine ow_div (pc := 243) e dX0_layEnds_243 ?_
      refine aw_iadd (pc := 244) dX0_layEnds_244 ?_
      obtain ⟨v13, e, h⟩ := op_bd h
      refine ow_aL (pc := 245) e dX0_layEnds_245 ?_
      refine aw_ladd (pc := 246) dX0_layEnds_246 ?_
      refine aw_lstore (pc := 247) [(15, .long ((Int32.toInt64 v9) + v13)), (0, .ref x0), (1, .int x1), (2, .int x2), (3, .int x3), (4, .int x4), (6, .int x6), (7, .int x7), (9, .int x9), (10, .long x10), (12, .long x12), (14, .int x14)] dX0_layEnds_247 (by decide) rfl ?_
      refine aw_aload_n (pc := 249) 1 dX0_layEnds_249 rfl ?_
      obtain ⟨v14, e, h⟩ := op_bd h
      refine ow_gL (pc := 250) e dX0_layEnds_250 fd_X0_208 ?_
      refine aw_iload_n (pc := 253) 3 dX0_layEnds_253 rfl ?_
      refine aw_bipush (pc := 254) (v := (8 : Int32)) dX0_layEnds_254 (by decide) ?_
      refine aw_ishl (pc := 256) dX0_layEnds_256 ?_
      refine aw_iload_n (pc := 257) 4 dX0_layEnds_257 rfl ?_
      refine aw_iconst (pc := 258) (v := (4 : Int32)) dX0_layEnds_258 (by decide) ?_
      refine aw_ishl (pc := 259) dX0_layEnds_259 ?_
      refine aw_ior (pc := 260) dX0_layEnds_260 ?_
      refine aw_iload (pc := 261) 11 dX0_layEnds_261 rfl ?_
      refine aw_ior (pc := 263) dX0_layEnds_263 ?_
      refine aw_i2l (pc := 264) dX0_layEnds_264 ?_
      refine aw_lload (pc := 265) 10 dX0_layEnds_265 rfl ?_
      refine aw_lmul (pc := 267) dX0_layEnds_267 ?_
      refine aw_ladd (pc := 268) dX0_layEnds_268 ?_
      refine aw_lstore (pc := 269) [(17, .long (v14 + ((Int32.toInt64 (((x2 <<< ((8 : Int32) &&& 31)) ||| (x3 <<< ((4 : Int32) &&& 31))) ||| x14)) * x12))), (15, .long ((Int32.toInt64 v9) + v13)), (0, .ref x0), (1, .int x1), (2, .int x2), (3, .int x3), (4, .int x4), (6, .int x6), (7, .int x7), (9, .int x9), (10, .long x10), (12, .long x12), (14, .int x14)] dX0_layEnds_269 (by decide) rfl ?_
      refine aw_aload_n (pc := 271) 2 dX0_layEnds_271 rfl ?_
      obtain ⟨v15, e, h⟩ := op_bd h
      refine ow_gR (pc := 272) e dX0_layEnds_272 fd_X0_29 rfl ?_
      refine aw_iload_n (pc := 275) 3 dX0_layEnds_275 rfl ?_
      obtain ⟨v16, e, h⟩ := op_bd h
      refine ow_aR (pc := 276) e dX0_layEnds_276 (by decide) ?_
      refine aw_iload_n (pc := 277) 4 dX0_layEnds_277 rfl ?_
      refine aw_bipush (pc := 278) (v := (13 : Int32)) dX0_layEnds_278 (by decide) ?_
      refine aw_imul (pc := 280) dX0_layEnds_280 ?_
      refine aw_iload (pc := 281) 12 dX0_layEnds_281 rfl ?_
      refine aw_iadd (pc := 283) dX0_layEnds_283 ?_
      refine aw_aload_n (pc := 284) 2 dX0_layEnds_284 rfl ?_
      obtain ⟨v17, e, h⟩ := op_bd h
      refine ow_gL (pc := 285) e dX0_layEnds_285 fd_X0_187 ?_
      refine aw_iload (pc := 288) 7 dX0_layEnds_288 rfl ?_
      refine aw_i2l (pc := 290) dX0_layEnds_290 ?_
      refine aw_lload (pc := 291) 1 dX0_layEnds_291 rfl ?_
      refine aw_lmul (pc := 293) dX0_layEnds_293 ?_
      refine aw_ladd (pc := 294) dX0_layEnds_294 ?_
      refine aw_lload (pc := 295) 0 dX0_layEnds_295 rfl ?_
      obtain ⟨r18, e, h⟩ := op_bd h
      refine ow_cSv (pc := 297) [.ref v16, .int ((x2 * (13 : Int32)) + x14), .long (v17 + ((Int32.toInt64 x6) * ((Int32.toInt64 v9) + v13))), .long (v14 + ((Int32.toInt64 (((x2 <<< ((8 : Int32) &&& 31)) ||| (x3 <<< ((4 : Int32) &&& 31))) ||| x14)) * x12))] ((c_X0_offer _ _ _ _ _ _ e).mono (by decide)) rfl dX0_layEnds_297 cw_X0_234 rfl (Nat.le_of_ble_eq_true rfl) ?_
      refine aw_sub [2, 3, 4, 5, 6, 7, 8, 9, 10, 11, 12] rfl ?_
      exact c_X0_layEnds_300 K182 hK182 _ _ _ _ _ _ _ _ _ _ _ _ _ h
theorem c_X0_layEnds_182 {G : ah_G}   : ∀ (n : Nat) (x0 : Nat) (x1 : Int32) (x2 : Int32) (x3 : Int32) (x4 : Int32) (x6 : Int32) (x7 : Int32) (x9 : Int32) (x10 : Int64) (x12 : Int64) (x14 : Int32) (σ : ah_H) (r : ah_H), f_X0_layEnds_182   n x0 x1 x2 x3 x4 x6 x7 x9 x10 x12 x14 σ = some r → AW G m_X0_layEnds 2 0 0 182 [(0, .ref x0), (1, .int x1), (2, .int x2), (3, .int x3), (4, .int x4), (6, .int x6), (7, .int x7), (9, .int x9), (10, .long x10), (12, .long x12), (14, .int x14)] [] σ (ah_N G (ah_rv r)) := by
  intro n
  induction n with
  | zero => intro x0 x1 x2 x3 x4 x6 x7 x9 x10 x12 x14 σ r h; cases h
  | succ n ih => intro x0 x1 x2 x3 x4 x6 x7 x9 x10 x12 x14 σ r h; exact c_X0_layEnds_182_b   _ ih x0 x1 x2 x3 x4 x6 x7 x9 x10 x12 x14 σ r h
set_option maxRecDepth 100000 in
set_option maxHeartbeats 4000000 in
theorem c_X0_layEnds_159 {G : ah_G}   : ∀ (x0 : Nat) (x1 : Int32) (x2 : Int32) (x3 : Int32) (x4 : Int32) (x6 : Int32) (x7 : Int32) (x8 : Int32) (x9 : Int32) (σ : ah_H) (r : ah_H), f_X0_layEnds_159   x0 x1 x2 x3 x4 x6 x7 x8 x9 σ = some r → AW G m_X0_layEnds 2 0 0 159 [(0, .ref x0), (1, .int x1), (2, .int x2), (3, .int x3), (4, .int x4), (6, .int x6), (7, .int x7), (8, .int x8), (9, .int x9)] [] σ (ah_N G (ah_rv r)) := by
  intro x0 x1 x2 x3 x4 x6 x7 x8 x9 σ r h
  unfold f_X0_layEnds_159 at h
  refine aw_aload_n (pc := 159) 0 dX0_layEnds_159 rfl ?_
  obtain ⟨v1, e, h⟩ := op_bd h
  refine ow_gR (pc := 160) e dX0_layEnds_160 fd_X0_56 rfl ?_
  refine aw_iload_n (pc := 163) 1 dX0_layEnds_163 rfl ?_
  obtain ⟨r2, e, h⟩ := op_bd h
  refine ow_cVl (pc := 164) [.int x1] ((c_X1_greatest _ _ _ _ e).mono (by decide)) (op_ck_sh e) rfl dX0_layEnds_164 cw_X0_166 rfl (Nat.le_of_ble_eq_true rfl) ?_
  refine aw_lstore (pc := 167) [(10, .long r2.1), (0, .ref x0), (1, .int x1), (2, .int x2), (3, .int x3), (4, .int x4), (6, .int x6), (7, .int x7), (8, .int x8), (9, .int x9)] dX0_layEnds_167 (by decide) rfl ?_
  refine aw_lconst (pc := 169) (v := (1 : Int64)) dX0_layEnds_169 (by decide) ?_
  refine aw_aload_n (pc := 170) 1 dX0_layEnds_170 rfl ?_
  refine aw_iload_n (pc := 171) 2 dX0_layEnds_171 rfl ?_
  obtain ⟨r3, e, h⟩ := op_bd h
  refine ow_cVi (pc := 172) [.int x1] ((c_X0_shiftOf _ _ _ _ e).mono (by decide)) (op_ck_sh e) rfl dX0_layEnds_172 cw_X0_227 rfl (Nat.le_of_ble_eq_true rfl) ?_
  refine aw_lshl (pc := 175) dX0_layEnds_175 ?_
  refine aw_lstore (pc := 176) [(12, .long ((1 : Int64) <<< (Int32.toInt64 r3.1 &&& 63))), (10, .long r2.1), (0, .ref x0), (1, .int x1), (2, .int x2), (3, .int x3), (4, .int x4), (6, .int x6), (7, .int x7), (8, .int x8), (9, .int x9)] dX0_layEnds_176 (by decide) rfl ?_
  refine aw_iload (pc := 178) 9 dX0_layEnds_178 rfl ?_
  refine aw_istore (pc := 180) [(14, .int x8), (12, .long ((1 : Int64) <<< (Int32.toInt64 r3.1 &&& 63))), (10, .long r2.1), (0, .ref x0), (1, .int x1), (2, .int x2), (3, .int x3), (4, .int x4), (6, .int x6), (7, .int x7), (8, .int x8), (9, .int x9)] dX0_layEnds_180 (by decide) rfl ?_
  refine aw_sub [3, 4, 5, 6, 7, 8, 9, 11, 2, 1, 0] rfl ?_
  exact c_X0_layEnds_182  _ _ _ _ _ _ _ _ _ _ _ _ _ _ h
set_option maxRecDepth 100000 in
set_option maxHeartbeats 4000000 in
theorem c_X0_layEnds_0 {G : ah_G}   : ∀ (x0 : Nat) (x1 : Int32) (x2 : Int32) (x3 : Int32) (σ : ah_H) (r : ah_H), f_X0_layEnds_0   x0 x1 x2 x3 σ = some r → AW G m_X0_layEnds 2 0 0 0 [(0, .ref x0), (1, .int x1), (2, .int x2), (3, .int x3)] [] σ (ah_N G (ah_rv r)) := by
  intro x0 x1 x2 x3 σ r h
  unfold f_X0_layEnds_0 at h
  refine aw_aload_n (pc := 0) 0 dX0_layEnds_0 rfl ?_
  obtain ⟨v1, e, h⟩ := op_bd h
  refine ow_gR (pc := 1) e dX0_layEnds_1 fd_X0_11 rfl ?_
  refine aw_iload_n (pc := 4) 1 dX0_layEnds_4 rfl ?_
  obtain ⟨v2, e, h⟩ := op_bd h
  refine ow_aI (pc := 5) e dX0_layEnds_5 ?_
  refine aw_istore (pc := 6) [(4, .int v2), (0, .ref x0), (1, .int x1), (2, .int x2), (3, .int x3)] dX0_layEnds_6 (by decide) rfl ?_
  refine aw_aload_n (pc := 8) 1 dX0_layEnds_8 rfl ?_
  obtain ⟨v3, e, h⟩ := op_bd h
  refine ow_gR (pc := 9) e dX0_layEnds_9 fd_X0_64 rfl ?_
  refine aw_iload (pc := 12) 0 dX0_layEnds_12 rfl ?_
  refine aw_iload_n (pc := 14) 2 dX0_layEnds_14 rfl ?_
  obtain ⟨r4, e, h⟩ := op_bd h
  refine ow_cVi (pc := 15) [.int v2, .int x1] ((c_X9_otherEnd _ _ _ _ _ e).mono (by decide)) (op_ck_sh e) rfl dX0_layEnds_15 cw_X0_160 rfl (Nat.le_of_ble_eq_true rfl) ?_
  refine aw_istore (pc := 18) [(5, .int r4.1), (4, .int v2), (0, .ref x0), (1, .int x1), (2, .int x2), (3, .int x3)] dX0_layEnds_18 (by decide) rfl ?_
  refine aw_aload_n (pc := 20) 2 dX0_layEnds_20 rfl ?_
  obtain ⟨v5, e, h⟩ := op_bd h
  refine ow_gR (pc := 21) e dX0_layEnds_21 fd_X0_64 rfl ?_
  obtain ⟨v6, e, h⟩ := op_bd h
  refine ow_gR (pc := 24) e dX0_layEnds_24 fd_X0_214 rfl ?_
  refine aw_iload (pc := 27) 1 dX0_layEnds_27 rfl ?_
  obtain ⟨v7, e, h⟩ := op_bd h
  refine ow_aR (pc := 29) e dX0_layEnds_29 (by decide) ?_
  refine aw_iconst (pc := 30) (v := (2 : Int32)) dX0_layEnds_30 (by decide) ?_
  obtain ⟨v8, e, h⟩ := op_bd h
  refine ow_aI (pc := 31) e dX0_layEnds_31 ?_
  refine aw_istore (pc := 32) [(6, .int v8), (5, .int r4.1), (4, .int v2), (0, .ref x0), (1, .int x1), (2, .int x2), (3, .int x3)] dX0_layEnds_32 (by decide) rfl ?_
  refine aw_aload_n (pc := 34) 3 dX0_layEnds_34 rfl ?_
  obtain ⟨v9, e, h⟩ := op_bd h
  refine ow_gR (pc := 35) e dX0_layEnds_35 fd_X0_64 rfl ?_
  obtain ⟨v10, e, h⟩ := op_bd h
  refine ow_gR (pc := 38) e dX0_layEnds_38 fd_X0_216 rfl ?_
  refine aw_iload_n (pc := 41) 4 dX0_layEnds_41 rfl ?_
  obtain ⟨v11, e, h⟩ := op_bd h
  refine ow_aR (pc := 42) e dX0_layEnds_42 (by decide) ?_
  refine aw_iconst (pc := 43) (v := (0 : Int32)) dX0_layEnds_43 (by decide) ?_
  obtain ⟨v12, e, h⟩ := op_bd h
  refine ow_aI (pc := 44) e dX0_layEnds_44 ?_
  refine aw_iload_n (pc := 45) 6 dX0_layEnds_45 rfl ?_
  refine aw_isub (pc := 46) dX0_layEnds_46 ?_
  refine aw_aload_n (pc := 47) 3 dX0_layEnds_47 rfl ?_
  obtain ⟨v13, e, h⟩ := op_bd h
  refine ow_gR (pc := 48) e dX0_layEnds_48 fd_X0_64 rfl ?_
  obtain ⟨v14, e, h⟩ := op_bd h
  refine ow_gR (pc := 51) e dX0_layEnds_51 fd_X0_216 rfl ?_
  refine aw_iload (pc := 54) 1 dX0_layEnds_54 rfl ?_
  obtain ⟨v15, e, h⟩ := op_bd h
  refine ow_aR (pc := 56) e dX0_layEnds_56 (by decide) ?_
  refine aw_iconst (pc := 57) (v := (0 : Int32)) dX0_layEnds_57 (by decide) ?_
  obtain ⟨v16, e, h⟩ := op_bd h
  refine ow_aI (pc := 58) e dX0_layEnds_58 ?_
  refine aw_isub (pc := 59) dX0_layEnds_59 ?_
  refine aw_istore (pc := 60) [(7, .int ((v12 - x3) - v16)), (6, .int v8), (5, .int r4.1), (4, .int v2), (0, .ref x0), (1, .int x1), (2, .int x2), (3, .int x3)] dX0_layEnds_60 (by decide) rfl ?_
  refine aw_aload_n (pc := 62) 4 dX0_layEnds_62 rfl ?_
  obtain ⟨v17, e, h⟩ := op_bd h
  refine ow_gR (pc := 63) e dX0_layEnds_63 fd_X0_64 rfl ?_
  obtain ⟨v18, e, h⟩ := op_bd h
  refine ow_gR (pc := 66) e dX0_layEnds_66 fd_X0_142 rfl ?_
  refine aw_iconst (pc := 69) (v := (0 : Int32)) dX0_layEnds_69 (by decide) ?_
  obtain ⟨v19, e, h⟩ := op_bd h
  refine ow_aI (pc := 70) e dX0_layEnds_70 ?_
  refine aw_iload (pc := 71) 1 dX0_layEnds_71 rfl ?_
  refine aw_aload_n (pc := 73) 4 dX0_layEnds_73 rfl ?_
  obtain ⟨v20, e, h⟩ := op_bd h
  refine ow_gR (pc := 74) e dX0_layEnds_74 fd_X0_64 rfl ?_
  obtain ⟨v21, e, h⟩ := op_bd h
  refine ow_gR (pc := 77) e dX0_layEnds_77 fd_X0_126 rfl ?_
  refine aw_iconst (pc := 80) (v := (0 : Int32)) dX0_layEnds_80 (by decide) ?_
  obtain ⟨v22, e, h⟩ := op_bd h
  refine ow_aI (pc := 81) e dX0_layEnds_81 ?_
  refine aw_imul (pc := 82) dX0_layEnds_82 ?_
  refine aw_iload (pc := 83) 0 dX0_layEnds_83 rfl ?_
  refine aw_isub (pc := 85) dX0_layEnds_85 ?_
  refine ow_maxi (pc := 86) dX0_layEnds_86 mt_X0_219 (Nat.le_of_ble_eq_true rfl) ?_
  refine aw_istore (pc := 89) [(8, .int (op_maxi v19 ((v8 * v22) - ((v12 - x3) - v16)))), (7, .int ((v12 - x3) - v16)), (6, .int v8), (5, .int r4.1), (4, .int v2), (0, .ref x0), (1, .int x1), (2, .int x2), (3, .int x3)] dX0_layEnds_89 (by decide) rfl ?_
  refine aw_aload_n (pc := 91) 5 dX0_layEnds_91 rfl ?_
  obtain ⟨v23, e, h⟩ := op_bd h
  refine ow_gR (pc := 92) e dX0_layEnds_92 fd_X0_64 rfl ?_
  obtain ⟨v24, e, h⟩ := op_bd h
  refine ow_gR (pc := 95) e dX0_layEnds_95 fd_X0_142 rfl ?_
  refine aw_iconst (pc := 98) (v := (1 : Int32)) dX0_layEnds_98 (by decide) ?_
  obtain ⟨v25, e, h⟩ := op_bd h
  refine ow_aI (pc := 99) e dX0_layEnds_99 ?_
  refine aw_iload (pc := 100) 2 dX0_layEnds_100 rfl ?_
  refine aw_aload_n (pc := 102) 5 dX0_layEnds_102 rfl ?_
  obtain ⟨v26, e, h⟩ := op_bd h
  refine ow_gR (pc := 103) e dX0_layEnds_103 fd_X0_64 rfl ?_
  obtain ⟨v27, e, h⟩ := op_bd h
  refine ow_gR (pc := 106) e dX0_layEnds_106 fd_X0_126 rfl ?_
  refine aw_iconst (pc := 109) (v := (1 : Int32)) dX0_layEnds_109 (by decide) ?_
  obtain ⟨v28, e, h⟩ := op_bd h
  refine ow_aI (pc := 110) e dX0_layEnds_110 ?_
  refine aw_imul (pc := 111) dX0_layEnds_111 ?_
  refine aw_iload (pc := 112) 1 dX0_layEnds_112 rfl ?_
  refine aw_isub (pc := 114) dX0_layEnds_114 ?_
  refine ow_mini (pc := 115) dX0_layEnds_115 mt_X0_222 (Nat.le_of_ble_eq_true rfl) ?_
  refine aw_istore (pc := 118) [(9, .int (op_mini v25 ((v8 * v28) - ((v12 - x3) - v16)))), (8, .int (op_maxi v19 ((v8 * v22) - ((v12 - x3) - v16)))), (7, .int ((v12 - x3) - v16)), (6, .int v8), (5, .int r4.1), (4, .int v2), (0, .ref x0), (1, .int x1), (2, .int x2), (3, .int x3)] dX0_layEnds_118 (by decide) rfl ?_
  refine aw_iload (pc := 120) 4 dX0_layEnds_120 rfl ?_
  refine aw_aload_n (pc := 122) 6 dX0_layEnds_122 rfl ?_
  obtain ⟨v29, e, h⟩ := op_bd h
  refine ow_gR (pc := 123) e dX0_layEnds_123 fd_X0_64 rfl ?_
  obtain ⟨v30, e, h⟩ := op_bd h
  refine ow_gI (pc := 126) e dX0_layEnds_126 fd_X0_82 rfl ?_
  refine aw_icmp_ne (pc := 129) 159 dX0_layEnds_129 (by decide) (fun z => ?_) (fun z => ?_)
  · replace h := (if_neg z).symm.trans h
    refine aw_sub [6, 7, 8, 9, 5, 3, 2, 1, 0] rfl ?_
    exact c_X0_layEnds_159  _ _ _ _ _ _ _ _ _ _ _ h
  · replace h := (if_pos z).symm.trans h
    refine aw_iload (pc := 132) 0 dX0_layEnds_132 rfl ?_
    refine aw_aload_n (pc := 134) 6 dX0_layEnds_134 rfl ?_
    obtain ⟨v31, e, h⟩ := op_bd h
    refine ow_gR (pc := 135) e dX0_layEnds_135 fd_X0_64 rfl ?_
    obtain ⟨v32, e, h⟩ := op_bd h
    refine ow_gR (pc := 138) e dX0_layEnds_138 fd_X0_216 rfl ?_
    refine aw_iload (pc := 141) 4 dX0_layEnds_141 rfl ?_
    obtain ⟨v33, e, h⟩ := op_bd h
    refine ow_aR (pc := 143) e dX0_layEnds_143 (by decide) ?_
    refine aw_iconst (pc := 144) (v := (0 : Int32)) dX0_layEnds_144 (by decide) ?_
    obtain ⟨v34, e, h⟩ := op_bd h
    refine ow_aI (pc := 145) e dX0_layEnds_145 ?_
    refine aw_aload_n (pc := 146) 6 dX0_layEnds_146 rfl ?_
    obtain ⟨v35, e, h⟩ := op_bd h
    refine ow_gR (pc := 147) e dX0_layEnds_147 fd_X0_64 rfl ?_
    obtain ⟨v36, e, h⟩ := op_bd h
    refine ow_gI (pc := 150) e dX0_layEnds_150 fd_X0_224 rfl ?_
    refine aw_isub (pc := 153) dX0_layEnds_153 ?_
    refine ow_mini (pc := 154) dX0_layEnds_154 mt_X0_222 (Nat.le_of_ble_eq_true rfl) ?_
    refine aw_istore (pc := 157) [(9, .int (op_mini (op_mini v25 ((v8 * v28) - ((v12 - x3) - v16))) (v34 - v36))), (8, .int (op_maxi v19 ((v8 * v22) - ((v12 - x3) - v16)))), (7, .int ((v12 - x3) - v16)), (6, .int v8), (5, .int r4.1), (4, .int v2), (0, .ref x0), (1, .int x1), (2, .int x2), (3, .int x3)] dX0_layEnds_157 (by decide) rfl ?_
    refine aw_sub [6, 7, 8, 9, 5, 3, 2, 1, 0] rfl ?_
    exact c_X0_layEnds_159  _ _ _ _ _ _ _ _ _ _ _ h
theorem c_X0_layEnds {G : ah_G}   (x0 : Nat) (x1 : Int32) (x2 : Int32) (x3 : Int32) (σ : ah_H) (r : ah_H) (h : f_X0_layEnds  x0 x1 x2 x3 σ = some r) : AM G m_X0_layEnds 2 0 0 [.ref x0, .int x1, .int x2, .int x3] σ (ah_rv r) := aw_enter (by decide) (Nat.le_of_ble_eq_true rfl) (c_X0_layEnds_0 _ _ _ _ _ _ (op_ck_k h))
def f_X0_spread_131  (K2 : Nat → Nat → Nat → Int32 → ah_H → Option (ah_H)) (K24 : Nat → Nat → Nat → Int32 → Int32 → ah_H → Option (ah_H)) (x0 : Nat) (x1 : Nat) (x2 : Nat) (x3 : Int32) (x4 : Int32) (σ : ah_H) : Option (ah_H) :=
  K24 x0 x1 x2 x3 (x4 + (1 : Int32)) σ
def f_X0_spread_74  (K2 : Nat → Nat → Nat → Int32 → ah_H → Option (ah_H)) (K24 : Nat → Nat → Nat → Int32 → Int32 → ah_H → Option (ah_H)) (x0 : Nat) (x1 : Nat) (x2 : Nat) (x3 : Int32) (x4 : Int32) (x5 : Int32) (σ : ah_H) : Option (ah_H) :=
  (op_aL σ x1 x5).bind fun v1 => (op_sL σ x2 x5 v1).bind fun σ2 => (op_aL σ2 x1 ((52 : Int32) + x5)).bind fun v3 => (op_sL σ2 x2 ((52 : Int32) + x5) v3).bind fun σ4 => (op_gR 0 17 σ4 x0).bind fun v5 => (op_gR 9 12 σ4 v5).bind fun v6 => (op_aI σ4 v6 (0 : Int32)).bind fun v7 => if x4 ≤ v7 then (f_X0_spread_131 K2 K24 x0 x1 x2 x3 x4 σ4) else ((op_aL σ4 x2 (x5 - (1 : Int32))).bind fun v8 => (op_aL σ4 x2 (((52 : Int32) + x5) - (1 : Int32))).bind fun v9 => (f_X0_offer x2 x5 v8 v9 σ4).bind fun r10 => f_X0_spread_131 K2 K24 x0 x1 x2 x3 x4 r10)
def f_X0_spread_137  (K2 : Nat → Nat → Nat → Int32 → ah_H → Option (ah_H)) (x0 : Nat) (x1 : Nat) (x2 : Nat) (x3 : Int32) (σ : ah_H) : Option (ah_H) :=
  K2 x0 x1 x2 (x3 + (1 : Int32)) σ
def f_X0_spread_24_b  (K2 : Nat → Nat → Nat → Int32 → ah_H → Option (ah_H)) (K24 : Nat → Nat → Nat → Int32 → Int32 → ah_H → Option (ah_H)) (x0 : Nat) (x1 : Nat) (x2 : Nat) (x3 : Int32) (x4 : Int32) (σ : ah_H) : Option (ah_H) :=
  (op_gR 0 17 σ x0).bind fun v1 => (op_gR 9 12 σ v1).bind fun v2 => (op_aI σ v2 (1 : Int32)).bind fun v3 => if v3 < x4 then (f_X0_spread_137 K2 x0 x1 x2 x3 σ) else (if x3 ≤ 0 then (f_X0_spread_74 K2 K24 x0 x1 x2 x3 x4 ((x3 * (13 : Int32)) + x4) σ) else ((op_aL σ x1 (((x3 * (13 : Int32)) + x4) - (13 : Int32))).bind fun v4 => (op_aL σ x1 (((52 : Int32) + ((x3 * (13 : Int32)) + x4)) - (13 : Int32))).bind fun v5 => (f_X0_offer x1 ((x3 * (13 : Int32)) + x4) v4 v5 σ).bind fun r6 => f_X0_spread_74 K2 K24 x0 x1 x2 x3 x4 ((x3 * (13 : Int32)) + x4) r6))
def f_X0_spread_24  (K2 : Nat → Nat → Nat → Int32 → ah_H → Option (ah_H)) : Nat → Nat → Nat → Nat → Int32 → Int32 → ah_H → Option (ah_H)
  | 0, _, _, _, _, _, _ => none
  | n + 1, x0, x1, x2, x3, x4, σ => f_X0_spread_24_b K2 (f_X0_spread_24 K2 n) x0 x1 x2 x3 x4 σ
def f_X0_spread_2_b  (K2 : Nat → Nat → Nat → Int32 → ah_H → Option (ah_H)) (x0 : Nat) (x1 : Nat) (x2 : Nat) (x3 : Int32) (σ : ah_H) : Option (ah_H) :=
  (op_gR 0 17 σ x0).bind fun v1 => (op_gI 9 6 σ v1).bind fun v2 => if v2 ≤ x3 then (some σ) else ((op_gR 0 17 σ x0).bind fun v3 => (op_gR 9 12 σ v3).bind fun v4 => (op_aI σ v4 (0 : Int32)).bind fun v5 => f_X0_spread_24 K2 5000 x0 x1 x2 x3 v5 σ)
def f_X0_spread_2   : Nat → Nat → Nat → Nat → Int32 → ah_H → Option (ah_H)
  | 0, _, _, _, _, _ => none
  | n + 1, x0, x1, x2, x3, σ => f_X0_spread_2_b (f_X0_spread_2 n) x0 x1 x2 x3 σ
def f_X0_spread_0   (x0 : Nat) (x1 : Nat) (x2 : Nat) (σ : ah_H) : Option (ah_H) :=
  f_X0_spread_2 5000 x0 x1 x2 (0 : Int32) σ
def f_X0_spread  (x0 : Nat) (x1 : Nat) (x2 : Nat) (σ : ah_H) : Option (ah_H) := op_ck 0 σ x0 (f_X0_spread_0 x0 x1 x2 σ)
set_option maxRecDepth 100000 in
set_option maxHeartbeats 4000000 in
theorem c_X0_spread_131 {G : ah_G}  (K2 : Nat → Nat → Nat → Int32 → ah_H → Option (ah_H)) (hK2 : ∀ (x0 : Nat) (x1 : Nat) (x2 : Nat) (x3 : Int32) (σ : ah_H) (r : ah_H), K2 x0 x1 x2 x3 σ = some r → AW G m_X0_spread 2 0 0 2 [(0, .ref x0), (1, .ref x1), (2, .ref x2), (3, .int x3)] [] σ (ah_N G (ah_rv r))) (K24 : Nat → Nat → Nat → Int32 → Int32 → ah_H → Option (ah_H)) (hK24 : ∀ (x0 : Nat) (x1 : Nat) (x2 : Nat) (x3 : Int32) (x4 : Int32) (σ : ah_H) (r : ah_H), K24 x0 x1 x2 x3 x4 σ = some r → AW G m_X0_spread 2 0 0 24 [(0, .ref x0), (1, .ref x1), (2, .ref x2), (3, .int x3), (4, .int x4)] [] σ (ah_N G (ah_rv r))) : ∀ (x0 : Nat) (x1 : Nat) (x2 : Nat) (x3 : Int32) (x4 : Int32) (σ : ah_H) (r : ah_H), f_X0_spread_131  K2 K24 x0 x1 x2 x3 x4 σ = some r → AW G m_X0_spread 2 0 0 131 [(0, .ref x0), (1, .ref x1), (2, .ref x2), (3, .int x3), (4, .int x4)] [] σ (ah_N G (ah_rv r)) := by
  intro x0 x1 x2 x3 x4 σ r h
  unfold f_X0_spread_131 at h
  refine aw_iinc (pc := 131) 4 [(4, .int (x4 + (1 : Int32))), (0, .ref x0), (1, .ref x1), (2, .ref x2), (3, .int x3)] (x4 + (1 : Int32)) dX0_spread_131 rfl rfl (by decide) rfl ?_
  refine aw_goto (pc := 134) 24 dX0_spread_134 (by decide) ?_
  refine aw_sub [1, 2, 3, 4, 0] rfl ?_
  exact hK24 _ _ _ _ _ _ _ h
set_option maxRecDepth 100000 in
set_option maxHeartbeats 4000000 in
theorem c_X0_spread_74 {G : ah_G}  (K2 : Nat → Nat → Nat → Int32 → ah_H → Option (ah_H)) (hK2 : ∀ (x0 : Nat) (x1 : Nat) (x2 : Nat) (x3 : Int32) (σ : ah_H) (r : ah_H), K2 x0 x1 x2 x3 σ = some r → AW G m_X0_spread 2 0 0 2 [(0, .ref x0), (1, .ref x1), (2, .ref x2), (3, .int x3)] [] σ (ah_N G (ah_rv r))) (K24 : Nat → Nat → Nat → Int32 → Int32 → ah_H → Option (ah_H)) (hK24 : ∀ (x0 : Nat) (x1 : Nat) (x2 : Nat) (x3 : Int32) (x4 : Int32) (σ : ah_H) (r : ah_H), K24 x0 x1 x2 x3 x4 σ = some r → AW G m_X0_spread 2 0 0 24 [(0, .ref x0), (1, .ref x1), (2, .ref x2), (3, .int x3), (4, .int x4)] [] σ (ah_N G (ah_rv r))) : ∀ (x0 : Nat) (x1 : Nat) (x2 : Nat) (x3 : Int32) (x4 : Int32) (x5 : Int32) (σ : ah_H) (r : ah_H), f_X0_spread_74  K2 K24 x0 x1 x2 x3 x4 x5 σ = some r → AW G m_X0_spread 2 0 0 74 [(0, .ref x0), (1, .ref x1), (2, .ref x2), (3, .int x3), (4, .int x4), (5, .int x5)] [] σ (ah_N G (ah_rv r)) := by
  intro x0 x1 x2 x3 x4 x5 σ r h
  unfold f_X0_spread_74 at h
  refine aw_aload_n (pc := 74) 2 dX0_spread_74 rfl ?_
  refine aw_iload (pc := 75) 5 dX0_spread_75 rfl ?_
  refine aw_aload_n (pc := 77) 1 dX0_spread_77 rfl ?_
  refine aw_iload (pc := 78) 5 dX0_spread_78 rfl ?_
  obtain ⟨v1, e, h⟩ := op_bd h
  refine ow_aL (pc := 80) e dX0_spread_80 ?_
  obtain ⟨σ2, e, h⟩ := op_bd h
  refine ow_sL (pc := 81) e dX0_spread_81 ?_
  refine aw_aload_n (pc := 82) 2 dX0_spread_82 rfl ?_
  refine aw_bipush (pc := 83) (v := (52 : Int32)) dX0_spread_83 (by decide) ?_
  refine aw_iload (pc := 85) 5 dX0_spread_85 rfl ?_
  refine aw_iadd (pc := 87) dX0_spread_87 ?_
  refine aw_aload_n (pc := 88) 1 dX0_spread_88 rfl ?_
  refine aw_bipush (pc := 89) (v := (52 : Int32)) dX0_spread_89 (by decide) ?_
  refine aw_iload (pc := 91) 5 dX0_spread_91 rfl ?_
  refine aw_iadd (pc := 93) dX0_spread_93 ?_
  obtain ⟨v3, e, h⟩ := op_bd h
  refine ow_aL (pc := 94) e dX0_spread_94 ?_
  obtain ⟨σ4, e, h⟩ := op_bd h
  refine ow_sL (pc := 95) e dX0_spread_95 ?_
  refine aw_iload (pc := 96) 4 dX0_spread_96 rfl ?_
  refine aw_aload_n (pc := 98) 0 dX0_spread_98 rfl ?_
  obtain ⟨v5, e, h⟩ := op_bd h
  refine ow_gR (pc := 99) e dX0_spread_99 fd_X0_64 rfl ?_
  obtain ⟨v6, e, h⟩ := op_bd h
  refine ow_gR (pc := 102) e dX0_spread_102 fd_X0_142 rfl ?_
  refine aw_iconst (pc := 105) (v := (0 : Int32)) dX0_spread_105 (by decide) ?_
  obtain ⟨v7, e, h⟩ := op_bd h
  refine ow_aI (pc := 106) e dX0_spread_106 ?_
  refine aw_icmp_le (pc := 107) 131 dX0_spread_107 (by decide) (fun z => ?_) (fun z => ?_)
  · replace h := (if_pos z).symm.trans h
    refine aw_sub [0, 1, 2, 3, 4] rfl ?_
    exact c_X0_spread_131 K2 hK2 K24 hK24 _ _ _ _ _ _ _ h
  · replace h := (if_neg z).symm.trans h
    refine aw_aload_n (pc := 110) 2 dX0_spread_110 rfl ?_
    refine aw_iload (pc := 111) 5 dX0_spread_111 rfl ?_
    refine aw_aload_n (pc := 113) 2 dX0_spread_113 rfl ?_
    refine aw_iload (pc := 114) 5 dX0_spread_114 rfl ?_
    refine aw_iconst (pc := 116) (v := (1 : Int32)) dX0_spread_116 (by decide) ?_
    refine aw_isub (pc := 117) dX0_spread_117 ?_
    obtain ⟨v8, e, h⟩ := op_bd h
    refine ow_aL (pc := 118) e dX0_spread_118 ?_
    refine aw_aload_n (pc := 119) 2 dX0_spread_119 rfl ?_
    refine aw_bipush (pc := 120) (v := (52 : Int32)) dX0_spread_120 (by decide) ?_
    refine aw_iload (pc := 122) 5 dX0_spread_122 rfl ?_
    refine aw_iadd (pc := 124) dX0_spread_124 ?_
    refine aw_iconst (pc := 125) (v := (1 : Int32)) dX0_spread_125 (by decide) ?_
    refine aw_isub (pc := 126) dX0_spread_126 ?_
    obtain ⟨v9, e, h⟩ := op_bd h
    refine ow_aL (pc := 127) e dX0_spread_127 ?_
    obtain ⟨r10, e, h⟩ := op_bd h
    refine ow_cSv (pc := 128) [.ref x2, .int x5, .long v8, .long v9] ((c_X0_offer _ _ _ _ _ _ e).mono (by decide)) rfl dX0_spread_128 cw_X0_234 rfl (Nat.le_of_ble_eq_true rfl) ?_
    refine aw_sub [0, 1, 2, 3, 4] rfl ?_
    exact c_X0_spread_131 K2 hK2 K24 hK24 _ _ _ _ _ _ _ h
set_option maxRecDepth 100000 in
set_option maxHeartbeats 4000000 in
theorem c_X0_spread_137 {G : ah_G}  (K2 : Nat → Nat → Nat → Int32 → ah_H → Option (ah_H)) (hK2 : ∀ (x0 : Nat) (x1 : Nat) (x2 : Nat) (x3 : Int32) (σ : ah_H) (r : ah_H), K2 x0 x1 x2 x3 σ = some r → AW G m_X0_spread 2 0 0 2 [(0, .ref x0), (1, .ref x1), (2, .ref x2), (3, .int x3)] [] σ (ah_N G (ah_rv r))) : ∀ (x0 : Nat) (x1 : Nat) (x2 : Nat) (x3 : Int32) (σ : ah_H) (r : ah_H), f_X0_spread_137  K2 x0 x1 x2 x3 σ = some r → AW G m_X0_spread 2 0 0 137 [(0, .ref x0), (1, .ref x1), (2, .ref x2), (3, .int x3)] [] σ (ah_N G (ah_rv r)) := by
  intro x0 x1 x2 x3 σ r h
  unfold f_X0_spread_137 at h
  refine aw_iinc (pc := 137) 3 [(3, .int (x3 + (1 : Int32))), (0, .ref x0), (1, .ref x1), (2, .ref x2)] (x3 + (1 : Int32)) dX0_spread_137 rfl rfl (by decide) rfl ?_
  refine aw_goto (pc := 140) 2 dX0_spread_140 (by decide) ?_
  refine aw_sub [1, 2, 3, 0] rfl ?_
  exact hK2 _ _ _ _ _ _ h
set_option maxRecDepth 100000 in
set_option maxHeartbeats 4000000 in
theorem c_X0_spread_24_b {G : ah_G}  (K2 : Nat → Nat → Nat → Int32 → ah_H → Option (ah_H)) (hK2 : ∀ (x0 : Nat) (x1 : Nat) (x2 : Nat) (x3 : Int32) (σ : ah_H) (r : ah_H), K2 x0 x1 x2 x3 σ = some r → AW G m_X0_spread 2 0 0 2 [(0, .ref x0), (1, .ref x1), (2, .ref x2), (3, .int x3)] [] σ (ah_N G (ah_rv r))) (K24 : Nat → Nat → Nat → Int32 → Int32 → ah_H → Option (ah_H)) (hK24 : ∀ (x0 : Nat) (x1 : Nat) (x2 : Nat) (x3 : Int32) (x4 : Int32) (σ : ah_H) (r : ah_H), K24 x0 x1 x2 x3 x4 σ = some r → AW G m_X0_spread 2 0 0 24 [(0, .ref x0), (1, .ref x1), (2, .ref x2), (3, .int x3), (4, .int x4)] [] σ (ah_N G (ah_rv r))) : ∀ (x0 : Nat) (x1 : Nat) (x2 : Nat) (x3 : Int32) (x4 : Int32) (σ : ah_H) (r : ah_H), f_X0_spread_24_b  K2 K24 x0 x1 x2 x3 x4 σ = some r → AW G m_X0_spread 2 0 0 24 [(0, .ref x0), (1, .ref x1), (2, .ref x2), (3, .int x3), (4, .int x4)] [] σ (ah_N G (ah_rv r)) := by
  intro x0 x1 x2 x3 x4 σ r h
  unfold f_X0_spread_24_b at h
  refine aw_iload (pc := 24) 4 dX0_spread_24 rfl ?_
  refine aw_aload_n (pc := 26) 0 dX0_spread_26 rfl ?_
  obtain ⟨v1, e, h⟩ := op_bd h
  refine ow_gR (pc := 27) e dX0_spread_27 fd_X0_64 rfl ?_
  obtain ⟨v2, e, h⟩ := op_bd h
  refine ow_gR (pc := 30) e dX0_spread_30 fd_X0_142 rfl ?_
  refine aw_iconst (pc := 33) (v := (1 : Int32)) dX0_spread_33 (by decide) ?_
  obtain ⟨v3, e, h⟩ := op_bd h
  refine ow_aI (pc := 34) e dX0_spread_34 ?_
  refine aw_icmp_gt (pc := 35) 137 dX0_spread_35 (by decide) (fun z => ?_) (fun z => ?_)
  · replace h := (if_pos z).symm.trans h
    refine aw_sub [0, 1, 2, 3] rfl ?_
    exact c_X0_spread_137 K2 hK2 _ _ _ _ _ _ h
  · replace h := (if_neg z).symm.trans h
    refine aw_iload_n (pc := 38) 3 dX0_spread_38 rfl ?_
    refine aw_bipush (pc := 39) (v := (13 : Int32)) dX0_spread_39 (by decide) ?_
    refine aw_imul (pc := 41) dX0_spread_41 ?_
    refine aw_iload (pc := 42) 4 dX0_spread_42 rfl ?_
    refine aw_iadd (pc := 44) dX0_spread_44 ?_
    refine aw_istore (pc := 45) [(5, .int ((x3 * (13 : Int32)) + x4)), (0, .ref x0), (1, .ref x1), (2, .ref x2), (3, .int x3), (4, .int x4)] dX0_spread_45 (by decide) rfl ?_
    refine aw_iload_n (pc := 47) 4 dX0_spread_47 rfl ?_
    refine aw_if_le (pc := 48) 74 dX0_spread_48 (by decide) (fun z => ?_) (fun z => ?_)
    · replace h := (if_pos z).symm.trans h
      refine aw_sub [1, 2, 3, 4, 5, 0] rfl ?_
      exact c_X0_spread_74 K2 hK2 K24 hK24 _ _ _ _ _ _ _ _ h
    · replace h := (if_neg z).symm.trans h
      refine aw_aload_n (pc := 51) 2 dX0_spread_51 rfl ?_
      refine aw_iload (pc := 52) 0 dX0_spread_52 rfl ?_
      refine aw_aload_n (pc := 54) 2 dX0_spread_54 rfl ?_
      refine aw_iload (pc := 55) 0 dX0_spread_55 rfl ?_
      refine aw_bipush (pc := 57) (v := (13 : Int32)) dX0_spread_57 (by decide) ?_
      refine aw_isub (pc := 59) dX0_spread_59 ?_
      obtain ⟨v4, e, h⟩ := op_bd h
      refine ow_aL (pc := 60) e dX0_spread_60 ?_
      refine aw_aload_n (pc := 61) 2 dX0_spread_61 rfl ?_
      refine aw_bipush (pc := 62) (v := (52 : Int32)) dX0_spread_62 (by decide) ?_
      refine aw_iload (pc := 64) 0 dX0_spread_64 rfl ?_
      refine aw_iadd (pc := 66) dX0_spread_66 ?_
      refine aw_bipush (pc := 67) (v := (13 : Int32)) dX0_spread_67 (by decide) ?_
      refine aw_isub (pc := 69) dX0_spread_69 ?_
      obtain ⟨v5, e, h⟩ := op_bd h
      refine ow_aL (pc := 70) e dX0_spread_70 ?_
      obtain ⟨r6, e, h⟩ := op_bd h
      refine ow_cSv (pc := 71) [.ref x1, .int ((x3 * (13 : Int32)) + x4), .long v4, .long v5] ((c_X0_offer _ _ _ _ _ _ e).mono (by decide)) rfl dX0_spread_71 cw_X0_234 rfl (Nat.le_of_ble_eq_true rfl) ?_
      refine aw_sub [1, 2, 3, 4, 5, 0] rfl ?_
      exact c_X0_spread_74 K2 hK2 K24 hK24 _ _ _ _ _ _ _ _ h
theorem c_X0_spread_24 {G : ah_G}  (K2 : Nat → Nat → Nat → Int32 → ah_H → Option (ah_H)) (hK2 : ∀ (x0 : Nat) (x1 : Nat) (x2 : Nat) (x3 : Int32) (σ : ah_H) (r : ah_H), K2 x0 x1 x2 x3 σ = some r → AW G m_X0_spread 2 0 0 2 [(0, .ref x0), (1, .ref x1), (2, .ref x2), (3, .int x3)] [] σ (ah_N G (ah_rv r))) : ∀ (n : Nat) (x0 : Nat) (x1 : Nat) (x2 : Nat) (x3 : Int32) (x4 : Int32) (σ : ah_H) (r : ah_H), f_X0_spread_24  K2 n x0 x1 x2 x3 x4 σ = some r → AW G m_X0_spread 2 0 0 24 [(0, .ref x0), (1, .ref x1), (2, .ref x2), (3, .int x3), (4, .int x4)] [] σ (ah_N G (ah_rv r)) := by
  intro n
  induction n with
  | zero => intro x0 x1 x2 x3 x4 σ r h; cases h
  | succ n ih => intro x0 x1 x2 x3 x4 σ r h; exact c_X0_spread_24_b  K2 hK2 _ ih x0 x1 x2 x3 x4 σ r h
set_option maxRecDepth 100000 in
set_option maxHeartbeats 4000000 in
theorem c_X0_spread_2_b {G : ah_G}  (K2 : Nat → Nat → Nat → Int32 → ah_H → Option (ah_H)) (hK2 : ∀ (x0 : Nat) (x1 : Nat) (x2 : Nat) (x3 : Int32) (σ : ah_H) (r : ah_H), K2 x0 x1 x2 x3 σ = some r → AW G m_X0_spread 2 0 0 2 [(0, .ref x0), (1, .ref x1), (2, .ref x2), (3, .int x3)] [] σ (ah_N G (ah_rv r))) : ∀ (x0 : Nat) (x1 : Nat) (x2 : Nat) (x3 : Int32) (σ : ah_H) (r : ah_H), f_X0_spread_2_b  K2 x0 x1 x2 x3 σ = some r → AW G m_X0_spread 2 0 0 2 [(0, .ref x0), (1, .ref x1), (2, .ref x2), (3, .int x3)] [] σ (ah_N G (ah_rv r)) := by
  intro x0 x1 x2 x3 σ r h
  unfold f_X0_spread_2_b at h
  refine aw_iload_n (pc := 2) 3 dX0_spread_2 rfl ?_
  refine aw_aload_n (pc := 3) 0 dX0_spread_3 rfl ?_
  obtain ⟨v1, e, h⟩ := op_bd h
  refine ow_gR (pc := 4) e dX0_spread_4 fd_X0_64 rfl ?_
  obtain ⟨v2, e, h⟩ := op_bd h
  refine ow_gI (pc := 7) e dX0_spread_7 fd_X0_119 rfl ?_
  refine aw_icmp_ge (pc := 10) 143 dX0_spread_10 (by decide) (fun z => ?_) (fun z => ?_)
  · replace h := (if_pos z).symm.trans h
    exact ow_vret (pc := 143) h dX0_spread_143 rfl
  · replace h := (if_neg z).symm.trans h
    refine aw_aload_n (pc := 13) 0 dX0_spread_13 rfl ?_
    obtain ⟨v3, e, h⟩ := op_bd h
    refine ow_gR (pc := 14) e dX0_spread_14 fd_X0_64 rfl ?_
    obtain ⟨v4, e, h⟩ := op_bd h
    refine ow_gR (pc := 17) e dX0_spread_17 fd_X0_142 rfl ?_
    refine aw_iconst (pc := 20) (v := (0 : Int32)) dX0_spread_20 (by decide) ?_
    obtain ⟨v5, e, h⟩ := op_bd h
    refine ow_aI (pc := 21) e dX0_spread_21 ?_
    refine aw_istore (pc := 22) [(4, .int v5), (0, .ref x0), (1, .ref x1), (2, .ref x2), (3, .int x3)] dX0_spread_22 (by decide) rfl ?_
    refine aw_sub [1, 2, 3, 4, 0] rfl ?_
    exact c_X0_spread_24 K2 hK2 _ _ _ _ _ _ _ _ h
theorem c_X0_spread_2 {G : ah_G}   : ∀ (n : Nat) (x0 : Nat) (x1 : Nat) (x2 : Nat) (x3 : Int32) (σ : ah_H) (r : ah_H), f_X0_spread_2   n x0 x1 x2 x3 σ = some r → AW G m_X0_spread 2 0 0 2 [(0, .ref x0), (1, .ref x1), (2, .ref x2), (3, .int x3)] [] σ (ah_N G (ah_rv r)) := by
  intro n
  induction n with
  | zero => intro x0 x1 x2 x3 σ r h; cases h
  | succ n ih => intro x0 x1 x2 x3 σ r h; exact c_X0_spread_2_b   _ ih x0 x1 x2 x3 σ r h
set_option maxRecDepth 100000 in
set_option maxHeartbeats 4000000 in
theorem c_X0_spread_0 {G : ah_G}   : ∀ (x0 : Nat) (x1 : Nat) (x2 : Nat) (σ : ah_H) (r : ah_H), f_X0_spread_0   x0 x1 x2 σ = some r → AW G m_X0_spread 2 0 0 0 [(0, .ref x0), (1, .ref x1), (2, .ref x2)] [] σ (ah_N G (ah_rv r)) := by
  intro x0 x1 x2 σ r h
  unfold f_X0_spread_0 at h
  refine aw_iconst (pc := 0) (v := (0 : Int32)) dX0_spread_0 (by decide) ?_
  refine aw_istore_n (pc := 1) [(3, .int (0 : Int32)), (0, .ref x0), (1, .ref x1), (2, .ref x2)] dX0_spread_1 rfl (by decide) rfl ?_
  refine aw_sub [1, 2, 3, 0] rfl ?_
  exact c_X0_spread_2  _ _ _ _ _ _ _ h
theorem c_X0_spread {G : ah_G}   (x0 : Nat) (x1 : Nat) (x2 : Nat) (σ : ah_H) (r : ah_H) (h : f_X0_spread  x0 x1 x2 σ = some r) : AM G m_X0_spread 2 0 0 [.ref x0, .ref x1, .ref x2] σ (ah_rv r) := aw_enter (by decide) (Nat.le_of_ble_eq_true rfl) (c_X0_spread_0 _ _ _ _ _ (op_ck_k h))
