def f_X10_settle_55  (K20 : Nat → Int32 → ah_H → Option (ah_H)) (x0 : Nat) (x1 : Int32) (σ : ah_H) : Option (ah_H) :=
  K20 x0 (x1 + (1 : Int32)) σ
def f_X10_settle_94   (s0 : Nat) (s1 : Int64) (σ : ah_H) : Option (ah_H) :=
  (op_pL 10 0 σ s0 s1).bind fun σ1 => some σ1
def f_X10_settle_61   (x0 : Nat) (σ : ah_H) : Option (ah_H) :=
  (f_X10_bestAvoiding x0 (0 : Int32) σ).bind fun r1 => (op_pI 10 1 r1.2 x0 r1.1).bind fun σ2 => (op_gI 10 1 σ2 x0).bind fun v3 => if v3 = (-1 : Int32) then (f_X10_settle_94 x0 (-2 : Int64) σ2) else ((op_gR 10 4 σ2 x0).bind fun v4 => (op_gI 10 1 σ2 x0).bind fun v5 => (op_aL σ2 v4 v5).bind fun v6 => f_X10_settle_94 x0 v6 σ2)
def f_X10_settle_20_b  (K20 : Nat → Int32 → ah_H → Option (ah_H)) (x0 : Nat) (x1 : Int32) (σ : ah_H) : Option (ah_H) :=
  (op_gR 10 6 σ x0).bind fun v1 => (op_gI 9 4 σ v1).bind fun v2 => if ((1 : Int32) <<< (v2 &&& 31)) ≤ x1 then (f_X10_settle_61 x0 σ) else ((f_X10_costOf x0 x1 σ).bind fun r3 => if (lg_cmp r3.1 (-1 : Int64)) = 0 then (f_X10_settle_55 K20 x0 x1 r3.2) else ((op_gI 10 2 r3.2 x0).bind fun v4 => (op_pI 10 2 r3.2 x0 (v4 + (1 : Int32))).bind fun σ5 => f_X10_settle_55 K20 x0 x1 σ5))
def f_X10_settle_20   : Nat → Nat → Int32 → ah_H → Option (ah_H)
  | 0, _, _, _ => none
  | n + 1, x0, x1, σ => f_X10_settle_20_b (f_X10_settle_20 n) x0 x1 σ
def f_X10_settle_0   (x0 : Nat) (σ : ah_H) : Option (ah_H) :=
  (op_gI 10 7 σ x0).bind fun v1 => if v1 = 0 then ((op_pZ 10 7 σ x0 (1 : Int32)).bind fun σ2 => (op_pI 10 2 σ2 x0 (0 : Int32)).bind fun σ3 => f_X10_settle_20 5000 x0 (0 : Int32) σ3) else (some σ)
def f_X10_settle  (x0 : Nat) (σ : ah_H) : Option (ah_H) := op_ck 10 σ x0 (f_X10_settle_0 x0 σ)
set_option maxRecDepth 100000 in
set_option maxHeartbeats 4000000 in
theorem c_X10_settle_55 {G : ah_G}  (K20 : Nat → Int32 → ah_H → Option (ah_H)) (hK20 : ∀ (x0 : Nat) (x1 : Int32) (σ : ah_H) (r : ah_H), K20 x0 x1 σ = some r → AW G m_X10_settle 6 0 0 20 [(0, .ref x0), (1, .int x1)] [] σ (ah_N G (ah_rv r))) : ∀ (x0 : Nat) (x1 : Int32) (σ : ah_H) (r : ah_H), f_X10_settle_55  K20 x0 x1 σ = some r → AW G m_X10_settle 6 0 0 55 [(0, .ref x0), (1, .int x1)] [] σ (ah_N G (ah_rv r)) := by
  intro x0 x1 σ r h
  unfold f_X10_settle_55 at h
  refine aw_iinc (pc := 55) 1 [(1, .int (x1 + (1 : Int32))), (0, .ref x0)] (x1 + (1 : Int32)) dX10_settle_55 rfl rfl (by decide) rfl ?_
  refine aw_goto (pc := 58) 20 dX10_settle_58 (by decide) ?_
  refine aw_sub [1, 0] rfl ?_
  exact hK20 _ _ _ _ h
set_option maxRecDepth 100000 in
set_option maxHeartbeats 4000000 in
theorem c_X10_settle_94 {G : ah_G}   : ∀ (s0 : Nat) (s1 : Int64) (σ : ah_H) (r : ah_H), f_X10_settle_94   s0 s1 σ = some r → AW G m_X10_settle 6 0 0 94 [] [.long s1, .ref s0] σ (ah_N G (ah_rv r)) := by
  intro s0 s1 σ r h
  unfold f_X10_settle_94 at h
  obtain ⟨σ1, e, h⟩ := op_bd h
  refine ow_pL (pc := 94) e dX10_settle_94 fd_X10_96 ?_
  exact ow_vret (pc := 97) h dX10_settle_97 rfl
set_option maxRecDepth 100000 in
set_option maxHeartbeats 4000000 in
theorem c_X10_settle_61 {G : ah_G}   : ∀ (x0 : Nat) (σ : ah_H) (r : ah_H), f_X10_settle_61   x0 σ = some r → AW G m_X10_settle 6 0 0 61 [(0, .ref x0)] [] σ (ah_N G (ah_rv r)) := by
  intro x0 σ r h
  unfold f_X10_settle_61 at h
  refine aw_aload_n (pc := 61) 0 dX10_settle_61 rfl ?_
  refine aw_aload_n (pc := 62) 0 dX10_settle_62 rfl ?_
  refine aw_iconst (pc := 63) (v := (0 : Int32)) dX10_settle_63 (by decide) ?_
  obtain ⟨r1, e, h⟩ := op_bd h
  refine ow_cVi (pc := 64) [.int (0 : Int32)] ((c_X10_bestAvoiding _ _ _ _ e).mono (by decide)) (op_ck_sh e) rfl dX10_settle_64 cw_X10_88 rfl (Nat.le_of_ble_eq_true rfl) ?_
  obtain ⟨σ2, e, h⟩ := op_bd h
  refine ow_pI (pc := 67) e dX10_settle_67 fd_X10_91 ?_
  refine aw_aload_n (pc := 70) 0 dX10_settle_70 rfl ?_
  refine aw_aload_n (pc := 71) 0 dX10_settle_71 rfl ?_
  obtain ⟨v3, e, h⟩ := op_bd h
  refine ow_gI (pc := 72) e dX10_settle_72 fd_X10_91 rfl ?_
  refine aw_iconst (pc := 75) (v := (-1 : Int32)) dX10_settle_75 (by decide) ?_
  refine aw_icmp_ne (pc := 76) 85 dX10_settle_76 (by decide) (fun z => ?_) (fun z => ?_)
  · replace h := (if_neg z).symm.trans h
    refine aw_aload_n (pc := 85) 0 dX10_settle_85 rfl ?_
    obtain ⟨v4, e, h⟩ := op_bd h
    refine ow_gR (pc := 86) e dX10_settle_86 fd_X10_11 rfl ?_
    refine aw_aload_n (pc := 89) 0 dX10_settle_89 rfl ?_
    obtain ⟨v5, e, h⟩ := op_bd h
    refine ow_gI (pc := 90) e dX10_settle_90 fd_X10_91 rfl ?_
    obtain ⟨v6, e, h⟩ := op_bd h
    refine ow_aL (pc := 93) e dX10_settle_93 ?_
    refine aw_sub [] rfl ?_
    exact c_X10_settle_94  _ _ _ _ h
  · replace h := (if_pos z).symm.trans h
    refine aw_ldc2 (pc := 79) dX10_settle_79 kl_X10_94 ?_
    refine aw_goto (pc := 82) 94 dX10_settle_82 (by decide) ?_
    refine aw_sub [] rfl ?_
    exact c_X10_settle_94  _ _ _ _ h
set_option maxRecDepth 100000 in
set_option maxHeartbeats 4000000 in
theorem c_X10_settle_20_b {G : ah_G}  (K20 : Nat → Int32 → ah_H → Option (ah_H)) (hK20 : ∀ (x0 : Nat) (x1 : Int32) (σ : ah_H) (r : ah_H), K20 x0 x1 σ = some r → AW G m_X10_settle 6 0 0 20 [(0, .ref x0), (1, .int x1)] [] σ (ah_N G (ah_rv r))) : ∀ (x0 : Nat) (x1 : Int32) (σ : ah_H) (r : ah_H), f_X10_settle_20_b  K20 x0 x1 σ = some r → AW G m_X10_settle 6 0 0 20 [(0, .ref x0), (1, .int x1)] [] σ (ah_N G (ah_rv r)) := by
  intro x0 x1 σ r h
  unfold f_X10_settle_20_b at h
  refine aw_iload_n (pc := 20) 1 dX10_settle_20 rfl ?_
  refine aw_iconst (pc := 21) (v := (1 : Int32)) dX10_settle_21 (by decide) ?_
  refine aw_aload_n (pc := 22) 0 dX10_settle_22 rfl ?_
  obtain ⟨v1, e, h⟩ := op_bd h
  refine ow_gR (pc := 23) e dX10_settle_23 fd_X10_30 rfl ?_
  obtain ⟨v2, e, h⟩ := op_bd h
  refine ow_gI (pc := 26) e dX10_settle_26 fd_X10_47 rfl ?_
  refine aw_ishl (pc := 29) dX10_settle_29 ?_
  refine aw_icmp_ge (pc := 30) 61 dX10_settle_30 (by decide) (fun z => ?_) (fun z => ?_)
  · replace h := (if_pos z).symm.trans h
    refine aw_sub [0] rfl ?_
    exact c_X10_settle_61  _ _ _ h
  · replace h := (if_neg z).symm.trans h
    refine aw_aload_n (pc := 33) 0 dX10_settle_33 rfl ?_
    refine aw_iload_n (pc := 34) 1 dX10_settle_34 rfl ?_
    obtain ⟨r3, e, h⟩ := op_bd h
    refine ow_cVl (pc := 35) [.int x1] ((c_X10_costOf _ _ _ _ e).mono (by decide)) (op_ck_sh e) rfl dX10_settle_35 cw_X10_85 rfl (Nat.le_of_ble_eq_true rfl) ?_
    refine aw_ldc2 (pc := 38) dX10_settle_38 kl_X10_53 ?_
    refine aw_lcmp (pc := 41) dX10_settle_41 ?_
    refine aw_if_eq (pc := 42) 55 dX10_settle_42 (by decide) (fun z => ?_) (fun z => ?_)
    · replace h := (if_pos z).symm.trans h
      exact c_X10_settle_55 K20 hK20 _ _ _ _ h
    · replace h := (if_neg z).symm.trans h
      refine aw_aload_n (pc := 45) 0 dX10_settle_45 rfl ?_
      refine aw_dup (pc := 46) dX10_settle_46 rfl ?_
      obtain ⟨v4, e, h⟩ := op_bd h
      refine ow_gI (pc := 47) e dX10_settle_47 fd_X10_82 rfl ?_
      refine aw_iconst (pc := 50) (v := (1 : Int32)) dX10_settle_50 (by decide) ?_
      refine aw_iadd (pc := 51) dX10_settle_51 ?_
      obtain ⟨σ5, e, h⟩ := op_bd h
      refine ow_pI (pc := 52) e dX10_settle_52 fd_X10_82 ?_
      exact c_X10_settle_55 K20 hK20 _ _ _ _ h
theorem c_X10_settle_20 {G : ah_G}   : ∀ (n : Nat) (x0 : Nat) (x1 : Int32) (σ : ah_H) (r : ah_H), f_X10_settle_20   n x0 x1 σ = some r → AW G m_X10_settle 6 0 0 20 [(0, .ref x0), (1, .int x1)] [] σ (ah_N G (ah_rv r)) := by
  intro n
  induction n with
  | zero => intro x0 x1 σ r h; cases h
  | succ n ih => intro x0 x1 σ r h; exact c_X10_settle_20_b   _ ih x0 x1 σ r h
set_option maxRecDepth 100000 in
set_option maxHeartbeats 4000000 in
theorem c_X10_settle_0 {G : ah_G}   : ∀ (x0 : Nat) (σ : ah_H) (r : ah_H), f_X10_settle_0   x0 σ = some r → AW G m_X10_settle 6 0 0 0 [(0, .ref x0)] [] σ (ah_N G (ah_rv r)) := by
  intro x0 σ r h
  unfold f_X10_settle_0 at h
  refine aw_aload_n (pc := 0) 0 dX10_settle_0 rfl ?_
  obtain ⟨v1, e, h⟩ := op_bd h
  refine ow_gI (pc := 1) e dX10_settle_1 fd_X10_34 rfl ?_
  refine aw_if_eq (pc := 4) 8 dX10_settle_4 (by decide) (fun z => ?_) (fun z => ?_)
  · replace h := (if_pos z).symm.trans h
    refine aw_aload_n (pc := 8) 0 dX10_settle_8 rfl ?_
    refine aw_iconst (pc := 9) (v := (1 : Int32)) dX10_settle_9 (by decide) ?_
    obtain ⟨σ2, e, h⟩ := op_bd h
    refine ow_pZ (pc := 10) e dX10_settle_10 fd_X10_34 ?_
    refine aw_aload_n (pc := 13) 0 dX10_settle_13 rfl ?_
    refine aw_iconst (pc := 14) (v := (0 : Int32)) dX10_settle_14 (by decide) ?_
    obtain ⟨σ3, e, h⟩ := op_bd h
    refine ow_pI (pc := 15) e dX10_settle_15 fd_X10_82 ?_
    refine aw_iconst (pc := 18) (v := (0 : Int32)) dX10_settle_18 (by decide) ?_
    refine aw_istore_n (pc := 19) [(1, .int (0 : Int32)), (0, .ref x0)] dX10_settle_19 rfl (by decide) rfl ?_
    refine aw_sub [1, 0] rfl ?_
    exact c_X10_settle_20  _ _ _ _ _ h
  · replace h := (if_neg z).symm.trans h
    exact ow_vret (pc := 7) h dX10_settle_7 rfl
theorem c_X10_settle {G : ah_G}   (x0 : Nat) (σ : ah_H) (r : ah_H) (h : f_X10_settle  x0 σ = some r) : AM G m_X10_settle 6 0 0 [.ref x0] σ (ah_rv r) := aw_enter (by decide) (Nat.le_of_ble_eq_true rfl) (c_X10_settle_0 _ _ _ (op_ck_k h))
def f_X10_leastAvoiding_0   (x0 : Nat) (x1 : Int32) (σ : ah_H) : Option (Int64 × ah_H) :=
  (f_X10_bestAvoiding x0 x1 σ).bind fun r1 => if r1.1 = (-1 : Int32) then (some ((-2 : Int64), r1.2)) else ((op_gR 10 4 r1.2 x0).bind fun v2 => (op_aL r1.2 v2 r1.1).bind fun v3 => some (v3, r1.2))
def f_X10_leastAvoiding  (x0 : Nat) (x1 : Int32) (σ : ah_H) : Option (Int64 × ah_H) := op_ck 10 σ x0 (f_X10_leastAvoiding_0 x0 x1 σ)
set_option maxRecDepth 100000 in
set_option maxHeartbeats 4000000 in
theorem c_X10_leastAvoiding_0 {G : ah_G}   : ∀ (x0 : Nat) (x1 : Int32) (σ : ah_H) (r : Int64 × ah_H), f_X10_leastAvoiding_0   x0 x1 σ = some r → AW G m_X10_leastAvoiding 1 0 0 0 [(0, .ref x0), (1, .int x1)] [] σ (ah_N G (ah_rl r)) := by
  intro x0 x1 σ r h
  unfold f_X10_leastAvoiding_0 at h
  refine aw_aload_n (pc := 0) 0 dX10_leastAvoiding_0 rfl ?_
  refine aw_iload_n (pc := 1) 1 dX10_leastAvoiding_1 rfl ?_
  obtain ⟨r1, e, h⟩ := op_bd h
  refine ow_cVi (pc := 2) [.int x1] ((c_X10_bestAvoiding _ _ _ _ e).mono (by decide)) (op_ck_sh e) rfl dX10_leastAvoiding_2 cw_X10_88 rfl (Nat.le_of_ble_eq_true rfl) ?_
  refine aw_istore_n (pc := 5) [(2, .int r1.1), (0, .ref x0), (1, .int x1)] dX10_leastAvoiding_5 rfl (by decide) rfl ?_
  refine aw_iload_n (pc := 6) 0 dX10_leastAvoiding_6 rfl ?_
  refine aw_iconst (pc := 7) (v := (-1 : Int32)) dX10_leastAvoiding_7 (by decide) ?_
  refine aw_icmp_ne (pc := 8) 17 dX10_leastAvoiding_8 (by decide) (fun z => ?_) (fun z => ?_)
  · replace h := (if_neg z).symm.trans h
    refine aw_aload_n (pc := 17) 1 dX10_leastAvoiding_17 rfl ?_
    obtain ⟨v2, e, h⟩ := op_bd h
    refine ow_gR (pc := 18) e dX10_leastAvoiding_18 fd_X10_11 rfl ?_
    refine aw_iload_n (pc := 21) 0 dX10_leastAvoiding_21 rfl ?_
    obtain ⟨v3, e, h⟩ := op_bd h
    refine ow_aL (pc := 22) e dX10_leastAvoiding_22 ?_
    exact ow_lret (pc := 23) h dX10_leastAvoiding_23 rfl
  · replace h := (if_pos z).symm.trans h
    refine aw_ldc2 (pc := 11) dX10_leastAvoiding_11 kl_X10_94 ?_
    refine aw_goto (pc := 14) 23 dX10_leastAvoiding_14 (by decide) ?_
    exact ow_lret (pc := 23) h dX10_leastAvoiding_23 rfl
theorem c_X10_leastAvoiding {G : ah_G}   (x0 : Nat) (x1 : Int32) (σ : ah_H) (r : Int64 × ah_H) (h : f_X10_leastAvoiding  x0 x1 σ = some r) : AM G m_X10_leastAvoiding 1 0 0 [.ref x0, .int x1] σ (ah_rl r) := aw_enter (by decide) (Nat.le_of_ble_eq_true rfl) (c_X10_leastAvoiding_0 _ _ _ _ (op_ck_k h))
def f_X3_serve_0   (x0 : Nat) (x1 : Nat) (σ : ah_H) : Option (ah_H) :=
  (op_pR 3 6 σ x0 x1).bind fun σ1 => (op_pZ 3 2 σ1 x0 (0 : Int32)).bind fun σ2 => some σ2
def f_X3_serve  (x0 : Nat) (x1 : Nat) (σ : ah_H) : Option (ah_H) := op_ck 3 σ x0 (f_X3_serve_0 x0 x1 σ)
set_option maxRecDepth 100000 in
set_option maxHeartbeats 4000000 in
theorem c_X3_serve_0 {G : ah_G}   : ∀ (x0 : Nat) (x1 : Nat) (σ : ah_H) (r : ah_H), f_X3_serve_0   x0 x1 σ = some r → AW G m_X3_serve 0 0 0 0 [(0, .ref x0), (1, .ref x1)] [] σ (ah_N G (ah_rv r)) := by
  intro x0 x1 σ r h
  unfold f_X3_serve_0 at h
  refine aw_aload_n (pc := 0) 0 dX3_serve_0 rfl ?_
  refine aw_aload_n (pc := 1) 1 dX3_serve_1 rfl ?_
  obtain ⟨σ1, e, h⟩ := op_bd h
  refine ow_pR (pc := 2) e dX3_serve_2 fd_X3_37 rfl ?_
  refine aw_aload_n (pc := 5) 0 dX3_serve_5 rfl ?_
  refine aw_iconst (pc := 6) (v := (0 : Int32)) dX3_serve_6 (by decide) ?_
  obtain ⟨σ2, e, h⟩ := op_bd h
  refine ow_pZ (pc := 7) e dX3_serve_7 fd_X3_41 ?_
  exact ow_vret (pc := 10) h dX3_serve_10 rfl
theorem c_X3_serve {G : ah_G}   (x0 : Nat) (x1 : Nat) (σ : ah_H) (r : ah_H) (h : f_X3_serve  x0 x1 σ = some r) : AM G m_X3_serve 0 0 0 [.ref x0, .ref x1] σ (ah_rv r) := aw_enter (by decide) (Nat.le_of_ble_eq_true rfl) (c_X3_serve_0 _ _ _ _ (op_ck_k h))
def f_X3_init_0   (x0 : Nat) (x1 : Nat) (x2 : Nat) (σ : ah_H) : Option (ah_H) :=
  (op_pR 3 5 σ x0 x1).bind fun σ1 => (op_nwO 1 σ1).bind fun r2 => (op_gR 5 0 r2.2 x1).bind fun v3 => (f_X1_init r2.1 v3 x2 r2.2).bind fun σ4 => (op_pR 3 0 σ4 x0 r2.1).bind fun σ5 => (op_nwO 1 σ5).bind fun r6 => (op_gR 5 0 r6.2 x1).bind fun v7 => (f_X1_init r6.1 v7 x2 r6.2).bind fun σ8 => (op_pR 3 1 σ8 x0 r6.1).bind fun σ9 => (f_X3_serve x0 x2 σ9).bind fun r10 => some r10
def f_X3_init  (x0 : Nat) (x1 : Nat) (x2 : Nat) (σ : ah_H) : Option (ah_H) := op_ck 3 σ x0 (f_X3_init_0 x0 x1 x2 σ)
set_option maxRecDepth 100000 in
set_option maxHeartbeats 4000000 in
theorem c_X3_init_0 {G : ah_G} (hex : ah_ex G)   : ∀ (x0 : Nat) (x1 : Nat) (x2 : Nat) (σ : ah_H) (r : ah_H), f_X3_init_0   x0 x1 x2 σ = some r → AW G m_X3_init 2 42 3462 0 [(0, .ref x0), (1, .ref x1), (2, .ref x2)] [] σ (ah_N G (ah_rv r)) := by
  intro x0 x1 x2 σ r h
  unfold f_X3_init_0 at h
  refine aw_aload_n (pc := 0) 0 dX3_init_0 rfl ?_
  refine ow_oi (pc := 1) dX3_init_1 oi_X3_3 (Nat.le_of_ble_eq_true rfl) ?_
  refine aw_aload_n (pc := 4) 0 dX3_init_4 rfl ?_
  refine aw_aload_n (pc := 5) 1 dX3_init_5 rfl ?_
  obtain ⟨σ1, e, h⟩ := op_bd h
  refine ow_pRF (pc := 6) e dX3_init_6 fd_X3_9 rfl rfl (fun C T N h => by cases h; rfl) ?_
  refine aw_aload_n (pc := 9) 0 dX3_init_9 rfl ?_
  obtain ⟨r2, e, h⟩ := op_bd h
  refine ow_nwO hex (pc := 10) (kc := 41) (ks := 3453) (N := 9) e dX3_init_10 nw_X3_15 ?_
  refine aw_dup (pc := 13) dX3_init_13 rfl ?_
  refine aw_aload_n (pc := 14) 1 dX3_init_14 rfl ?_
  obtain ⟨v3, e, h⟩ := op_bd h
  refine ow_gR (pc := 15) e dX3_init_15 fd_X3_17 rfl ?_
  refine aw_aload_n (pc := 18) 2 dX3_init_18 rfl ?_
  obtain ⟨σ4, e, h⟩ := op_bd h
  refine ow_cI (pc := 19) (ka := 20) (kb := 1722) (kc := 21) (ks := 1731) [.ref v3, .ref x2] ((c_X1_init hex _ _ _ _ _ e).mono (by decide)) rfl dX3_init_19 ci_X3_23 rfl (Nat.le_of_ble_eq_true rfl) ?_
  obtain ⟨σ5, e, h⟩ := op_bd h
  refine ow_pRF (pc := 22) e dX3_init_22 fd_X3_26 rfl rfl (fun C T N h => by cases h; rfl) ?_
  refine aw_aload_n (pc := 25) 0 dX3_init_25 rfl ?_
  obtain ⟨r6, e, h⟩ := op_bd h
  refine ow_nwO hex (pc := 26) (kc := 20) (ks := 1722) (N := 9) e dX3_init_26 nw_X3_15 ?_
  refine aw_dup (pc := 29) dX3_init_29 rfl ?_
  refine aw_aload_n (pc := 30) 1 dX3_init_30 rfl ?_
  obtain ⟨v7, e, h⟩ := op_bd h
  refine ow_gR (pc := 31) e dX3_init_31 fd_X3_17 rfl ?_
  refine aw_aload_n (pc := 34) 2 dX3_init_34 rfl ?_
  obtain ⟨σ8, e, h⟩ := op_bd h
  refine ow_cI (pc := 35) (ka := 20) (kb := 1722) (kc := 0) (ks := 0) [.ref v7, .ref x2] ((c_X1_init hex _ _ _ _ _ e).mono (by decide)) rfl dX3_init_35 ci_X3_23 rfl (Nat.le_of_ble_eq_true rfl) ?_
  obtain ⟨σ9, e, h⟩ := op_bd h
  refine ow_pRF (pc := 38) e dX3_init_38 fd_X3_30 rfl rfl (fun C T N h => by cases h; rfl) ?_
  refine aw_aload_n (pc := 41) 0 dX3_init_41 rfl ?_
  refine aw_aload_n (pc := 42) 2 dX3_init_42 rfl ?_
  obtain ⟨r10, e, h⟩ := op_bd h
  refine ow_cVvK (pc := 43) [.ref x2] ((c_X3_serve _ _ _ _ e).mono (by decide)) (op_ck_sh e) rfl dX3_init_43 cw_X3_33 rfl (Nat.le_of_ble_eq_true rfl) ?_
  exact ow_vret (pc := 46) h dX3_init_46 rfl
theorem c_X3_init {G : ah_G} (hex : ah_ex G)   (x0 : Nat) (x1 : Nat) (x2 : Nat) (σ : ah_H) (r : ah_H) (h : f_X3_init  x0 x1 x2 σ = some r) : AM G m_X3_init 2 42 3462 [.ref x0, .ref x1, .ref x2] σ (ah_rv r) := aw_enter (by decide) (Nat.le_of_ble_eq_true rfl) (c_X3_init_0 hex _ _ _ _ _ (op_ck_k h))
def f_X5_clear_0   (x0 : Nat) (σ : ah_H) : Option (ah_H) :=
  (op_gR 5 0 σ x0).bind fun v1 => (f_J7_fill_53178 v1 (-1 : Int32) σ).bind fun r2 => (op_pI 5 4 r2 x0 (0 : Int32)).bind fun σ3 => (op_pI 5 7 σ3 x0 (0 : Int32)).bind fun σ4 => (op_pZ 5 5 σ4 x0 (0 : Int32)).bind fun σ5 => some σ5
def f_X5_clear  (x0 : Nat) (σ : ah_H) : Option (ah_H) := op_ck 5 σ x0 (f_X5_clear_0 x0 σ)
set_option maxRecDepth 100000 in
set_option maxHeartbeats 4000000 in
theorem c_X5_clear_0 {G : ah_G}   : ∀ (x0 : Nat) (σ : ah_H) (r : ah_H), f_X5_clear_0   x0 σ = some r → AW G m_X5_clear 1 0 0 0 [(0, .ref x0)] [] σ (ah_N G (ah_rv r)) := by
  intro x0 σ r h
  unfold f_X5_clear_0 at h
  refine aw_aload_n (pc := 0) 0 dX5_clear_0 rfl ?_
  obtain ⟨v1, e, h⟩ := op_bd h
  refine ow_gR (pc := 1) e dX5_clear_1 fd_X5_9 rfl ?_
  refine aw_iconst (pc := 4) (v := (-1 : Int32)) dX5_clear_4 (by decide) ?_
  obtain ⟨r2, e, h⟩ := op_bd h
  refine ow_cSv (pc := 5) [.ref v1, .int (-1 : Int32)] ((c_J7_fill_53178 _ _ _ _ e).mono (by decide)) rfl dX5_clear_5 cw_X5_35 rfl (Nat.le_of_ble_eq_true rfl) ?_
  refine aw_aload_n (pc := 8) 0 dX5_clear_8 rfl ?_
  refine aw_iconst (pc := 9) (v := (0 : Int32)) dX5_clear_9 (by decide) ?_
  obtain ⟨σ3, e, h⟩ := op_bd h
  refine ow_pI (pc := 10) e dX5_clear_10 fd_X5_41 ?_
  refine aw_aload_n (pc := 13) 0 dX5_clear_13 rfl ?_
  refine aw_iconst (pc := 14) (v := (0 : Int32)) dX5_clear_14 (by decide) ?_
  obtain ⟨σ4, e, h⟩ := op_bd h
  refine ow_pI (pc := 15) e dX5_clear_15 fd_X5_45 ?_
  refine aw_aload_n (pc := 18) 0 dX5_clear_18 rfl ?_
  refine aw_iconst (pc := 19) (v := (0 : Int32)) dX5_clear_19 (by decide) ?_
  obtain ⟨σ5, e, h⟩ := op_bd h
  refine ow_pZ (pc := 20) e dX5_clear_20 fd_X5_48 ?_
  exact ow_vret (pc := 23) h dX5_clear_23 rfl
theorem c_X5_clear {G : ah_G}   (x0 : Nat) (σ : ah_H) (r : ah_H) (h : f_X5_clear  x0 σ = some r) : AM G m_X5_clear 1 0 0 [.ref x0] σ (ah_rv r) := aw_enter (by decide) (Nat.le_of_ble_eq_true rfl) (c_X5_clear_0 _ _ _ (op_ck_k h))
def f_X5_init_0   (x0 : Nat) (σ : ah_H) : Option (ah_H) :=
  (op_nwA .int 7 σ).bind fun r1 => (op_pR 5 0 r1.2 x0 r1.1).bind fun σ2 => (op_nwA .int 7 σ2).bind fun r3 => (op_pR 5 1 r3.2 x0 r3.1).bind fun σ4 => (op_nwA .int 7 σ4).bind fun r5 => (op_pR 5 2 r5.2 x0 r5.1).bind fun σ6 => (op_nwA .int 7 σ6).bind fun r7 => (op_pR 5 3 r7.2 x0 r7.1).bind fun σ8 => (op_nwM .int 20 28 σ8).bind fun r9 => (op_pR 5 6 r9.2 x0 r9.1).bind fun σ10 => (op_nwA .int 28 σ10).bind fun r11 => (op_pR 5 8 r11.2 x0 r11.1).bind fun σ12 => (f_X5_clear x0 σ12).bind fun r13 => some r13
def f_X5_init  (x0 : Nat) (σ : ah_H) : Option (ah_H) := op_ck 5 σ x0 (f_X5_init_0 x0 σ)
set_option maxRecDepth 100000 in
set_option maxHeartbeats 4000000 in
theorem c_X5_init_0 {G : ah_G} (hex : ah_ex G)   : ∀ (x0 : Nat) (σ : ah_H) (r : ah_H), f_X5_init_0   x0 σ = some r → AW G m_X5_init 2 26 636 0 [(0, .ref x0)] [] σ (ah_N G (ah_rv r)) := by
  intro x0 σ r h
  unfold f_X5_init_0 at h
  refine aw_aload_n (pc := 0) 0 dX5_init_0 rfl ?_
  refine ow_oi (pc := 1) dX5_init_1 oi_X5_3 (Nat.le_of_ble_eq_true rfl) ?_
  refine aw_aload_n (pc := 4) 0 dX5_init_4 rfl ?_
  refine aw_bipush (pc := 5) (v := (7 : Int32)) dX5_init_5 (by decide) ?_
  obtain ⟨r1, e, h⟩ := op_bd h
  refine ow_nwA hex (pc := 7) (kc := 25) (ks := 629) (N := 7) e dX5_init_7 rfl (by decide) (by decide) (by decide) ac_int (by decide) ⟨rfl, rfl⟩ ?_
  obtain ⟨σ2, e, h⟩ := op_bd h
  refine ow_pRF (pc := 9) e dX5_init_9 fd_X5_9 rfl rfl (fun C T N h => by cases h; rfl) ?_
  refine aw_aload_n (pc := 12) 0 dX5_init_12 rfl ?_
  refine aw_bipush (pc := 13) (v := (7 : Int32)) dX5_init_13 (by decide) ?_
  obtain ⟨r3, e, h⟩ := op_bd h
  refine ow_nwA hex (pc := 15) (kc := 24) (ks := 622) (N := 7) e dX5_init_15 rfl (by decide) (by decide) (by decide) ac_int (by decide) ⟨rfl, rfl⟩ ?_
  obtain ⟨σ4, e, h⟩ := op_bd h
  refine ow_pRF (pc := 17) e dX5_init_17 fd_X5_15 rfl rfl (fun C T N h => by cases h; rfl) ?_
  refine aw_aload_n (pc := 20) 0 dX5_init_20 rfl ?_
  refine aw_bipush (pc := 21) (v := (7 : Int32)) dX5_init_21 (by decide) ?_
  obtain ⟨r5, e, h⟩ := op_bd h
  refine ow_nwA hex (pc := 23) (kc := 23) (ks := 615) (N := 7) e dX5_init_23 rfl (by decide) (by decide) (by decide) ac_int (by decide) ⟨rfl, rfl⟩ ?_
  obtain ⟨σ6, e, h⟩ := op_bd h
  refine ow_pRF (pc := 25) e dX5_init_25 fd_X5_18 rfl rfl (fun C T N h => by cases h; rfl) ?_
  refine aw_aload_n (pc := 28) 0 dX5_init_28 rfl ?_
  refine aw_bipush (pc := 29) (v := (7 : Int32)) dX5_init_29 (by decide) ?_
  obtain ⟨r7, e, h⟩ := op_bd h
  refine ow_nwA hex (pc := 31) (kc := 22) (ks := 608) (N := 7) e dX5_init_31 rfl (by decide) (by decide) (by decide) ac_int (by decide) ⟨rfl, rfl⟩ ?_
  obtain ⟨σ8, e, h⟩ := op_bd h
  refine ow_pRF (pc := 33) e dX5_init_33 fd_X5_21 rfl rfl (fun C T N h => by cases h; rfl) ?_
  refine aw_aload_n (pc := 36) 0 dX5_init_36 rfl ?_
  refine aw_bipush (pc := 37) (v := (20 : Int32)) dX5_init_37 (by decide) ?_
  refine aw_bipush (pc := 39) (v := (28 : Int32)) dX5_init_39 (by decide) ?_
  obtain ⟨r9, e, h⟩ := op_bd h
  refine ow_nwM hex (pc := 41) (kc := 1) (ks := 28) (N := 20) (K := 28) e dX5_init_41 (by decide) (by decide) (by decide) (by decide) (by decide) (by decide) (by decide) (by decide) nm_X5_24 ?_
  obtain ⟨σ10, e, h⟩ := op_bd h
  refine ow_pRF (pc := 45) e dX5_init_45 fd_X5_26 rfl rfl (fun C T N h => by cases h; rfl) ?_
  refine aw_aload_n (pc := 48) 0 dX5_init_48 rfl ?_
  refine aw_bipush (pc := 49) (v := (28 : Int32)) dX5_init_49 (by decide) ?_
  obtain ⟨r11, e, h⟩ := op_bd h
  refine ow_nwA hex (pc := 51) (kc := 0) (ks := 0) (N := 28) e dX5_init_51 rfl (by decide) (by decide) (by decide) ac_int (by decide) ⟨rfl, rfl⟩ ?_
  obtain ⟨σ12, e, h⟩ := op_bd h
  refine ow_pRF (pc := 53) e dX5_init_53 fd_X5_29 rfl rfl (fun C T N h => by cases h; rfl) ?_
  refine aw_aload_n (pc := 56) 0 dX5_init_56 rfl ?_
  obtain ⟨r13, e, h⟩ := op_bd h
  refine ow_cVvK (pc := 57) [] ((c_X5_clear _ _ _ e).mono (by decide)) (op_ck_sh e) rfl dX5_init_57 cw_X5_32 rfl (Nat.le_of_ble_eq_true rfl) ?_
  exact ow_vret (pc := 60) h dX5_init_60 rfl
theorem c_X5_init {G : ah_G} (hex : ah_ex G)   (x0 : Nat) (σ : ah_H) (r : ah_H) (h : f_X5_init  x0 σ = some r) : AM G m_X5_init 2 26 636 [.ref x0] σ (ah_rv r) := aw_enter (by decide) (Nat.le_of_ble_eq_true rfl) (c_X5_init_0 hex _ _ _ (op_ck_k h))
def f_X6_init_0   (x0 : Nat) (x1 : Nat) (x2 : Nat) (σ : ah_H) : Option (ah_H) :=
  (op_nwA .int 7 σ).bind fun r1 => (op_pR 6 1 r1.2 x0 r1.1).bind fun σ2 => (op_nwA .long 128 σ2).bind fun r3 => (op_pR 6 2 r3.2 x0 r3.1).bind fun σ4 => (op_pR 6 3 σ4 x0 x1).bind fun σ5 => (op_pR 6 4 σ5 x0 x2).bind fun σ6 => some σ6
def f_X6_init  (x0 : Nat) (x1 : Nat) (x2 : Nat) (σ : ah_H) : Option (ah_H) := op_ck 6 σ x0 (f_X6_init_0 x0 x1 x2 σ)
set_option maxRecDepth 100000 in
set_option maxHeartbeats 4000000 in
theorem c_X6_init_0 {G : ah_G} (hex : ah_ex G)   : ∀ (x0 : Nat) (x1 : Nat) (x2 : Nat) (σ : ah_H) (r : ah_H), f_X6_init_0   x0 x1 x2 σ = some r → AW G m_X6_init 1 2 135 0 [(0, .ref x0), (1, .ref x1), (2, .ref x2)] [] σ (ah_N G (ah_rv r)) := by
  intro x0 x1 x2 σ r h
  unfold f_X6_init_0 at h
  refine aw_aload_n (pc := 0) 0 dX6_init_0 rfl ?_
  refine ow_oi (pc := 1) dX6_init_1 oi_X6_5 (Nat.le_of_ble_eq_true rfl) ?_
  refine aw_aload_n (pc := 4) 0 dX6_init_4 rfl ?_
  refine aw_bipush (pc := 5) (v := (7 : Int32)) dX6_init_5 (by decide) ?_
  obtain ⟨r1, e, h⟩ := op_bd h
  refine ow_nwA hex (pc := 7) (kc := 1) (ks := 128) (N := 7) e dX6_init_7 rfl (by decide) (by decide) (by decide) ac_int (by decide) ⟨rfl, rfl⟩ ?_
  obtain ⟨σ2, e, h⟩ := op_bd h
  refine ow_pRF (pc := 9) e dX6_init_9 fd_X6_11 rfl rfl (fun C T N h => by cases h; rfl) ?_
  refine aw_aload_n (pc := 12) 0 dX6_init_12 rfl ?_
  refine aw_sipush (pc := 13) (v := (128 : Int32)) dX6_init_13 (by decide) ?_
  obtain ⟨r3, e, h⟩ := op_bd h
  refine ow_nwA hex (pc := 16) (kc := 0) (ks := 0) (N := 128) e dX6_init_16 rfl (by decide) (by decide) (by decide) ac_long (by decide) ⟨rfl, rfl⟩ ?_
  obtain ⟨σ4, e, h⟩ := op_bd h
  refine ow_pRF (pc := 18) e dX6_init_18 fd_X6_17 rfl rfl (fun C T N h => by cases h; rfl) ?_
  refine aw_aload_n (pc := 21) 0 dX6_init_21 rfl ?_
  refine aw_aload_n (pc := 22) 1 dX6_init_22 rfl ?_
  obtain ⟨σ5, e, h⟩ := op_bd h
  refine ow_pRF (pc := 23) e dX6_init_23 fd_X6_21 rfl rfl (fun C T N h => by cases h; rfl) ?_
  refine aw_aload_n (pc := 26) 0 dX6_init_26 rfl ?_
  refine aw_aload_n (pc := 27) 2 dX6_init_27 rfl ?_
  obtain ⟨σ6, e, h⟩ := op_bd h
  refine ow_pR (pc := 28) e dX6_init_28 fd_X6_25 rfl ?_
  exact ow_vret (pc := 31) h dX6_init_31 rfl
theorem c_X6_init {G : ah_G} (hex : ah_ex G)   (x0 : Nat) (x1 : Nat) (x2 : Nat) (σ : ah_H) (r : ah_H) (h : f_X6_init  x0 x1 x2 σ = some r) : AM G m_X6_init 1 2 135 [.ref x0, .ref x1, .ref x2] σ (ah_rv r) := aw_enter (by decide) (Nat.le_of_ble_eq_true rfl) (c_X6_init_0 hex _ _ _ _ _ (op_ck_k h))
def f_X2_init_0   (x0 : Nat) (x1 : Nat) (x2 : Nat) (σ : ah_H) : Option (ah_H) :=
  (op_nwA .int 72 σ).bind fun r1 => (op_pR 2 1 r1.2 x0 r1.1).bind fun σ2 => (op_pR 2 0 σ2 x0 x1).bind fun σ3 => (op_pR 2 2 σ3 x0 x2).bind fun σ4 => some σ4
def f_X2_init  (x0 : Nat) (x1 : Nat) (x2 : Nat) (σ : ah_H) : Option (ah_H) := op_ck 2 σ x0 (f_X2_init_0 x0 x1 x2 σ)
set_option maxRecDepth 100000 in
set_option maxHeartbeats 4000000 in
theorem c_X2_init_0 {G : ah_G} (hex : ah_ex G)   : ∀ (x0 : Nat) (x1 : Nat) (x2 : Nat) (σ : ah_H) (r : ah_H), f_X2_init_0   x0 x1 x2 σ = some r → AW G m_X2_init 1 1 72 0 [(0, .ref x0), (1, .ref x1), (2, .ref x2)] [] σ (ah_N G (ah_rv r)) := by
  intro x0 x1 x2 σ r h
  unfold f_X2_init_0 at h
  refine aw_aload_n (pc := 0) 0 dX2_init_0 rfl ?_
  refine ow_oi (pc := 1) dX2_init_1 oi_X2_7 (Nat.le_of_ble_eq_true rfl) ?_
  refine aw_aload_n (pc := 4) 0 dX2_init_4 rfl ?_
  refine aw_bipush (pc := 5) (v := (72 : Int32)) dX2_init_5 (by decide) ?_
  obtain ⟨r1, e, h⟩ := op_bd h
  refine ow_nwA hex (pc := 7) (kc := 0) (ks := 0) (N := 72) e dX2_init_7 rfl (by decide) (by decide) (by decide) ac_int (by decide) ⟨rfl, rfl⟩ ?_
  obtain ⟨σ2, e, h⟩ := op_bd h
  refine ow_pRF (pc := 9) e dX2_init_9 fd_X2_13 rfl rfl (fun C T N h => by cases h; rfl) ?_
  refine aw_aload_n (pc := 12) 0 dX2_init_12 rfl ?_
  refine aw_aload_n (pc := 13) 1 dX2_init_13 rfl ?_
  obtain ⟨σ3, e, h⟩ := op_bd h
  refine ow_pRF (pc := 14) e dX2_init_14 fd_X2_17 rfl rfl (fun C T N h => by cases h; rfl) ?_
  refine aw_aload_n (pc := 17) 0 dX2_init_17 rfl ?_
  refine aw_aload_n (pc := 18) 2 dX2_init_18 rfl ?_
  obtain ⟨σ4, e, h⟩ := op_bd h
  refine ow_pR (pc := 19) e dX2_init_19 fd_X2_21 rfl ?_
  exact ow_vret (pc := 22) h dX2_init_22 rfl
theorem c_X2_init {G : ah_G} (hex : ah_ex G)   (x0 : Nat) (x1 : Nat) (x2 : Nat) (σ : ah_H) (r : ah_H) (h : f_X2_init  x0 x1 x2 σ = some r) : AM G m_X2_init 1 1 72 [.ref x0, .ref x1, .ref x2] σ (ah_rv r) := aw_enter (by decide) (Nat.le_of_ble_eq_true rfl) (c_X2_init_0 hex _ _ _ _ _ (op_ck_k h))
def f_X8_isLetter_0   (x0 : Int32) (σ : ah_H) : Option (Int32 × ah_H) :=
  if x0 < (97 : Int32) then ((op_rz (0 : Int32)).map fun q => (q, σ)) else (if (122 : Int32) < x0 then ((op_rz (0 : Int32)).map fun q => (q, σ)) else ((op_rz (1 : Int32)).map fun q => (q, σ)))
def f_X8_isLetter  (x0 : Int32) (σ : ah_H) : Option (Int32 × ah_H) := f_X8_isLetter_0 x0 σ
set_option maxRecDepth 100000 in
set_option maxHeartbeats 4000000 in
theorem c_X8_isLetter_0 {G : ah_G}   : ∀ (x0 : Int32) (σ : ah_H) (r : Int32 × ah_H), f_X8_isLetter_0   x0 σ = some r → AW G m_X8_isLetter 0 0 0 0 [(0, .int x0)] [] σ (ah_N G (ah_ri r)) := by
  intro x0 σ r h
  unfold f_X8_isLetter_0 at h
  refine aw_iload_n (pc := 0) 0 dX8_isLetter_0 rfl ?_
  refine aw_bipush (pc := 1) (v := (97 : Int32)) dX8_isLetter_1 (by decide) ?_
  refine aw_icmp_lt (pc := 3) 16 dX8_isLetter_3 (by decide) (fun z => ?_) (fun z => ?_)
  · replace h := (if_pos z).symm.trans h
    refine aw_iconst (pc := 16) (v := (0 : Int32)) dX8_isLetter_16 (by decide) ?_
    exact ow_zret (pc := 17) h dX8_isLetter_17 rfl
  · replace h := (if_neg z).symm.trans h
    refine aw_iload_n (pc := 6) 0 dX8_isLetter_6 rfl ?_
    refine aw_bipush (pc := 7) (v := (122 : Int32)) dX8_isLetter_7 (by decide) ?_
    refine aw_icmp_gt (pc := 9) 16 dX8_isLetter_9 (by decide) (fun z => ?_) (fun z => ?_)
    · replace h := (if_pos z).symm.trans h
      refine aw_iconst (pc := 16) (v := (0 : Int32)) dX8_isLetter_16 (by decide) ?_
      exact ow_zret (pc := 17) h dX8_isLetter_17 rfl
    · replace h := (if_neg z).symm.trans h
      refine aw_iconst (pc := 12) (v := (1 : Int32)) dX8_isLetter_12 (by decide) ?_
      refine aw_goto (pc := 13) 17 dX8_isLetter_13 (by decide) ?_
      exact ow_zret (pc := 17) h dX8_isLetter_17 rfl
theorem c_X8_isLetter {G : ah_G}   (x0 : Int32) (σ : ah_H) (r : Int32 × ah_H) (h : f_X8_isLetter  x0 σ = some r) : AM G m_X8_isLetter 0 0 0 [.int x0] σ (ah_ri r) := aw_enter (by decide) (Nat.le_of_ble_eq_true rfl) (c_X8_isLetter_0 _ _ _ h)
def f_X8_writeKeys_70  (K2 : Nat → Nat → Int32 → Int32 → ah_H → Option (ah_H)) (x0 : Nat) (x1 : Nat) (x2 : Int32) (x3 : Int32) (s0 : Nat) (s1 : Int32) (s2 : Int32) (s3 : Int32) (σ : ah_H) : Option (ah_H) :=
  (op_sI σ s0 s1 (s2 ||| s3)).bind fun σ1 => K2 x0 x1 x2 (x3 + (1 : Int32)) σ1
def f_X8_writeKeys_2_b  (K2 : Nat → Nat → Int32 → Int32 → ah_H → Option (ah_H)) (x0 : Nat) (x1 : Nat) (x2 : Int32) (x3 : Int32) (σ : ah_H) : Option (ah_H) :=
  (op_tlen x1).bind fun v1 => if v1 ≤ x3 then (some σ) else ((op_div x3 (6 : Int32)).bind fun v2 => if (24 : Int32) ≤ (x2 + v2) then (some σ) else ((op_tch x1 x3).bind fun v3 => (op_div x3 (6 : Int32)).bind fun v4 => (op_gR 8 1 σ x0).bind fun v5 => (op_gR 8 1 σ x0).bind fun v6 => (op_aI σ v6 (x2 + v4)).bind fun v7 => (f_X8_isLetter v3 σ).bind fun r8 => if r8.1 = 0 then (f_X8_writeKeys_70 K2 x0 x1 x2 x3 v5 (x2 + v4) (v7 <<< ((5 : Int32) &&& 31)) (0 : Int32) r8.2) else (f_X8_writeKeys_70 K2 x0 x1 x2 x3 v5 (x2 + v4) (v7 <<< ((5 : Int32) &&& 31)) ((v3 - (97 : Int32)) + (1 : Int32)) r8.2)))
def f_X8_writeKeys_2   : Nat → Nat → Nat → Int32 → Int32 → ah_H → Option (ah_H)
  | 0, _, _, _, _, _ => none
  | n + 1, x0, x1, x2, x3, σ => f_X8_writeKeys_2_b (f_X8_writeKeys_2 n) x0 x1 x2 x3 σ
def f_X8_writeKeys_0   (x0 : Nat) (x1 : Nat) (x2 : Int32) (σ : ah_H) : Option (ah_H) :=
  f_X8_writeKeys_2 5000 x0 x1 x2 (0 : Int32) σ
def f_X8_writeKeys  (x0 : Nat) (x1 : Nat) (x2 : Int32) (σ : ah_H) : Option (ah_H) := op_ck 8 σ x0 (f_X8_writeKeys_0 x0 x1 x2 σ)
set_option maxRecDepth 100000 in
set_option maxHeartbeats 4000000 in
theorem c_X8_writeKeys_70 {G : ah_G}  (K2 : Nat → Nat → Int32 → Int32 → ah_H → Option (ah_H)) (hK2 : ∀ (x0 : Nat) (x1 : Nat) (x2 : Int32) (x3 : Int32) (σ : ah_H) (r : ah_H), K2 x0 x1 x2 x3 σ = some r → AW G m_X8_writeKeys 4 0 0 2 [(0, .ref x0), (1, .ref x1), (2, .int x2), (3, .int x3)] [] σ (ah_N G (ah_rv r))) : ∀ (x0 : Nat) (x1 : Nat) (x2 : Int32) (x3 : Int32) (s0 : Nat) (s1 : Int32) (s2 : Int32) (s3 : Int32) (σ : ah_H) (r : ah_H), f_X8_writeKeys_70  K2 x0 x1 x2 x3 s0 s1 s2 s3 σ = some r → AW G m_X8_writeKeys 4 0 0 70 [(0, .ref x0), (1, .ref x1), (2, .int x2), (3, .int x3)] [.int s3, .int s2, .int s1, .ref s0] σ (ah_N G (ah_rv r)) := by
  intro x0 x1 x2 x3 s0 s1 s2 s3 σ r h
  unfold f_X8_writeKeys_70 at h
  refine aw_ior (pc := 70) dX8_writeKeys_70 ?_
  obtain ⟨σ1, e, h⟩ := op_bd h
  refine ow_sI (pc := 71) e dX8_writeKeys_71 ?_
  refine aw_iinc (pc := 72) 3 [(3, .int (x3 + (1 : Int32))), (0, .ref x0), (1, .ref x1), (2, .int x2)] (x3 + (1 : Int32)) dX8_writeKeys_72 rfl rfl (by decide) rfl ?_
  refine aw_goto (pc := 75) 2 dX8_writeKeys_75 (by decide) ?_
  refine aw_sub [1, 2, 3, 0] rfl ?_
  exact hK2 _ _ _ _ _ _ h
set_option maxRecDepth 100000 in
set_option maxHeartbeats 4000000 in
theorem c_X8_writeKeys_2_b {G : ah_G}  (K2 : Nat → Nat → Int32 → Int32 → ah_H → Option (ah_H)) (hK2 : ∀ (x0 : Nat) (x1 : Nat) (x2 : Int32) (x3 : Int32) (σ : ah_H) (r : ah_H), K2 x0 x1 x2 x3 σ = some r → AW G m_X8_writeKeys 4 0 0 2 [(0, .ref x0), (1, .ref x1), (2, .int x2), (3, .int x3)] [] σ (ah_N G (ah_rv r))) : ∀ (x0 : Nat) (x1 : Nat) (x2 : Int32) (x3 : Int32) (σ : ah_H) (r : ah_H), f_X8_writeKeys_2_b  K2 x0 x1 x2 x3 σ = some r → AW G m_X8_writeKeys 4 0 0 2 [(0, .ref x0), (1, .ref x1), (2, .int x2), (3, .int x3)] [] σ (ah_N G (ah_rv r)) := by
  intro x0 x1 x2 x3 σ r h
  unfold f_X8_writeKeys_2_b at h
  refine aw_iload_n (pc := 2) 3 dX8_writeKeys_2 rfl ?_
  refine aw_aload_n (pc := 3) 1 dX8_writeKeys_3 rfl ?_
  obtain ⟨v1, e, h⟩ := op_bd h
  refine ow_tlen (pc := 4) e dX8_writeKeys_4 tw_X8_36 (Nat.le_of_ble_eq_true rfl) ?_
  refine aw_icmp_ge (pc := 7) 78 dX8_writeKeys_7 (by decide) (fun z => ?_) (fun z => ?_)
  · replace h := (if_pos z).symm.trans h
    exact ow_vret (pc := 78) h dX8_writeKeys_78 rfl
  · replace h := (if_neg z).symm.trans h
    refine aw_iload_n (pc := 10) 2 dX8_writeKeys_10 rfl ?_
    refine aw_iload_n (pc := 11) 3 dX8_writeKeys_11 rfl ?_
    refine aw_bipush (pc := 12) (v := (6 : Int32)) dX8_writeKeys_12 (by decide) ?_
    obtain ⟨v2, e, h⟩ := op_bd h
    refine ow_div (pc := 14) e dX8_writeKeys_14 ?_
    refine aw_iadd (pc := 15) dX8_writeKeys_15 ?_
    refine aw_bipush (pc := 16) (v := (24 : Int32)) dX8_writeKeys_16 (by decide) ?_
    refine aw_icmp_ge (pc := 18) 78 dX8_writeKeys_18 (by decide) (fun z => ?_) (fun z => ?_)
    · replace h := (if_pos z).symm.trans h
      exact ow_vret (pc := 78) h dX8_writeKeys_78 rfl
    · replace h := (if_neg z).symm.trans h
      refine aw_aload_n (pc := 21) 1 dX8_writeKeys_21 rfl ?_
      refine aw_iload_n (pc := 22) 3 dX8_writeKeys_22 rfl ?_
      obtain ⟨v3, e, h⟩ := op_bd h
      refine ow_tch (pc := 23) e dX8_writeKeys_23 tw_X8_42 (Nat.le_of_ble_eq_true rfl) ?_
      refine aw_istore (pc := 26) [(4, .int v3), (0, .ref x0), (1, .ref x1), (2, .int x2), (3, .int x3)] dX8_writeKeys_26 (by decide) rfl ?_
      refine aw_iload_n (pc := 28) 3 dX8_writeKeys_28 rfl ?_
      refine aw_iload_n (pc := 29) 4 dX8_writeKeys_29 rfl ?_
      refine aw_bipush (pc := 30) (v := (6 : Int32)) dX8_writeKeys_30 (by decide) ?_
      obtain ⟨v4, e, h⟩ := op_bd h
      refine ow_div (pc := 32) e dX8_writeKeys_32 ?_
      refine aw_iadd (pc := 33) dX8_writeKeys_33 ?_
      refine aw_istore (pc := 34) [(5, .int (x2 + v4)), (4, .int v3), (0, .ref x0), (1, .ref x1), (2, .int x2), (3, .int x3)] dX8_writeKeys_34 (by decide) rfl ?_
      refine aw_aload_n (pc := 36) 2 dX8_writeKeys_36 rfl ?_
      obtain ⟨v5, e, h⟩ := op_bd h
      refine ow_gR (pc := 37) e dX8_writeKeys_37 fd_X8_11 rfl ?_
      refine aw_iload (pc := 40) 0 dX8_writeKeys_40 rfl ?_
      refine aw_aload_n (pc := 42) 2 dX8_writeKeys_42 rfl ?_
      obtain ⟨v6, e, h⟩ := op_bd h
      refine ow_gR (pc := 43) e dX8_writeKeys_43 fd_X8_11 rfl ?_
      refine aw_iload (pc := 46) 0 dX8_writeKeys_46 rfl ?_
      obtain ⟨v7, e, h⟩ := op_bd h
      refine ow_aI (pc := 48) e dX8_writeKeys_48 ?_
      refine aw_iconst (pc := 49) (v := (5 : Int32)) dX8_writeKeys_49 (by decide) ?_
      refine aw_ishl (pc := 50) dX8_writeKeys_50 ?_
      refine aw_iload (pc := 51) 1 dX8_writeKeys_51 rfl ?_
      obtain ⟨r8, e, h⟩ := op_bd h
      refine ow_cSi (pc := 53) [.int v3] ((c_X8_isLetter _ _ _ e).mono (by decide)) rfl dX8_writeKeys_53 cw_X8_46 rfl (Nat.le_of_ble_eq_true rfl) ?_
      refine aw_if_eq (pc := 56) 69 dX8_writeKeys_56 (by decide) (fun z => ?_) (fun z => ?_)
      · replace h := (if_pos z).symm.trans h
        refine aw_iconst (pc := 69) (v := (0 : Int32)) dX8_writeKeys_69 (by decide) ?_
        refine aw_sub [2, 3, 4, 5] rfl ?_
        exact c_X8_writeKeys_70 K2 hK2 _ _ _ _ _ _ _ _ _ _ h
      · replace h := (if_neg z).symm.trans h
        refine aw_iload (pc := 59) 1 dX8_writeKeys_59 rfl ?_
        refine aw_bipush (pc := 61) (v := (97 : Int32)) dX8_writeKeys_61 (by decide) ?_
        refine aw_isub (pc := 63) dX8_writeKeys_63 ?_
        refine aw_iconst (pc := 64) (v := (1 : Int32)) dX8_writeKeys_64 (by decide) ?_
        refine aw_iadd (pc := 65) dX8_writeKeys_65 ?_
        refine aw_goto (pc := 66) 70 dX8_writeKeys_66 (by decide) ?_
        refine aw_sub [2, 3, 4, 5] rfl ?_
        exact c_X8_writeKeys_70 K2 hK2 _ _ _ _ _ _ _ _ _ _ h
theorem c_X8_writeKeys_2 {G : ah_G}   : ∀ (n : Nat) (x0 : Nat) (x1 : Nat) (x2 : Int32) (x3 : Int32) (σ : ah_H) (r : ah_H), f_X8_writeKeys_2   n x0 x1 x2 x3 σ = some r → AW G m_X8_writeKeys 4 0 0 2 [(0, .ref x0), (1, .ref x1), (2, .int x2), (3, .int x3)] [] σ (ah_N G (ah_rv r)) := by
  intro n
  induction n with
  | zero => intro x0 x1 x2 x3 σ r h; cases h
  | succ n ih => intro x0 x1 x2 x3 σ r h; exact c_X8_writeKeys_2_b   _ ih x0 x1 x2 x3 σ r h
set_option maxRecDepth 100000 in
set_option maxHeartbeats 4000000 in
theorem c_X8_writeKeys_0 {G : ah_G}   : ∀ (x0 : Nat) (x1 : Nat) (x2 : Int32) (σ : ah_H) (r : ah_H), f_X8_writeKeys_0   x0 x1 x2 σ = some r → AW G m_X8_writeKeys 4 0 0 0 [(0, .ref x0), (1, .ref x1), (2, .int x2)] [] σ (ah_N G (ah_rv r)) := by
  intro x0 x1 x2 σ r h
  unfold f_X8_writeKeys_0 at h
  refine aw_iconst (pc := 0) (v := (0 : Int32)) dX8_writeKeys_0 (by decide) ?_
  refine aw_istore_n (pc := 1) [(3, .int (0 : Int32)), (0, .ref x0), (1, .ref x1), (2, .int x2)] dX8_writeKeys_1 rfl (by decide) rfl ?_
  refine aw_sub [1, 2, 3, 0] rfl ?_
  exact c_X8_writeKeys_2  _ _ _ _ _ _ _ h
theorem c_X8_writeKeys {G : ah_G}   (x0 : Nat) (x1 : Nat) (x2 : Int32) (σ : ah_H) (r : ah_H) (h : f_X8_writeKeys  x0 x1 x2 σ = some r) : AM G m_X8_writeKeys 4 0 0 [.ref x0, .ref x1, .int x2] σ (ah_rv r) := aw_enter (by decide) (Nat.le_of_ble_eq_true rfl) (c_X8_writeKeys_0 _ _ _ _ _ (op_ck_k h))
def f_X8_init_0   (x0 : Nat) (x1 : Nat) (σ : ah_H) : Option (ah_H) :=
  (op_nwA .int 24 σ).bind fun r1 => (op_pR 8 1 r1.2 x0 r1.1).bind fun σ2 => (op_nwA .int 701 σ2).bind fun r3 => (op_pR 8 2 r3.2 x0 r3.1).bind fun σ4 => (op_nwA .int 701 σ4).bind fun r5 => (op_pR 8 3 r5.2 x0 r5.1).bind fun σ6 => (op_nwA .int 701 σ6).bind fun r7 => (op_pR 8 4 r7.2 x0 r7.1).bind fun σ8 => (op_pR 8 0 σ8 x0 x1).bind fun σ9 => (f_X8_writeKeys x0 1000000 (0 : Int32) σ9).bind fun r10 => (f_X8_writeKeys x0 1000001 (12 : Int32) r10).bind fun r11 => some r11
def f_X8_init  (x0 : Nat) (x1 : Nat) (σ : ah_H) : Option (ah_H) := op_ck 8 σ x0 (f_X8_init_0 x0 x1 σ)
set_option maxRecDepth 100000 in
set_option maxHeartbeats 4000000 in
theorem c_X8_init_0 {G : ah_G} (hex : ah_ex G)   : ∀ (x0 : Nat) (x1 : Nat) (σ : ah_H) (r : ah_H), f_X8_init_0   x0 x1 σ = some r → AW G m_X8_init 5 4 2127 0 [(0, .ref x0), (1, .ref x1)] [] σ (ah_N G (ah_rv r)) := by
  intro x0 x1 σ r h
  unfold f_X8_init_0 at h
  refine aw_aload_n (pc := 0) 0 dX8_init_0 rfl ?_
  refine ow_oi (pc := 1) dX8_init_1 oi_X8_3 (Nat.le_of_ble_eq_true rfl) ?_
  refine aw_aload_n (pc := 4) 0 dX8_init_4 rfl ?_
  refine aw_bipush (pc := 5) (v := (24 : Int32)) dX8_init_5 (by decide) ?_
  obtain ⟨r1, e, h⟩ := op_bd h
  refine ow_nwA hex (pc := 7) (kc := 3) (ks := 2103) (N := 24) e dX8_init_7 rfl (by decide) (by decide) (by decide) ac_int (by decide) ⟨rfl, rfl⟩ ?_
  obtain ⟨σ2, e, h⟩ := op_bd h
  refine ow_pRF (pc := 9) e dX8_init_9 fd_X8_11 rfl rfl (fun C T N h => by cases h; rfl) ?_
  refine aw_aload_n (pc := 12) 0 dX8_init_12 rfl ?_
  refine aw_sipush (pc := 13) (v := (701 : Int32)) dX8_init_13 (by decide) ?_
  obtain ⟨r3, e, h⟩ := op_bd h
  refine ow_nwA hex (pc := 16) (kc := 2) (ks := 1402) (N := 701) e dX8_init_16 rfl (by decide) (by decide) (by decide) ac_int (by decide) ⟨rfl, rfl⟩ ?_
  obtain ⟨σ4, e, h⟩ := op_bd h
  refine ow_pRF (pc := 18) e dX8_init_18 fd_X8_15 rfl rfl (fun C T N h => by cases h; rfl) ?_
  refine aw_aload_n (pc := 21) 0 dX8_init_21 rfl ?_
  refine aw_sipush (pc := 22) (v := (701 : Int32)) dX8_init_22 (by decide) ?_
  obtain ⟨r5, e, h⟩ := op_bd h
  refine ow_nwA hex (pc := 25) (kc := 1) (ks := 701) (N := 701) e dX8_init_25 rfl (by decide) (by decide) (by decide) ac_int (by decide) ⟨rfl, rfl⟩ ?_
  obtain ⟨σ6, e, h⟩ := op_bd h
  refine ow_pRF (pc := 27) e dX8_init_27 fd_X8_18 rfl rfl (fun C T N h => by cases h; rfl) ?_
  refine aw_aload_n (pc := 30) 0 dX8_init_30 rfl ?_
  refine aw_sipush (pc := 31) (v := (701 : Int32)) dX8_init_31 (by decide) ?_
  obtain ⟨r7, e, h⟩ := op_bd h
  refine ow_nwA hex (pc := 34) (kc := 0) (ks := 0) (N := 701) e dX8_init_34 rfl (by decide) (by decide) (by decide) ac_int (by decide) ⟨rfl, rfl⟩ ?_
  obtain ⟨σ8, e, h⟩ := op_bd h
  refine ow_pRF (pc := 36) e dX8_init_36 fd_X8_21 rfl rfl (fun C T N h => by cases h; rfl) ?_
  refine aw_aload_n (pc := 39) 0 dX8_init_39 rfl ?_
  refine aw_aload_n (pc := 40) 1 dX8_init_40 rfl ?_
  obtain ⟨σ9, e, h⟩ := op_bd h
  refine ow_pRF (pc := 41) e dX8_init_41 fd_X8_24 rfl rfl (fun C T N h => by cases h; rfl) ?_
  refine aw_aload_n (pc := 44) 0 dX8_init_44 rfl ?_
  refine aw_ldcS (pc := 45) (i := 0) (by decide) dX8_init_45 rfl rfl ?_
  refine aw_iconst (pc := 47) (v := (0 : Int32)) dX8_init_47 (by decide) ?_
  obtain ⟨r10, e, h⟩ := op_bd h
  refine ow_cVvK (pc := 48) [.ref 1000000, .int (0 : Int32)] ((c_X8_writeKeys _ _ _ _ _ e).mono (by decide)) (op_ck_sh e) rfl dX8_init_48 cw_X8_30 rfl (Nat.le_of_ble_eq_true rfl) ?_
  refine aw_aload_n (pc := 51) 0 dX8_init_51 rfl ?_
  refine aw_ldcS (pc := 52) (i := 1) (by decide) dX8_init_52 rfl rfl ?_
  refine aw_bipush (pc := 54) (v := (12 : Int32)) dX8_init_54 (by decide) ?_
  obtain ⟨r11, e, h⟩ := op_bd h
  refine ow_cVvK (pc := 56) [.ref 1000001, .int (12 : Int32)] ((c_X8_writeKeys _ _ _ _ _ e).mono (by decide)) (op_ck_sh e) rfl dX8_init_56 cw_X8_30 rfl (Nat.le_of_ble_eq_true rfl) ?_
  exact ow_vret (pc := 59) h dX8_init_59 rfl
theorem c_X8_init {G : ah_G} (hex : ah_ex G)   (x0 : Nat) (x1 : Nat) (σ : ah_H) (r : ah_H) (h : f_X8_init  x0 x1 σ = some r) : AM G m_X8_init 5 4 2127 [.ref x0, .ref x1] σ (ah_rv r) := aw_enter (by decide) (Nat.le_of_ble_eq_true rfl) (c_X8_init_0 hex _ _ _ _ (op_ck_k h))
def f_X7_init_0   (x0 : Nat) (x1 : Nat) (x2 : Nat) (σ : ah_H) : Option (ah_H) :=
  (op_pI 7 3 σ x0 (0 : Int32)).bind fun σ1 => (op_pI 7 4 σ1 x0 (-1 : Int32)).bind fun σ2 => (op_nwO 8 σ2).bind fun r3 => (f_X8_init r3.1 x1 r3.2).bind fun σ4 => (op_pR 7 0 σ4 x0 r3.1).bind fun σ5 => (op_nwO 2 σ5).bind fun r6 => (op_gR 7 0 r6.2 x0).bind fun v7 => (op_gR 9 15 r6.2 x2).bind fun v8 => (f_X2_init r6.1 v7 v8 r6.2).bind fun σ9 => (op_pR 7 1 σ9 x0 r6.1).bind fun σ10 => (op_pR 7 2 σ10 x0 x2).bind fun σ11 => some σ11
def f_X7_init  (x0 : Nat) (x1 : Nat) (x2 : Nat) (σ : ah_H) : Option (ah_H) := op_ck 7 σ x0 (f_X7_init_0 x0 x1 x2 σ)
set_option maxRecDepth 100000 in
set_option maxHeartbeats 4000000 in
theorem c_X7_init_0 {G : ah_G} (hex : ah_ex G)   : ∀ (x0 : Nat) (x1 : Nat) (x2 : Nat) (σ : ah_H) (r : ah_H), f_X7_init_0   x0 x1 x2 σ = some r → AW G m_X7_init 6 7 2217 0 [(0, .ref x0), (1, .ref x1), (2, .ref x2)] [] σ (ah_N G (ah_rv r)) := by
  intro x0 x1 x2 σ r h
  unfold f_X7_init_0 at h
  refine aw_aload_n (pc := 0) 0 dX7_init_0 rfl ?_
  refine ow_oi (pc := 1) dX7_init_1 oi_X7_3 (Nat.le_of_ble_eq_true rfl) ?_
  refine aw_aload_n (pc := 4) 0 dX7_init_4 rfl ?_
  refine aw_iconst (pc := 5) (v := (0 : Int32)) dX7_init_5 (by decide) ?_
  obtain ⟨σ1, e, h⟩ := op_bd h
  refine ow_pI (pc := 6) e dX7_init_6 fd_X7_9 ?_
  refine aw_aload_n (pc := 9) 0 dX7_init_9 rfl ?_
  refine aw_iconst (pc := 10) (v := (-1 : Int32)) dX7_init_10 (by decide) ?_
  obtain ⟨σ2, e, h⟩ := op_bd h
  refine ow_pI (pc := 11) e dX7_init_11 fd_X7_15 ?_
  refine aw_aload_n (pc := 14) 0 dX7_init_14 rfl ?_
  obtain ⟨r3, e, h⟩ := op_bd h
  refine ow_nwO hex (pc := 15) (kc := 6) (ks := 2206) (N := 11) e dX7_init_15 nw_X7_18 ?_
  refine aw_dup (pc := 18) dX7_init_18 rfl ?_
  refine aw_aload_n (pc := 19) 1 dX7_init_19 rfl ?_
  obtain ⟨σ4, e, h⟩ := op_bd h
  refine ow_cI (pc := 20) (ka := 4) (kb := 2127) (kc := 2) (ks := 79) [.ref x1] ((c_X8_init hex _ _ _ _ e).mono (by decide)) rfl dX7_init_20 ci_X7_20 rfl (Nat.le_of_ble_eq_true rfl) ?_
  obtain ⟨σ5, e, h⟩ := op_bd h
  refine ow_pRF (pc := 23) e dX7_init_23 fd_X7_23 rfl rfl (fun C T N h => by cases h; rfl) ?_
  refine aw_aload_n (pc := 26) 0 dX7_init_26 rfl ?_
  obtain ⟨r6, e, h⟩ := op_bd h
  refine ow_nwO hex (pc := 27) (kc := 1) (ks := 72) (N := 7) e dX7_init_27 nw_X7_27 ?_
  refine aw_dup (pc := 30) dX7_init_30 rfl ?_
  refine aw_aload_n (pc := 31) 0 dX7_init_31 rfl ?_
  obtain ⟨v7, e, h⟩ := op_bd h
  refine ow_gR (pc := 32) e dX7_init_32 fd_X7_23 rfl ?_
  refine aw_aload_n (pc := 35) 2 dX7_init_35 rfl ?_
  obtain ⟨v8, e, h⟩ := op_bd h
  refine ow_gR (pc := 36) e dX7_init_36 fd_X7_29 rfl ?_
  obtain ⟨σ9, e, h⟩ := op_bd h
  refine ow_cI (pc := 39) (ka := 1) (kb := 72) (kc := 0) (ks := 0) [.ref v7, .ref v8] ((c_X2_init hex _ _ _ _ _ e).mono (by decide)) rfl dX7_init_39 ci_X7_35 rfl (Nat.le_of_ble_eq_true rfl) ?_
  obtain ⟨σ10, e, h⟩ := op_bd h
  refine ow_pRF (pc := 42) e dX7_init_42 fd_X7_38 rfl rfl (fun C T N h => by cases h; rfl) ?_
  refine aw_aload_n (pc := 45) 0 dX7_init_45 rfl ?_
  refine aw_aload_n (pc := 46) 2 dX7_init_46 rfl ?_
  obtain ⟨σ11, e, h⟩ := op_bd h
  refine ow_pR (pc := 47) e dX7_init_47 fd_X7_42 rfl ?_
  exact ow_vret (pc := 50) h dX7_init_50 rfl
theorem c_X7_init {G : ah_G} (hex : ah_ex G)   (x0 : Nat) (x1 : Nat) (x2 : Nat) (σ : ah_H) (r : ah_H) (h : f_X7_init  x0 x1 x2 σ = some r) : AM G m_X7_init 6 7 2217 [.ref x0, .ref x1, .ref x2] σ (ah_rv r) := aw_enter (by decide) (Nat.le_of_ble_eq_true rfl) (c_X7_init_0 hex _ _ _ _ _ (op_ck_k h))
def f_X4_init_0   (x0 : Nat) (σ : ah_H) : Option (ah_H) :=
  (op_nwA .int 64 σ).bind fun r1 => (op_pR 4 2 r1.2 x0 r1.1).bind fun σ2 => (op_nwA .int 64 σ2).bind fun r3 => (op_pR 4 3 r3.2 x0 r3.1).bind fun σ4 => (op_nwA .int 3 σ4).bind fun r5 => (op_pR 4 4 r5.2 x0 r5.1).bind fun σ6 => (op_nwA .int 3 σ6).bind fun r7 => (op_pR 4 5 r7.2 x0 r7.1).bind fun σ8 => (op_nwA .long 6 σ8).bind fun r9 => (op_pR 4 6 r9.2 x0 r9.1).bind fun σ10 => (op_nwA .long 64 σ10).bind fun r11 => (op_pR 4 7 r11.2 x0 r11.1).bind fun σ12 => some σ12
def f_X4_init  (x0 : Nat) (σ : ah_H) : Option (ah_H) := op_ck 4 σ x0 (f_X4_init_0 x0 σ)
set_option maxRecDepth 100000 in
set_option maxHeartbeats 4000000 in
theorem c_X4_init_0 {G : ah_G} (hex : ah_ex G)   : ∀ (x0 : Nat) (σ : ah_H) (r : ah_H), f_X4_init_0   x0 σ = some r → AW G m_X4_init 1 6 204 0 [(0, .ref x0)] [] σ (ah_N G (ah_rv r)) := by
  intro x0 σ r h
  unfold f_X4_init_0 at h
  refine aw_aload_n (pc := 0) 0 dX4_init_0 rfl ?_
  refine ow_oi (pc := 1) dX4_init_1 oi_X4_3 (Nat.le_of_ble_eq_true rfl) ?_
  refine aw_aload_n (pc := 4) 0 dX4_init_4 rfl ?_
  refine aw_bipush (pc := 5) (v := (64 : Int32)) dX4_init_5 (by decide) ?_
  obtain ⟨r1, e, h⟩ := op_bd h
  refine ow_nwA hex (pc := 7) (kc := 5) (ks := 140) (N := 64) e dX4_init_7 rfl (by decide) (by decide) (by decide) ac_int (by decide) ⟨rfl, rfl⟩ ?_
  obtain ⟨σ2, e, h⟩ := op_bd h
  refine ow_pRF (pc := 9) e dX4_init_9 fd_X4_11 rfl rfl (fun C T N h => by cases h; rfl) ?_
  refine aw_aload_n (pc := 12) 0 dX4_init_12 rfl ?_
  refine aw_bipush (pc := 13) (v := (64 : Int32)) dX4_init_13 (by decide) ?_
  obtain ⟨r3, e, h⟩ := op_bd h
  refine ow_nwA hex (pc := 15) (kc := 4) (ks := 76) (N := 64) e dX4_init_15 rfl (by decide) (by decide) (by decide) ac_int (by decide) ⟨rfl, rfl⟩ ?_
  obtain ⟨σ4, e, h⟩ := op_bd h
  refine ow_pRF (pc := 17) e dX4_init_17 fd_X4_15 rfl rfl (fun C T N h => by cases h; rfl) ?_
  refine aw_aload_n (pc := 20) 0 dX4_init_20 rfl ?_
  refine aw_iconst (pc := 21) (v := (3 : Int32)) dX4_init_21 (by decide) ?_
  obtain ⟨r5, e, h⟩ := op_bd h
  refine ow_nwA hex (pc := 22) (kc := 3) (ks := 73) (N := 3) e dX4_init_22 rfl (by decide) (by decide) (by decide) ac_int (by decide) ⟨rfl, rfl⟩ ?_
  obtain ⟨σ6, e, h⟩ := op_bd h
  refine ow_pRF (pc := 24) e dX4_init_24 fd_X4_18 rfl rfl (fun C T N h => by cases h; rfl) ?_
  refine aw_aload_n (pc := 27) 0 dX4_init_27 rfl ?_
  refine aw_iconst (pc := 28) (v := (3 : Int32)) dX4_init_28 (by decide) ?_
  obtain ⟨r7, e, h⟩ := op_bd h
  refine ow_nwA hex (pc := 29) (kc := 2) (ks := 70) (N := 3) e dX4_init_29 rfl (by decide) (by decide) (by decide) ac_int (by decide) ⟨rfl, rfl⟩ ?_
  obtain ⟨σ8, e, h⟩ := op_bd h
  refine ow_pRF (pc := 31) e dX4_init_31 fd_X4_21 rfl rfl (fun C T N h => by cases h; rfl) ?_
  refine aw_aload_n (pc := 34) 0 dX4_init_34 rfl ?_
  refine aw_bipush (pc := 35) (v := (6 : Int32)) dX4_init_35 (by decide) ?_
  obtain ⟨r9, e, h⟩ := op_bd h
  refine ow_nwA hex (pc := 37) (kc := 1) (ks := 64) (N := 6) e dX4_init_37 rfl (by decide) (by decide) (by decide) ac_long (by decide) ⟨rfl, rfl⟩ ?_
  obtain ⟨σ10, e, h⟩ := op_bd h
  refine ow_pRF (pc := 39) e dX4_init_39 fd_X4_24 rfl rfl (fun C T N h => by cases h; rfl) ?_
  refine aw_aload_n (pc := 42) 0 dX4_init_42 rfl ?_
  refine aw_bipush (pc := 43) (v := (64 : Int32)) dX4_init_43 (by decide) ?_
  obtain ⟨r11, e, h⟩ := op_bd h
  refine ow_nwA hex (pc := 45) (kc := 0) (ks := 0) (N := 64) e dX4_init_45 rfl (by decide) (by decide) (by decide) ac_long (by decide) ⟨rfl, rfl⟩ ?_
  obtain ⟨σ12, e, h⟩ := op_bd h
  refine ow_pRF (pc := 47) e dX4_init_47 fd_X4_28 rfl rfl (fun C T N h => by cases h; rfl) ?_
  exact ow_vret (pc := 50) h dX4_init_50 rfl
theorem c_X4_init {G : ah_G} (hex : ah_ex G)   (x0 : Nat) (σ : ah_H) (r : ah_H) (h : f_X4_init  x0 σ = some r) : AM G m_X4_init 1 6 204 [.ref x0] σ (ah_rv r) := aw_enter (by decide) (Nat.le_of_ble_eq_true rfl) (c_X4_init_0 hex _ _ _ (op_ck_k h))
def f_X4_clear_0   (x0 : Nat) (σ : ah_H) : Option (ah_H) :=
  (op_pI 4 0 σ x0 (0 : Int32)).bind fun σ1 => (op_pI 4 1 σ1 x0 (0 : Int32)).bind fun σ2 => (op_gR 4 4 σ2 x0).bind fun v3 => (f_J7_fill_53178 v3 (0 : Int32) σ2).bind fun r4 => (op_gR 4 5 r4 x0).bind fun v5 => (f_J7_fill_53178 v5 (0 : Int32) r4).bind fun r6 => some r6
def f_X4_clear  (x0 : Nat) (σ : ah_H) : Option (ah_H) := op_ck 4 σ x0 (f_X4_clear_0 x0 σ)
set_option maxRecDepth 100000 in
set_option maxHeartbeats 4000000 in
theorem c_X4_clear_0 {G : ah_G}   : ∀ (x0 : Nat) (σ : ah_H) (r : ah_H), f_X4_clear_0   x0 σ = some r → AW G m_X4_clear 1 0 0 0 [(0, .ref x0)] [] σ (ah_N G (ah_rv r)) := by
  intro x0 σ r h
  unfold f_X4_clear_0 at h
  refine aw_aload_n (pc := 0) 0 dX4_clear_0 rfl ?_
  refine aw_iconst (pc := 1) (v := (0 : Int32)) dX4_clear_1 (by decide) ?_
  obtain ⟨σ1, e, h⟩ := op_bd h
  refine ow_pI (pc := 2) e dX4_clear_2 fd_X4_31 ?_
  refine aw_aload_n (pc := 5) 0 dX4_clear_5 rfl ?_
  refine aw_iconst (pc := 6) (v := (0 : Int32)) dX4_clear_6 (by decide) ?_
  obtain ⟨σ2, e, h⟩ := op_bd h
  refine ow_pI (pc := 7) e dX4_clear_7 fd_X4_35 ?_
  refine aw_aload_n (pc := 10) 0 dX4_clear_10 rfl ?_
  obtain ⟨v3, e, h⟩ := op_bd h
  refine ow_gR (pc := 11) e dX4_clear_11 fd_X4_18 rfl ?_
  refine aw_iconst (pc := 14) (v := (0 : Int32)) dX4_clear_14 (by decide) ?_
  obtain ⟨r4, e, h⟩ := op_bd h
  refine ow_cSv (pc := 15) [.ref v3, .int (0 : Int32)] ((c_J7_fill_53178 _ _ _ _ e).mono (by decide)) rfl dX4_clear_15 cw_X4_38 rfl (Nat.le_of_ble_eq_true rfl) ?_
  refine aw_aload_n (pc := 18) 0 dX4_clear_18 rfl ?_
  obtain ⟨v5, e, h⟩ := op_bd h
  refine ow_gR (pc := 19) e dX4_clear_19 fd_X4_21 rfl ?_
  refine aw_iconst (pc := 22) (v := (0 : Int32)) dX4_clear_22 (by decide) ?_
  obtain ⟨r6, e, h⟩ := op_bd h
  refine ow_cSv (pc := 23) [.ref v5, .int (0 : Int32)] ((c_J7_fill_53178 _ _ _ _ e).mono (by decide)) rfl dX4_clear_23 cw_X4_38 rfl (Nat.le_of_ble_eq_true rfl) ?_
  exact ow_vret (pc := 26) h dX4_clear_26 rfl
theorem c_X4_clear {G : ah_G}   (x0 : Nat) (σ : ah_H) (r : ah_H) (h : f_X4_clear  x0 σ = some r) : AM G m_X4_clear 1 0 0 [.ref x0] σ (ah_rv r) := aw_enter (by decide) (Nat.le_of_ble_eq_true rfl) (c_X4_clear_0 _ _ _ (op_ck_k h))
def f_X9_clear_0   (x0 : Nat) (σ : ah_H) : Option (ah_H) :=
  (op_pI 9 0 σ x0 (0 : Int32)).bind fun σ1 => (op_pI 9 2 σ1 x0 (-1 : Int32)).bind fun σ2 => (op_pI 9 3 σ2 x0 (-1 : Int32)).bind fun σ3 => (op_pI 9 4 σ3 x0 (0 : Int32)).bind fun σ4 => (op_pI 9 6 σ4 x0 (0 : Int32)).bind fun σ5 => (op_pI 9 8 σ5 x0 (0 : Int32)).bind fun σ6 => (op_gR 9 11 σ6 x0).bind fun v7 => (op_sI σ6 v7 (0 : Int32) (1 : Int32)).bind fun σ8 => (op_gR 9 11 σ8 x0).bind fun v9 => (op_sI σ8 v9 (1 : Int32) (9 : Int32)).bind fun σ10 => (op_gR 9 12 σ10 x0).bind fun v11 => (op_sI σ10 v11 (0 : Int32) (2 : Int32)).bind fun σ12 => (op_gR 9 12 σ12 x0).bind fun v13 => (op_sI σ12 v13 (1 : Int32) (8 : Int32)).bind fun σ14 => (op_pI 9 13 σ14 x0 (1 : Int32)).bind fun σ15 => (op_pI 9 14 σ15 x0 (0 : Int32)).bind fun σ16 => (op_gR 9 15 σ16 x0).bind fun v17 => (f_X4_clear v17 σ16).bind fun r18 => some r18
def f_X9_clear  (x0 : Nat) (σ : ah_H) : Option (ah_H) := op_ck 9 σ x0 (f_X9_clear_0 x0 σ)
set_option maxRecDepth 100000 in
set_option maxHeartbeats 4000000 in
theorem c_X9_clear_0 {G : ah_G}   : ∀ (x0 : Nat) (σ : ah_H) (r : ah_H), f_X9_clear_0   x0 σ = some r → AW G m_X9_clear 2 0 0 0 [(0, .ref x0)] [] σ (ah_N G (ah_rv r)) := by
  intro x0 σ r h
  unfold f_X9_clear_0 at h
  refine aw_aload_n (pc := 0) 0 dX9_clear_0 rfl ?_
  refine aw_iconst (pc := 1) (v := (0 : Int32)) dX9_clear_1 (by decide) ?_
  obtain ⟨σ1, e, h⟩ := op_bd h
  refine ow_pI (pc := 2) e dX9_clear_2 fd_X9_45 ?_
  refine aw_aload_n (pc := 5) 0 dX9_clear_5 rfl ?_
  refine aw_iconst (pc := 6) (v := (-1 : Int32)) dX9_clear_6 (by decide) ?_
  obtain ⟨σ2, e, h⟩ := op_bd h
  refine ow_pI (pc := 7) e dX9_clear_7 fd_X9_49 ?_
  refine aw_aload_n (pc := 10) 0 dX9_clear_10 rfl ?_
  refine aw_iconst (pc := 11) (v := (-1 : Int32)) dX9_clear_11 (by decide) ?_
  obtain ⟨σ3, e, h⟩ := op_bd h
  refine ow_pI (pc := 12) e dX9_clear_12 fd_X9_52 ?_
  refine aw_aload_n (pc := 15) 0 dX9_clear_15 rfl ?_
  refine aw_iconst (pc := 16) (v := (0 : Int32)) dX9_clear_16 (by decide) ?_
  obtain ⟨σ4, e, h⟩ := op_bd h
  refine ow_pI (pc := 17) e dX9_clear_17 fd_X9_55 ?_
  refine aw_aload_n (pc := 20) 0 dX9_clear_20 rfl ?_
  refine aw_iconst (pc := 21) (v := (0 : Int32)) dX9_clear_21 (by decide) ?_
  obtain ⟨σ5, e, h⟩ := op_bd h
  refine ow_pI (pc := 22) e dX9_clear_22 fd_X9_58 ?_
  refine aw_aload_n (pc := 25) 0 dX9_clear_25 rfl ?_
  refine aw_iconst (pc := 26) (v := (0 : Int32)) dX9_clear_26 (by decide) ?_
  obtain ⟨σ6, e, h⟩ := op_bd h
  refine ow_pI (pc := 27) e dX9_clear_27 fd_X9_61 ?_
  refine aw_aload_n (pc := 30) 0 dX9_clear_30 rfl ?_
  obtain ⟨v7, e, h⟩ := op_bd h
  refine ow_gR (pc := 31) e dX9_clear_31 fd_X9_29 rfl ?_
  refine aw_iconst (pc := 34) (v := (0 : Int32)) dX9_clear_34 (by decide) ?_
  refine aw_iconst (pc := 35) (v := (1 : Int32)) dX9_clear_35 (by decide) ?_
  obtain ⟨σ8, e, h⟩ := op_bd h
  refine ow_sI (pc := 36) e dX9_clear_36 ?_
  refine aw_aload_n (pc := 37) 0 dX9_clear_37 rfl ?_
  obtain ⟨v9, e, h⟩ := op_bd h
  refine ow_gR (pc := 38) e dX9_clear_38 fd_X9_29 rfl ?_
  refine aw_iconst (pc := 41) (v := (1 : Int32)) dX9_clear_41 (by decide) ?_
  refine aw_bipush (pc := 42) (v := (9 : Int32)) dX9_clear_42 (by decide) ?_
  obtain ⟨σ10, e, h⟩ := op_bd h
  refine ow_sI (pc := 44) e dX9_clear_44 ?_
  refine aw_aload_n (pc := 45) 0 dX9_clear_45 rfl ?_
  obtain ⟨v11, e, h⟩ := op_bd h
  refine ow_gR (pc := 46) e dX9_clear_46 fd_X9_32 rfl ?_
  refine aw_iconst (pc := 49) (v := (0 : Int32)) dX9_clear_49 (by decide) ?_
  refine aw_iconst (pc := 50) (v := (2 : Int32)) dX9_clear_50 (by decide) ?_
  obtain ⟨σ12, e, h⟩ := op_bd h
  refine ow_sI (pc := 51) e dX9_clear_51 ?_
  refine aw_aload_n (pc := 52) 0 dX9_clear_52 rfl ?_
  obtain ⟨v13, e, h⟩ := op_bd h
  refine ow_gR (pc := 53) e dX9_clear_53 fd_X9_32 rfl ?_
  refine aw_iconst (pc := 56) (v := (1 : Int32)) dX9_clear_56 (by decide) ?_
  refine aw_bipush (pc := 57) (v := (8 : Int32)) dX9_clear_57 (by decide) ?_
  obtain ⟨σ14, e, h⟩ := op_bd h
  refine ow_sI (pc := 59) e dX9_clear_59 ?_
  refine aw_aload_n (pc := 60) 0 dX9_clear_60 rfl ?_
  refine aw_iconst (pc := 61) (v := (1 : Int32)) dX9_clear_61 (by decide) ?_
  obtain ⟨σ15, e, h⟩ := op_bd h
  refine ow_pI (pc := 62) e dX9_clear_62 fd_X9_64 ?_
  refine aw_aload_n (pc := 65) 0 dX9_clear_65 rfl ?_
  refine aw_iconst (pc := 66) (v := (0 : Int32)) dX9_clear_66 (by decide) ?_
  obtain ⟨σ16, e, h⟩ := op_bd h
  refine ow_pI (pc := 67) e dX9_clear_67 fd_X9_67 ?_
  refine aw_aload_n (pc := 70) 0 dX9_clear_70 rfl ?_
  obtain ⟨v17, e, h⟩ := op_bd h
  refine ow_gR (pc := 71) e dX9_clear_71 fd_X9_38 rfl ?_
  obtain ⟨r18, e, h⟩ := op_bd h
  refine ow_cVv (pc := 74) [] ((c_X4_clear _ _ _ e).mono (by decide)) (op_ck_sh e) rfl dX9_clear_74 cw_X9_70 rfl (Nat.le_of_ble_eq_true rfl) ?_
  exact ow_vret (pc := 77) h dX9_clear_77 rfl
theorem c_X9_clear {G : ah_G}   (x0 : Nat) (σ : ah_H) (r : ah_H) (h : f_X9_clear  x0 σ = some r) : AM G m_X9_clear 2 0 0 [.ref x0] σ (ah_rv r) := aw_enter (by decide) (Nat.le_of_ble_eq_true rfl) (c_X9_clear_0 _ _ _ (op_ck_k h))
def f_X9_init_0   (x0 : Nat) (σ : ah_H) : Option (ah_H) :=
  (op_nwM .int 7 4 σ).bind fun r1 => (op_pR 9 1 r1.2 x0 r1.1).bind fun σ2 => (op_nwM .int 10 5 σ2).bind fun r3 => (op_pR 9 5 r3.2 x0 r3.1).bind fun σ4 => (op_nwM .int 4 2 σ4).bind fun r5 => (op_pR 9 7 r5.2 x0 r5.1).bind fun σ6 => (op_nwA .int 4 σ6).bind fun r7 => (op_pR 9 9 r7.2 x0 r7.1).bind fun σ8 => (op_nwM .int 4 6 σ8).bind fun r9 => (op_pR 9 10 r9.2 x0 r9.1).bind fun σ10 => (op_nwA .int 2 σ10).bind fun r11 => (op_pR 9 11 r11.2 x0 r11.1).bind fun σ12 => (op_nwA .int 2 σ12).bind fun r13 => (op_pR 9 12 r13.2 x0 r13.1).bind fun σ14 => (op_nwO 4 σ14).bind fun r15 => (f_X4_init r15.1 r15.2).bind fun σ16 => (op_pR 9 15 σ16 x0 r15.1).bind fun σ17 => (f_X9_clear x0 σ17).bind fun r18 => some r18
def f_X9_init  (x0 : Nat) (σ : ah_H) : Option (ah_H) := op_ck 9 σ x0 (f_X9_init_0 x0 σ)
set_option maxRecDepth 100000 in
set_option maxHeartbeats 4000000 in
theorem c_X9_init_0 {G : ah_G} (hex : ah_ex G)   : ∀ (x0 : Nat) (σ : ah_H) (r : ah_H), f_X9_init_0   x0 σ = some r → AW G m_X9_init 3 39 355 0 [(0, .ref x0)] [] σ (ah_N G (ah_rv r)) := by
  intro x0 σ r h
  unfold f_X9_init_0 at h
  refine aw_aload_n (pc := 0) 0 dX9_init_0 rfl ?_
  refine ow_oi (pc := 1) dX9_init_1 oi_X9_3 (Nat.le_of_ble_eq_true rfl) ?_
  refine aw_aload_n (pc := 4) 0 dX9_init_4 rfl ?_
  refine aw_bipush (pc := 5) (v := (7 : Int32)) dX9_init_5 (by decide) ?_
  refine aw_iconst (pc := 7) (v := (4 : Int32)) dX9_init_7 (by decide) ?_
  obtain ⟨r1, e, h⟩ := op_bd h
  refine ow_nwM hex (pc := 8) (kc := 31) (ks := 320) (N := 7) (K := 4) e dX9_init_8 (by decide) (by decide) (by decide) (by decide) (by decide) (by decide) (by decide) (by decide) nm_X9_9 ?_
  obtain ⟨σ2, e, h⟩ := op_bd h
  refine ow_pRF (pc := 12) e dX9_init_12 fd_X9_11 rfl rfl (fun C T N h => by cases h; rfl) ?_
  refine aw_aload_n (pc := 15) 0 dX9_init_15 rfl ?_
  refine aw_bipush (pc := 16) (v := (10 : Int32)) dX9_init_16 (by decide) ?_
  refine aw_iconst (pc := 18) (v := (5 : Int32)) dX9_init_18 (by decide) ?_
  obtain ⟨r3, e, h⟩ := op_bd h
  refine ow_nwM hex (pc := 19) (kc := 20) (ks := 260) (N := 10) (K := 5) e dX9_init_19 (by decide) (by decide) (by decide) (by decide) (by decide) (by decide) (by decide) (by decide) nm_X9_9 ?_
  obtain ⟨σ4, e, h⟩ := op_bd h
  refine ow_pRF (pc := 23) e dX9_init_23 fd_X9_16 rfl rfl (fun C T N h => by cases h; rfl) ?_
  refine aw_aload_n (pc := 26) 0 dX9_init_26 rfl ?_
  refine aw_iconst (pc := 27) (v := (4 : Int32)) dX9_init_27 (by decide) ?_
  refine aw_iconst (pc := 28) (v := (2 : Int32)) dX9_init_28 (by decide) ?_
  obtain ⟨r5, e, h⟩ := op_bd h
  refine ow_nwM hex (pc := 29) (kc := 15) (ks := 248) (N := 4) (K := 2) e dX9_init_29 (by decide) (by decide) (by decide) (by decide) (by decide) (by decide) (by decide) (by decide) nm_X9_9 ?_
  obtain ⟨σ6, e, h⟩ := op_bd h
  refine ow_pRF (pc := 33) e dX9_init_33 fd_X9_19 rfl rfl (fun C T N h => by cases h; rfl) ?_
  refine aw_aload_n (pc := 36) 0 dX9_init_36 rfl ?_
  refine aw_iconst (pc := 37) (v := (4 : Int32)) dX9_init_37 (by decide) ?_
  obtain ⟨r7, e, h⟩ := op_bd h
  refine ow_nwA hex (pc := 38) (kc := 14) (ks := 244) (N := 4) e dX9_init_38 rfl (by decide) (by decide) (by decide) ac_int (by decide) ⟨rfl, rfl⟩ ?_
  obtain ⟨σ8, e, h⟩ := op_bd h
  refine ow_pRF (pc := 40) e dX9_init_40 fd_X9_22 rfl rfl (fun C T N h => by cases h; rfl) ?_
  refine aw_aload_n (pc := 43) 0 dX9_init_43 rfl ?_
  refine aw_iconst (pc := 44) (v := (4 : Int32)) dX9_init_44 (by decide) ?_
  refine aw_bipush (pc := 45) (v := (6 : Int32)) dX9_init_45 (by decide) ?_
  obtain ⟨r9, e, h⟩ := op_bd h
  refine ow_nwM hex (pc := 47) (kc := 9) (ks := 216) (N := 4) (K := 6) e dX9_init_47 (by decide) (by decide) (by decide) (by decide) (by decide) (by decide) (by decide) (by decide) nm_X9_9 ?_
  obtain ⟨σ10, e, h⟩ := op_bd h
  refine ow_pRF (pc := 51) e dX9_init_51 fd_X9_26 rfl rfl (fun C T N h => by cases h; rfl) ?_
  refine aw_aload_n (pc := 54) 0 dX9_init_54 rfl ?_
  refine aw_iconst (pc := 55) (v := (2 : Int32)) dX9_init_55 (by decide) ?_
  obtain ⟨r11, e, h⟩ := op_bd h
  refine ow_nwA hex (pc := 56) (kc := 8) (ks := 214) (N := 2) e dX9_init_56 rfl (by decide) (by decide) (by decide) ac_int (by decide) ⟨rfl, rfl⟩ ?_
  obtain ⟨σ12, e, h⟩ := op_bd h
  refine ow_pRF (pc := 58) e dX9_init_58 fd_X9_29 rfl rfl (fun C T N h => by cases h; rfl) ?_
  refine aw_aload_n (pc := 61) 0 dX9_init_61 rfl ?_
  refine aw_iconst (pc := 62) (v := (2 : Int32)) dX9_init_62 (by decide) ?_
  obtain ⟨r13, e, h⟩ := op_bd h
  refine ow_nwA hex (pc := 63) (kc := 7) (ks := 212) (N := 2) e dX9_init_63 rfl (by decide) (by decide) (by decide) ac_int (by decide) ⟨rfl, rfl⟩ ?_
  obtain ⟨σ14, e, h⟩ := op_bd h
  refine ow_pRF (pc := 65) e dX9_init_65 fd_X9_32 rfl rfl (fun C T N h => by cases h; rfl) ?_
  refine aw_aload_n (pc := 68) 0 dX9_init_68 rfl ?_
  obtain ⟨r15, e, h⟩ := op_bd h
  refine ow_nwO hex (pc := 69) (kc := 6) (ks := 204) (N := 8) e dX9_init_69 nw_X9_35 ?_
  refine aw_dup (pc := 72) dX9_init_72 rfl ?_
  obtain ⟨σ16, e, h⟩ := op_bd h
  refine ow_cIN (pc := 73) (ka := 6) (kb := 204) (kc := 0) (ks := 0) ((c_X4_init hex _ _ _ e).mono (by decide)) dX9_init_73 rfl (wd_1_47) (wd_1_3) (wd_1_46) (Nat.le_of_ble_eq_true rfl) ?_
  obtain ⟨σ17, e, h⟩ := op_bd h
  refine ow_pRF (pc := 76) e dX9_init_76 fd_X9_38 rfl rfl (fun C T N h => by cases h; rfl) ?_
  refine aw_aload_n (pc := 79) 0 dX9_init_79 rfl ?_
  obtain ⟨r18, e, h⟩ := op_bd h
  refine ow_cVvK (pc := 80) [] ((c_X9_clear _ _ _ e).mono (by decide)) (op_ck_sh e) rfl dX9_init_80 cw_X9_42 rfl (Nat.le_of_ble_eq_true rfl) ?_
  exact ow_vret (pc := 83) h dX9_init_83 rfl
theorem c_X9_init {G : ah_G} (hex : ah_ex G)   (x0 : Nat) (σ : ah_H) (r : ah_H) (h : f_X9_init  x0 σ = some r) : AM G m_X9_init 3 39 355 [.ref x0] σ (ah_rv r) := aw_enter (by decide) (Nat.le_of_ble_eq_true rfl) (c_X9_init_0 hex _ _ _ (op_ck_k h))
def f_X11_init_0   (x0 : Nat) (σ : ah_H) : Option (ah_H) :=
  (op_nwA .byte 700 σ).bind fun r1 => (op_pR 11 0 r1.2 x0 r1.1).bind fun σ2 => (op_pI 11 1 σ2 x0 (0 : Int32)).bind fun σ3 => (op_nwO 9 σ3).bind fun r4 => (f_X9_init r4.1 r4.2).bind fun σ5 => (op_pR 11 2 σ5 x0 r4.1).bind fun σ6 => (op_nwO 9 σ6).bind fun r7 => (f_X9_init r7.1 r7.2).bind fun σ8 => (op_pR 11 3 σ8 x0 r7.1).bind fun σ9 => (op_nwO 7 σ9).bind fun r10 => (op_gR 11 0 r10.2 x0).bind fun v11 => (op_gR 11 3 r10.2 x0).bind fun v12 => (f_X7_init r10.1 v11 v12 r10.2).bind fun σ13 => (op_pR 11 4 σ13 x0 r10.1).bind fun σ14 => (op_nwO 5 σ14).bind fun r15 => (f_X5_init r15.1 r15.2).bind fun σ16 => (op_pR 11 5 σ16 x0 r15.1).bind fun σ17 => (op_nwO 3 σ17).bind fun r18 => (op_gR 11 5 r18.2 x0).bind fun v19 => (op_gR 11 2 r18.2 x0).bind fun v20 => (f_X3_init r18.1 v19 v20 r18.2).bind fun σ21 => (op_pR 11 6 σ21 x0 r18.1).bind fun σ22 => (op_nwO 10 σ22).bind fun r23 => (op_gR 11 2 r23.2 x0).bind fun v24 => (f_X10_init r23.1 v24 r23.2).bind fun σ25 => (op_pR 11 7 σ25 x0 r23.1).bind fun σ26 => (op_nwO 6 σ26).bind fun r27 => (op_gR 11 5 r27.2 x0).bind fun v28 => (op_gR 11 2 r27.2 x0).bind fun v29 => (f_X6_init r27.1 v28 v29 r27.2).bind fun σ30 => (op_pR 11 8 σ30 x0 r27.1).bind fun σ31 => some σ31
def f_X11_init  (x0 : Nat) (σ : ah_H) : Option (ah_H) := op_ck 11 σ x0 (f_X11_init_0 x0 σ)
set_option maxRecDepth 100000 in
set_option maxHeartbeats 4000000 in
theorem c_X11_init_0 {G : ah_G} (hex : ah_ex G)   : ∀ (x0 : Nat) (σ : ah_H) (r : ah_H), f_X11_init_0   x0 σ = some r → AW G m_X11_init 7 224 14226 0 [(0, .ref x0)] [] σ (ah_N G (ah_rv r)) := by
  intro x0 σ r h
  unfold f_X11_init_0 at h
  refine aw_aload_n (pc := 0) 0 dX11_init_0 rfl ?_
  refine ow_oi (pc := 1) dX11_init_1 oi_X11_3 (Nat.le_of_ble_eq_true rfl) ?_
  refine aw_aload_n (pc := 4) 0 dX11_init_4 rfl ?_
  refine aw_sipush (pc := 5) (v := (700 : Int32)) dX11_init_5 (by decide) ?_
  obtain ⟨r1, e, h⟩ := op_bd h
  refine ow_nwA hex (pc := 8) (kc := 223) (ks := 13526) (N := 700) e dX11_init_8 rfl (by decide) (by decide) (by decide) ac_byte (by decide) ⟨rfl, rfl⟩ ?_
  obtain ⟨σ2, e, h⟩ := op_bd h
  refine ow_pRF (pc := 10) e dX11_init_10 fd_X11_9 rfl rfl (fun C T N h => by cases h; rfl) ?_
  refine aw_aload_n (pc := 13) 0 dX11_init_13 rfl ?_
  refine aw_iconst (pc := 14) (v := (0 : Int32)) dX11_init_14 (by decide) ?_
  obtain ⟨σ3, e, h⟩ := op_bd h
  refine ow_pI (pc := 15) e dX11_init_15 fd_X11_13 ?_
  refine aw_aload_n (pc := 18) 0 dX11_init_18 rfl ?_
  obtain ⟨r4, e, h⟩ := op_bd h
  refine ow_nwO hex (pc := 19) (kc := 222) (ks := 13510) (N := 16) e dX11_init_19 nw_X11_17 ?_
  refine aw_dup (pc := 22) dX11_init_22 rfl ?_
  obtain ⟨σ5, e, h⟩ := op_bd h
  refine ow_cI (pc := 23) (ka := 39) (kb := 355) (kc := 183) (ks := 13155) [] ((c_X9_init hex _ _ _ e).mono (by decide)) rfl dX11_init_23 ci_X11_19 rfl (Nat.le_of_ble_eq_true rfl) ?_
  obtain ⟨σ6, e, h⟩ := op_bd h
  refine ow_pR (pc := 26) e dX11_init_26 fd_X11_20 rfl ?_
  refine aw_aload_n (pc := 29) 0 dX11_init_29 rfl ?_
  obtain ⟨r7, e, h⟩ := op_bd h
  refine ow_nwO hex (pc := 30) (kc := 182) (ks := 13139) (N := 16) e dX11_init_30 nw_X11_17 ?_
  refine aw_dup (pc := 33) dX11_init_33 rfl ?_
  obtain ⟨σ8, e, h⟩ := op_bd h
  refine ow_cI (pc := 34) (ka := 39) (kb := 355) (kc := 143) (ks := 12784) [] ((c_X9_init hex _ _ _ e).mono (by decide)) rfl dX11_init_34 ci_X11_19 rfl (Nat.le_of_ble_eq_true rfl) ?_
  obtain ⟨σ9, e, h⟩ := op_bd h
  refine ow_pR (pc := 37) e dX11_init_37 fd_X11_24 rfl ?_
  refine aw_aload_n (pc := 40) 0 dX11_init_40 rfl ?_
  obtain ⟨r10, e, h⟩ := op_bd h
  refine ow_nwO hex (pc := 41) (kc := 142) (ks := 12779) (N := 5) e dX11_init_41 nw_X11_27 ?_
  refine aw_dup (pc := 44) dX11_init_44 rfl ?_
  refine aw_aload_n (pc := 45) 0 dX11_init_45 rfl ?_
  obtain ⟨v11, e, h⟩ := op_bd h
  refine ow_gR (pc := 46) e dX11_init_46 fd_X11_9 rfl ?_
  refine aw_aload_n (pc := 49) 0 dX11_init_49 rfl ?_
  obtain ⟨v12, e, h⟩ := op_bd h
  refine ow_gR (pc := 50) e dX11_init_50 fd_X11_24 rfl ?_
  obtain ⟨σ13, e, h⟩ := op_bd h
  refine ow_cI (pc := 53) (ka := 7) (kb := 2217) (kc := 135) (ks := 10562) [.ref v11, .ref v12] ((c_X7_init hex _ _ _ _ _ e).mono (by decide)) rfl dX11_init_53 ci_X11_29 rfl (Nat.le_of_ble_eq_true rfl) ?_
  obtain ⟨σ14, e, h⟩ := op_bd h
  refine ow_pRF (pc := 56) e dX11_init_56 fd_X11_32 rfl rfl (fun C T N h => by cases h; rfl) ?_
  refine aw_aload_n (pc := 59) 0 dX11_init_59 rfl ?_
  obtain ⟨r15, e, h⟩ := op_bd h
  refine ow_nwO hex (pc := 60) (kc := 134) (ks := 10553) (N := 9) e dX11_init_60 nw_X11_36 ?_
  refine aw_dup (pc := 63) dX11_init_63 rfl ?_
  obtain ⟨σ16, e, h⟩ := op_bd h
  refine ow_cI (pc := 64) (ka := 26) (kb := 636) (kc := 108) (ks := 9917) [] ((c_X5_init hex _ _ _ e).mono (by decide)) rfl dX11_init_64 ci_X11_38 rfl (Nat.le_of_ble_eq_true rfl) ?_
  obtain ⟨σ17, e, h⟩ := op_bd h
  refine ow_pRF (pc := 67) e dX11_init_67 fd_X11_39 rfl rfl (fun C T N h => by cases h; rfl) ?_
  refine aw_aload_n (pc := 70) 0 dX11_init_70 rfl ?_
  obtain ⟨r18, e, h⟩ := op_bd h
  refine ow_nwO hex (pc := 71) (kc := 107) (ks := 9910) (N := 7) e dX11_init_71 nw_X11_43 ?_
  refine aw_dup (pc := 74) dX11_init_74 rfl ?_
  refine aw_aload_n (pc := 75) 0 dX11_init_75 rfl ?_
  obtain ⟨v19, e, h⟩ := op_bd h
  refine ow_gR (pc := 76) e dX11_init_76 fd_X11_39 rfl ?_
  refine aw_aload_n (pc := 79) 0 dX11_init_79 rfl ?_
  obtain ⟨v20, e, h⟩ := op_bd h
  refine ow_gR (pc := 80) e dX11_init_80 fd_X11_20 rfl ?_
  obtain ⟨σ21, e, h⟩ := op_bd h
  refine ow_cI (pc := 83) (ka := 42) (kb := 3462) (kc := 65) (ks := 6448) [.ref v19, .ref v20] ((c_X3_init hex _ _ _ _ _ e).mono (by decide)) rfl dX11_init_83 ci_X11_45 rfl (Nat.le_of_ble_eq_true rfl) ?_
  obtain ⟨σ22, e, h⟩ := op_bd h
  refine ow_pRF (pc := 86) e dX11_init_86 fd_X11_48 rfl rfl (fun C T N h => by cases h; rfl) ?_
  refine aw_aload_n (pc := 89) 0 dX11_init_89 rfl ?_
  obtain ⟨r23, e, h⟩ := op_bd h
  refine ow_nwO hex (pc := 90) (kc := 64) (ks := 6440) (N := 8) e dX11_init_90 nw_X11_52 ?_
  refine aw_dup (pc := 93) dX11_init_93 rfl ?_
  refine aw_aload_n (pc := 94) 0 dX11_init_94 rfl ?_
  obtain ⟨v24, e, h⟩ := op_bd h
  refine ow_gR (pc := 95) e dX11_init_95 fd_X11_20 rfl ?_
  obtain ⟨σ25, e, h⟩ := op_bd h
  refine ow_cI (pc := 98) (ka := 61) (kb := 6300) (kc := 3) (ks := 140) [.ref v24] ((c_X10_init hex _ _ _ _ e).mono (by decide)) rfl dX11_init_98 ci_X11_54 rfl (Nat.le_of_ble_eq_true rfl) ?_
  obtain ⟨σ26, e, h⟩ := op_bd h
  refine ow_pRF (pc := 101) e dX11_init_101 fd_X11_57 rfl rfl (fun C T N h => by cases h; rfl) ?_
  refine aw_aload_n (pc := 104) 0 dX11_init_104 rfl ?_
  obtain ⟨r27, e, h⟩ := op_bd h
  refine ow_nwO hex (pc := 105) (kc := 2) (ks := 135) (N := 5) e dX11_init_105 nw_X11_61 ?_
  refine aw_dup (pc := 108) dX11_init_108 rfl ?_
  refine aw_aload_n (pc := 109) 0 dX11_init_109 rfl ?_
  obtain ⟨v28, e, h⟩ := op_bd h
  refine ow_gR (pc := 110) e dX11_init_110 fd_X11_39 rfl ?_
  refine aw_aload_n (pc := 113) 0 dX11_init_113 rfl ?_
  obtain ⟨v29, e, h⟩ := op_bd h
  refine ow_gR (pc := 114) e dX11_init_114 fd_X11_20 rfl ?_
  obtain ⟨σ30, e, h⟩ := op_bd h
  refine ow_cI (pc := 117) (ka := 2) (kb := 135) (kc := 0) (ks := 0) [.ref v28, .ref v29] ((c_X6_init hex _ _ _ _ _ e).mono (by decide)) rfl dX11_init_117 ci_X11_63 rfl (Nat.le_of_ble_eq_true rfl) ?_
  obtain ⟨σ31, e, h⟩ := op_bd h
  refine ow_pRF (pc := 120) e dX11_init_120 fd_X11_64 rfl rfl (fun C T N h => by cases h; rfl) ?_
  exact ow_vret (pc := 123) h dX11_init_123 rfl
theorem c_X11_init {G : ah_G} (hex : ah_ex G)   (x0 : Nat) (σ : ah_H) (r : ah_H) (h : f_X11_init  x0 σ = some r) : AM G m_X11_init 7 224 14226 [.ref x0] σ (ah_rv r) := aw_enter (by decide) (Nat.le_of_ble_eq_true rfl) (c_X11_init_0 hex _ _ _ (op_ck_k h))
def f_X11_appendBytes_3_b  (K3 : Nat → Int32 → Int32 → ah_H → Option (ah_H)) (x0 : Nat) (x1 : Int32) (x2 : Int32) (σ : ah_H) : Option (ah_H) :=
  if x2 < 0 then (some σ) else ((op_gI 11 1 σ x0).bind fun v1 => if (700 : Int32) ≤ v1 then (some σ) else ((op_gR 11 0 σ x0).bind fun v2 => (op_gI 11 1 σ x0).bind fun v3 => (op_sB σ v2 v3 (Int8.toInt32 (Int32.toInt8 (x1 >>> (x2 &&& 31))))).bind fun σ4 => (op_gI 11 1 σ4 x0).bind fun v5 => (op_pI 11 1 σ4 x0 (v5 + (1 : Int32))).bind fun σ6 => K3 x0 x1 (x2 + (-8 : Int32)) σ6))
def f_X11_appendBytes_3   : Nat → Nat → Int32 → Int32 → ah_H → Option (ah_H)
  | 0, _, _, _, _ => none
  | n + 1, x0, x1, x2, σ => f_X11_appendBytes_3_b (f_X11_appendBytes_3 n) x0 x1 x2 σ
def f_X11_appendBytes_0   (x0 : Nat) (x1 : Int32) (σ : ah_H) : Option (ah_H) :=
  f_X11_appendBytes_3 5000 x0 x1 (24 : Int32) σ
def f_X11_appendBytes  (x0 : Nat) (x1 : Int32) (σ : ah_H) : Option (ah_H) := op_ck 11 σ x0 (f_X11_appendBytes_0 x0 x1 σ)
set_option maxRecDepth 100000 in
set_option maxHeartbeats 4000000 in
theorem c_X11_appendBytes_3_b {G : ah_G}  (K3 : Nat → Int32 → Int32 → ah_H → Option (ah_H)) (hK3 : ∀ (x0 : Nat) (x1 : Int32) (x2 : Int32) (σ : ah_H) (r : ah_H), K3 x0 x1 x2 σ = some r → AW G m_X11_appendBytes 0 0 0 3 [(0, .ref x0), (1, .int x1), (2, .int x2)] [] σ (ah_N G (ah_rv r))) : ∀ (x0 : Nat) (x1 : Int32) (x2 : Int32) (σ : ah_H) (r : ah_H), f_X11_appendBytes_3_b  K3 x0 x1 x2 σ = some r → AW G m_X11_appendBytes 0 0 0 3 [(0, .ref x0), (1, .int x1), (2, .int x2)] [] σ (ah_N G (ah_rv r)) := by
  intro x0 x1 x2 σ r h
  unfold f_X11_appendBytes_3_b at h
  refine aw_iload_n (pc := 3) 2 dX11_appendBytes_3 rfl ?_
  refine aw_if_lt (pc := 4) 46 dX11_appendBytes_4 (by decide) (fun z => ?_) (fun z => ?_)
  · replace h := (if_pos z).symm.trans h
    exact ow_vret (pc := 46) h dX11_appendBytes_46 rfl
  · replace h := (if_neg z).symm.trans h
    refine aw_aload_n (pc := 7) 0 dX11_appendBytes_7 rfl ?_
    obtain ⟨v1, e, h⟩ := op_bd h
    refine ow_gI (pc := 8) e dX11_appendBytes_8 fd_X11_13 rfl ?_
    refine aw_sipush (pc := 11) (v := (700 : Int32)) dX11_appendBytes_11 (by decide) ?_
    refine aw_icmp_ge (pc := 14) 46 dX11_appendBytes_14 (by decide) (fun z => ?_) (fun z => ?_)
    · replace h := (if_pos z).symm.trans h
      exact ow_vret (pc := 46) h dX11_appendBytes_46 rfl
    · replace h := (if_neg z).symm.trans h
      refine aw_aload_n (pc := 17) 0 dX11_appendBytes_17 rfl ?_
      obtain ⟨v2, e, h⟩ := op_bd h
      refine ow_gR (pc := 18) e dX11_appendBytes_18 fd_X11_9 rfl ?_
      refine aw_aload_n (pc := 21) 0 dX11_appendBytes_21 rfl ?_
      obtain ⟨v3, e, h⟩ := op_bd h
      refine ow_gI (pc := 22) e dX11_appendBytes_22 fd_X11_13 rfl ?_
      refine aw_iload_n (pc := 25) 1 dX11_appendBytes_25 rfl ?_
      refine aw_iload_n (pc := 26) 2 dX11_appendBytes_26 rfl ?_
      refine aw_ishr (pc := 27) dX11_appendBytes_27 ?_
      refine aw_i2b (pc := 28) dX11_appendBytes_28 ?_
      obtain ⟨σ4, e, h⟩ := op_bd h
      refine ow_sB (pc := 29) e dX11_appendBytes_29 ?_
      refine aw_aload_n (pc := 30) 0 dX11_appendBytes_30 rfl ?_
      refine aw_dup (pc := 31) dX11_appendBytes_31 rfl ?_
      obtain ⟨v5, e, h⟩ := op_bd h
      refine ow_gI (pc := 32) e dX11_appendBytes_32 fd_X11_13 rfl ?_
      refine aw_iconst (pc := 35) (v := (1 : Int32)) dX11_appendBytes_35 (by decide) ?_
      refine aw_iadd (pc := 36) dX11_appendBytes_36 ?_
      obtain ⟨σ6, e, h⟩ := op_bd h
      refine ow_pI (pc := 37) e dX11_appendBytes_37 fd_X11_13 ?_
      refine aw_iinc (pc := 40) 2 [(2, .int (x2 + (-8 : Int32))), (0, .ref x0), (1, .int x1)] (x2 + (-8 : Int32)) dX11_appendBytes_40 rfl rfl (by decide) rfl ?_
      refine aw_goto (pc := 43) 3 dX11_appendBytes_43 (by decide) ?_
      refine aw_sub [1, 2, 0] rfl ?_
      exact hK3 _ _ _ _ _ h
theorem c_X11_appendBytes_3 {G : ah_G}   : ∀ (n : Nat) (x0 : Nat) (x1 : Int32) (x2 : Int32) (σ : ah_H) (r : ah_H), f_X11_appendBytes_3   n x0 x1 x2 σ = some r → AW G m_X11_appendBytes 0 0 0 3 [(0, .ref x0), (1, .int x1), (2, .int x2)] [] σ (ah_N G (ah_rv r)) := by
  intro n
  induction n with
  | zero => intro x0 x1 x2 σ r h; cases h
  | succ n ih => intro x0 x1 x2 σ r h; exact c_X11_appendBytes_3_b   _ ih x0 x1 x2 σ r h
set_option maxRecDepth 100000 in
set_option maxHeartbeats 4000000 in
theorem c_X11_appendBytes_0 {G : ah_G}   : ∀ (x0 : Nat) (x1 : Int32) (σ : ah_H) (r : ah_H), f_X11_appendBytes_0   x0 x1 σ = some r → AW G m_X11_appendBytes 0 0 0 0 [(0, .ref x0), (1, .int x1)] [] σ (ah_N G (ah_rv r)) := by
  intro x0 x1 σ r h
  unfold f_X11_appendBytes_0 at h
  refine aw_bipush (pc := 0) (v := (24 : Int32)) dX11_appendBytes_0 (by decide) ?_
  refine aw_istore_n (pc := 2) [(2, .int (24 : Int32)), (0, .ref x0), (1, .int x1)] dX11_appendBytes_2 rfl (by decide) rfl ?_
  refine aw_sub [1, 2, 0] rfl ?_
  exact c_X11_appendBytes_3  _ _ _ _ _ _ h
theorem c_X11_appendBytes {G : ah_G}   (x0 : Nat) (x1 : Int32) (σ : ah_H) (r : ah_H) (h : f_X11_appendBytes  x0 x1 σ = some r) : AM G m_X11_appendBytes 0 0 0 [.ref x0, .int x1] σ (ah_rv r) := aw_enter (by decide) (Nat.le_of_ble_eq_true rfl) (c_X11_appendBytes_0 _ _ _ _ (op_ck_k h))
def f_X11_feed_0   (x0 : Nat) (x1 : Int32) (x2 : Int32) (x3 : Int32) (x4 : Int32) (x5 : Int32) (σ : ah_H) : Option (Int32 × ah_H) :=
  (op_gI 11 1 σ x0).bind fun v1 => if (v1 + (20 : Int32)) ≤ (700 : Int32) then ((f_X11_appendBytes x0 x1 σ).bind fun r2 => (f_X11_appendBytes x0 x2 r2).bind fun r3 => (f_X11_appendBytes x0 x3 r3).bind fun r4 => (f_X11_appendBytes x0 x4 r4).bind fun r5 => (f_X11_appendBytes x0 x5 r5).bind fun r6 => (op_gI 11 1 r6 x0).bind fun v7 => some (v7, r6)) else (some ((-1 : Int32), σ))
def f_X11_feed  (x0 : Nat) (x1 : Int32) (x2 : Int32) (x3 : Int32) (x4 : Int32) (x5 : Int32) (σ : ah_H) : Option (Int32 × ah_H) := op_ck 11 σ x0 (f_X11_feed_0 x0 x1 x2 x3 x4 x5 σ)
set_option maxRecDepth 100000 in
set_option maxHeartbeats 4000000 in
theorem c_X11_feed_0 {G : ah_G}   : ∀ (x0 : Nat) (x1 : Int32) (x2 : Int32) (x3 : Int32) (x4 : Int32) (x5 : Int32) (σ : ah_H) (r : Int32 × ah_H), f_X11_feed_0   x0 x1 x2 x3 x4 x5 σ = some r → AW G m_X11_feed 1 0 0 0 [(0, .ref x0), (1, .int x1), (2, .int x2), (3, .int x3), (4, .int x4), (5, .int x5)] [] σ (ah_N G (ah_ri r)) := by
  intro x0 x1 x2 x3 x4 x5 σ r h
  unfold f_X11_feed_0 at h
  refine aw_aload_n (pc := 0) 0 dX11_feed_0 rfl ?_
  obtain ⟨v1, e, h⟩ := op_bd h
  refine ow_gI (pc := 1) e dX11_feed_1 fd_X11_13 rfl ?_
  refine aw_bipush (pc := 4) (v := (20 : Int32)) dX11_feed_4 (by decide) ?_
  refine aw_iadd (pc := 6) dX11_feed_6 ?_
  refine aw_sipush (pc := 7) (v := (700 : Int32)) dX11_feed_7 (by decide) ?_
  refine aw_icmp_le (pc := 10) 15 dX11_feed_10 (by decide) (fun z => ?_) (fun z => ?_)
  · replace h := (if_pos z).symm.trans h
    refine aw_aload_n (pc := 15) 0 dX11_feed_15 rfl ?_
    refine aw_iload_n (pc := 16) 1 dX11_feed_16 rfl ?_
    obtain ⟨r2, e, h⟩ := op_bd h
    refine ow_cVv (pc := 17) [.int x1] ((c_X11_appendBytes _ _ _ _ e).mono (by decide)) (op_ck_sh e) rfl dX11_feed_17 cw_X11_68 rfl (Nat.le_of_ble_eq_true rfl) ?_
    refine aw_aload_n (pc := 20) 0 dX11_feed_20 rfl ?_
    refine aw_iload_n (pc := 21) 2 dX11_feed_21 rfl ?_
    obtain ⟨r3, e, h⟩ := op_bd h
    refine ow_cVv (pc := 22) [.int x2] ((c_X11_appendBytes _ _ _ _ e).mono (by decide)) (op_ck_sh e) rfl dX11_feed_22 cw_X11_68 rfl (Nat.le_of_ble_eq_true rfl) ?_
    refine aw_aload_n (pc := 25) 0 dX11_feed_25 rfl ?_
    refine aw_iload_n (pc := 26) 3 dX11_feed_26 rfl ?_
    obtain ⟨r4, e, h⟩ := op_bd h
    refine ow_cVv (pc := 27) [.int x3] ((c_X11_appendBytes _ _ _ _ e).mono (by decide)) (op_ck_sh e) rfl dX11_feed_27 cw_X11_68 rfl (Nat.le_of_ble_eq_true rfl) ?_
    refine aw_aload_n (pc := 30) 0 dX11_feed_30 rfl ?_
    refine aw_iload (pc := 31) 4 dX11_feed_31 rfl ?_
    obtain ⟨r5, e, h⟩ := op_bd h
    refine ow_cVv (pc := 33) [.int x4] ((c_X11_appendBytes _ _ _ _ e).mono (by decide)) (op_ck_sh e) rfl dX11_feed_33 cw_X11_68 rfl (Nat.le_of_ble_eq_true rfl) ?_
    refine aw_aload_n (pc := 36) 0 dX11_feed_36 rfl ?_
    refine aw_iload (pc := 37) 5 dX11_feed_37 rfl ?_
    obtain ⟨r6, e, h⟩ := op_bd h
    refine ow_cVv (pc := 39) [.int x5] ((c_X11_appendBytes _ _ _ _ e).mono (by decide)) (op_ck_sh e) rfl dX11_feed_39 cw_X11_68 rfl (Nat.le_of_ble_eq_true rfl) ?_
    refine aw_aload_n (pc := 42) 0 dX11_feed_42 rfl ?_
    obtain ⟨v7, e, h⟩ := op_bd h
    refine ow_gI (pc := 43) e dX11_feed_43 fd_X11_13 rfl ?_
    exact ow_iret (pc := 46) h dX11_feed_46 rfl
  · replace h := (if_neg z).symm.trans h
    refine aw_iconst (pc := 13) (v := (-1 : Int32)) dX11_feed_13 (by decide) ?_
    exact ow_iret (pc := 14) h dX11_feed_14 rfl
theorem c_X11_feed {G : ah_G}   (x0 : Nat) (x1 : Int32) (x2 : Int32) (x3 : Int32) (x4 : Int32) (x5 : Int32) (σ : ah_H) (r : Int32 × ah_H) (h : f_X11_feed  x0 x1 x2 x3 x4 x5 σ = some r) : AM G m_X11_feed 1 0 0 [.ref x0, .int x1, .int x2, .int x3, .int x4, .int x5] σ (ah_ri r) := aw_enter (by decide) (Nat.le_of_ble_eq_true rfl) (c_X11_feed_0 _ _ _ _ _ _ _ _ (op_ck_k h))
def f_X7_fail_0   (x0 : Nat) (x1 : Int32) (σ : ah_H) : Option (Int32 × ah_H) :=
  (op_pI 7 3 σ x0 x1).bind fun σ1 => (op_gR 7 0 σ1 x0).bind fun v2 => (op_gI 8 10 σ1 v2).bind fun v3 => (op_pI 7 4 σ1 x0 v3).bind fun σ4 => (op_rz (0 : Int32)).map fun q => (q, σ4)
def f_X7_fail  (x0 : Nat) (x1 : Int32) (σ : ah_H) : Option (Int32 × ah_H) := op_ck 7 σ x0 (f_X7_fail_0 x0 x1 σ)
set_option maxRecDepth 100000 in
set_option maxHeartbeats 4000000 in
theorem c_X7_fail_0 {G : ah_G}   : ∀ (x0 : Nat) (x1 : Int32) (σ : ah_H) (r : Int32 × ah_H), f_X7_fail_0   x0 x1 σ = some r → AW G m_X7_fail 0 0 0 0 [(0, .ref x0), (1, .int x1)] [] σ (ah_N G (ah_ri r)) := by
  intro x0 x1 σ r h
  unfold f_X7_fail_0 at h
  refine aw_aload_n (pc := 0) 0 dX7_fail_0 rfl ?_
  refine aw_iload_n (pc := 1) 1 dX7_fail_1 rfl ?_
  obtain ⟨σ1, e, h⟩ := op_bd h
  refine ow_pI (pc := 2) e dX7_fail_2 fd_X7_9 ?_
  refine aw_aload_n (pc := 5) 0 dX7_fail_5 rfl ?_
  refine aw_aload_n (pc := 6) 0 dX7_fail_6 rfl ?_
  obtain ⟨v2, e, h⟩ := op_bd h
  refine ow_gR (pc := 7) e dX7_fail_7 fd_X7_23 rfl ?_
  obtain ⟨v3, e, h⟩ := op_bd h
  refine ow_gI (pc := 10) e dX7_fail_10 fd_X7_70 rfl ?_
  obtain ⟨σ4, e, h⟩ := op_bd h
  refine ow_pI (pc := 13) e dX7_fail_13 fd_X7_15 ?_
  refine aw_iconst (pc := 16) (v := (0 : Int32)) dX7_fail_16 (by decide) ?_
  exact ow_zret (pc := 17) h dX7_fail_17 rfl
theorem c_X7_fail {G : ah_G}   (x0 : Nat) (x1 : Int32) (σ : ah_H) (r : Int32 × ah_H) (h : f_X7_fail  x0 x1 σ = some r) : AM G m_X7_fail 0 0 0 [.ref x0, .int x1] σ (ah_ri r) := aw_enter (by decide) (Nat.le_of_ble_eq_true rfl) (c_X7_fail_0 _ _ _ _ (op_ck_k h))
def f_X8_step_29   (x0 : Nat) (σ : ah_H) : Option (ah_H) :=
  (op_gI 8 7 σ x0).bind fun v1 => (op_pI 8 7 σ x0 (v1 + (1 : Int32))).bind fun σ2 => (op_gR 8 2 σ2 x0).bind fun v3 => (op_gI 8 7 σ2 x0).bind fun v4 => (op_aI σ2 v3 v4).bind fun v5 => (op_pI 8 8 σ2 x0 v5).bind fun σ6 => (op_gR 8 3 σ6 x0).bind fun v7 => (op_gI 8 7 σ6 x0).bind fun v8 => (op_aI σ6 v7 v8).bind fun v9 => (op_pI 8 9 σ6 x0 v9).bind fun σ10 => (op_gR 8 4 σ10 x0).bind fun v11 => (op_gI 8 7 σ10 x0).bind fun v12 => (op_aI σ10 v11 v12).bind fun v13 => (op_pI 8 10 σ10 x0 v13).bind fun σ14 => some σ14
def f_X8_step_0   (x0 : Nat) (σ : ah_H) : Option (ah_H) :=
  (op_gI 8 7 σ x0).bind fun v1 => if (700 : Int32) ≤ v1 then (some σ) else ((op_gI 8 7 σ x0).bind fun v2 => if v2 < 0 then (f_X8_step_29 x0 σ) else ((op_gR 8 2 σ x0).bind fun v3 => (op_gI 8 7 σ x0).bind fun v4 => (op_aI σ v3 v4).bind fun v5 => if v5 = 0 then (some σ) else (f_X8_step_29 x0 σ)))
def f_X8_step  (x0 : Nat) (σ : ah_H) : Option (ah_H) := op_ck 8 σ x0 (f_X8_step_0 x0 σ)
set_option maxRecDepth 100000 in
set_option maxHeartbeats 4000000 in
theorem c_X8_step_29 {G : ah_G}   : ∀ (x0 : Nat) (σ : ah_H) (r : ah_H), f_X8_step_29   x0 σ = some r → AW G m_X8_step 0 0 0 29 [(0, .ref x0)] [] σ (ah_N G (ah_rv r)) := by
  intro x0 σ r h
  unfold f_X8_step_29 at h
  refine aw_aload_n (pc := 29) 0 dX8_step_29 rfl ?_
  refine aw_dup (pc := 30) dX8_step_30 rfl ?_
  obtain ⟨v1, e, h⟩ := op_bd h
  refine ow_gI (pc := 31) e dX8_step_31 fd_X8_74 rfl ?_
  refine aw_iconst (pc := 34) (v := (1 : Int32)) dX8_step_34 (by decide) ?_
  refine aw_iadd (pc := 35) dX8_step_35 ?_
  obtain ⟨σ2, e, h⟩ := op_bd h
  refine ow_pI (pc := 36) e dX8_step_36 fd_X8_74 ?_
  refine aw_aload_n (pc := 39) 0 dX8_step_39 rfl ?_
  refine aw_aload_n (pc := 40) 0 dX8_step_40 rfl ?_
  obtain ⟨v3, e, h⟩ := op_bd h
  refine ow_gR (pc := 41) e dX8_step_41 fd_X8_15 rfl ?_
  refine aw_aload_n (pc := 44) 0 dX8_step_44 rfl ?_
  obtain ⟨v4, e, h⟩ := op_bd h
  refine ow_gI (pc := 45) e dX8_step_45 fd_X8_74 rfl ?_
  obtain ⟨v5, e, h⟩ := op_bd h
  refine ow_aI (pc := 48) e dX8_step_48 ?_
  obtain ⟨σ6, e, h⟩ := op_bd h
  refine ow_pI (pc := 49) e dX8_step_49 fd_X8_62 ?_
  refine aw_aload_n (pc := 52) 0 dX8_step_52 rfl ?_
  refine aw_aload_n (pc := 53) 0 dX8_step_53 rfl ?_
  obtain ⟨v7, e, h⟩ := op_bd h
  refine ow_gR (pc := 54) e dX8_step_54 fd_X8_18 rfl ?_
  refine aw_aload_n (pc := 57) 0 dX8_step_57 rfl ?_
  obtain ⟨v8, e, h⟩ := op_bd h
  refine ow_gI (pc := 58) e dX8_step_58 fd_X8_74 rfl ?_
  obtain ⟨v9, e, h⟩ := op_bd h
  refine ow_aI (pc := 61) e dX8_step_61 ?_
  obtain ⟨σ10, e, h⟩ := op_bd h
  refine ow_pI (pc := 62) e dX8_step_62 fd_X8_68 ?_
  refine aw_aload_n (pc := 65) 0 dX8_step_65 rfl ?_
  refine aw_aload_n (pc := 66) 0 dX8_step_66 rfl ?_
  obtain ⟨v11, e, h⟩ := op_bd h
  refine ow_gR (pc := 67) e dX8_step_67 fd_X8_21 rfl ?_
  refine aw_aload_n (pc := 70) 0 dX8_step_70 rfl ?_
  obtain ⟨v12, e, h⟩ := op_bd h
  refine ow_gI (pc := 71) e dX8_step_71 fd_X8_74 rfl ?_
  obtain ⟨v13, e, h⟩ := op_bd h
  refine ow_aI (pc := 74) e dX8_step_74 ?_
  obtain ⟨σ14, e, h⟩ := op_bd h
  refine ow_pI (pc := 75) e dX8_step_75 fd_X8_71 ?_
  exact ow_vret (pc := 78) h dX8_step_78 rfl
set_option maxRecDepth 100000 in
set_option maxHeartbeats 4000000 in
theorem c_X8_step_0 {G : ah_G}   : ∀ (x0 : Nat) (σ : ah_H) (r : ah_H), f_X8_step_0   x0 σ = some r → AW G m_X8_step 0 0 0 0 [(0, .ref x0)] [] σ (ah_N G (ah_rv r)) := by
  intro x0 σ r h
  unfold f_X8_step_0 at h
  refine aw_aload_n (pc := 0) 0 dX8_step_0 rfl ?_
  obtain ⟨v1, e, h⟩ := op_bd h
  refine ow_gI (pc := 1) e dX8_step_1 fd_X8_74 rfl ?_
  refine aw_sipush (pc := 4) (v := (700 : Int32)) dX8_step_4 (by decide) ?_
  refine aw_icmp_ge (pc := 7) 78 dX8_step_7 (by decide) (fun z => ?_) (fun z => ?_)
  · replace h := (if_pos z).symm.trans h
    exact ow_vret (pc := 78) h dX8_step_78 rfl
  · replace h := (if_neg z).symm.trans h
    refine aw_aload_n (pc := 10) 0 dX8_step_10 rfl ?_
    obtain ⟨v2, e, h⟩ := op_bd h
    refine ow_gI (pc := 11) e dX8_step_11 fd_X8_74 rfl ?_
    refine aw_if_lt (pc := 14) 29 dX8_step_14 (by decide) (fun z => ?_) (fun z => ?_)
    · replace h := (if_pos z).symm.trans h
      exact c_X8_step_29  _ _ _ h
    · replace h := (if_neg z).symm.trans h
      refine aw_aload_n (pc := 17) 0 dX8_step_17 rfl ?_
      obtain ⟨v3, e, h⟩ := op_bd h
      refine ow_gR (pc := 18) e dX8_step_18 fd_X8_15 rfl ?_
      refine aw_aload_n (pc := 21) 0 dX8_step_21 rfl ?_
      obtain ⟨v4, e, h⟩ := op_bd h
      refine ow_gI (pc := 22) e dX8_step_22 fd_X8_74 rfl ?_
      obtain ⟨v5, e, h⟩ := op_bd h
      refine ow_aI (pc := 25) e dX8_step_25 ?_
      refine aw_if_eq (pc := 26) 78 dX8_step_26 (by decide) (fun z => ?_) (fun z => ?_)
      · replace h := (if_pos z).symm.trans h
        exact ow_vret (pc := 78) h dX8_step_78 rfl
      · replace h := (if_neg z).symm.trans h
        exact c_X8_step_29  _ _ _ h
theorem c_X8_step {G : ah_G}   (x0 : Nat) (σ : ah_H) (r : ah_H) (h : f_X8_step  x0 σ = some r) : AM G m_X8_step 0 0 0 [.ref x0] σ (ah_rv r) := aw_enter (by decide) (Nat.le_of_ble_eq_true rfl) (c_X8_step_0 _ _ _ (op_ck_k h))
def f_X7_readNumber_37   (x0 : Nat) (σ : ah_H) : Option (Int32 × ah_H) :=
  (f_X7_fail x0 (2 : Int32) σ).bind fun r1 => some ((-1 : Int32), r1.2)
def f_X7_readNumber_0   (x0 : Nat) (x1 : Int32) (x2 : Int32) (σ : ah_H) : Option (Int32 × ah_H) :=
  (op_gR 7 0 σ x0).bind fun v1 => (op_gI 8 8 σ v1).bind fun v2 => if v2 = (3 : Int32) then ((op_gR 7 0 σ x0).bind fun v3 => (op_gI 8 9 σ v3).bind fun v4 => if v4 < x1 then (f_X7_readNumber_37 x0 σ) else (if v4 ≤ x2 then ((op_gR 7 0 σ x0).bind fun v5 => (f_X8_step v5 σ).bind fun r6 => some (v4, r6)) else (f_X7_readNumber_37 x0 σ))) else ((f_X7_fail x0 (1 : Int32) σ).bind fun r7 => some ((-1 : Int32), r7.2))
def f_X7_readNumber  (x0 : Nat) (x1 : Int32) (x2 : Int32) (σ : ah_H) : Option (Int32 × ah_H) := op_ck 7 σ x0 (f_X7_readNumber_0 x0 x1 x2 σ)
set_option maxRecDepth 100000 in
set_option maxHeartbeats 4000000 in
theorem c_X7_readNumber_37 {G : ah_G}   : ∀ (x0 : Nat) (σ : ah_H) (r : Int32 × ah_H), f_X7_readNumber_37   x0 σ = some r → AW G m_X7_readNumber 1 0 0 37 [(0, .ref x0)] [] σ (ah_N G (ah_ri r)) := by
  intro x0 σ r h
  unfold f_X7_readNumber_37 at h
  refine aw_aload_n (pc := 37) 0 dX7_readNumber_37 rfl ?_
  refine aw_iconst (pc := 38) (v := (2 : Int32)) dX7_readNumber_38 (by decide) ?_
  obtain ⟨r1, e, h⟩ := op_bd h
  refine ow_cVi (pc := 39) [.int (2 : Int32)] ((c_X7_fail _ _ _ _ e).mono (by decide)) (op_ck_sh e) rfl dX7_readNumber_39 cw_X7_64 rfl (Nat.le_of_ble_eq_true rfl) ?_
  refine aw_pop (pc := 42) dX7_readNumber_42 rfl ?_
  refine aw_iconst (pc := 43) (v := (-1 : Int32)) dX7_readNumber_43 (by decide) ?_
  exact ow_iret (pc := 44) h dX7_readNumber_44 rfl
set_option maxRecDepth 100000 in
set_option maxHeartbeats 4000000 in
theorem c_X7_readNumber_0 {G : ah_G}   : ∀ (x0 : Nat) (x1 : Int32) (x2 : Int32) (σ : ah_H) (r : Int32 × ah_H), f_X7_readNumber_0   x0 x1 x2 σ = some r → AW G m_X7_readNumber 1 0 0 0 [(0, .ref x0), (1, .int x1), (2, .int x2)] [] σ (ah_N G (ah_ri r)) := by
  intro x0 x1 x2 σ r h
  unfold f_X7_readNumber_0 at h
  refine aw_aload_n (pc := 0) 0 dX7_readNumber_0 rfl ?_
  obtain ⟨v1, e, h⟩ := op_bd h
  refine ow_gR (pc := 1) e dX7_readNumber_1 fd_X7_23 rfl ?_
  obtain ⟨v2, e, h⟩ := op_bd h
  refine ow_gI (pc := 4) e dX7_readNumber_4 fd_X7_53 rfl ?_
  refine aw_iconst (pc := 7) (v := (3 : Int32)) dX7_readNumber_7 (by decide) ?_
  refine aw_icmp_eq (pc := 8) 19 dX7_readNumber_8 (by decide) (fun z => ?_) (fun z => ?_)
  · replace h := (if_pos z).symm.trans h
    refine aw_aload_n (pc := 19) 0 dX7_readNumber_19 rfl ?_
    obtain ⟨v3, e, h⟩ := op_bd h
    refine ow_gR (pc := 20) e dX7_readNumber_20 fd_X7_23 rfl ?_
    obtain ⟨v4, e, h⟩ := op_bd h
    refine ow_gI (pc := 23) e dX7_readNumber_23 fd_X7_71 rfl ?_
    refine aw_istore_n (pc := 26) [(3, .int v4), (0, .ref x0), (1, .int x1), (2, .int x2)] dX7_readNumber_26 rfl (by decide) rfl ?_
    refine aw_iload_n (pc := 27) 0 dX7_readNumber_27 rfl ?_
    refine aw_iload_n (pc := 28) 2 dX7_readNumber_28 rfl ?_
    refine aw_icmp_lt (pc := 29) 37 dX7_readNumber_29 (by decide) (fun z => ?_) (fun z => ?_)
    · replace h := (if_pos z).symm.trans h
      refine aw_sub [1] rfl ?_
      exact c_X7_readNumber_37  _ _ _ h
    · replace h := (if_neg z).symm.trans h
      refine aw_iload_n (pc := 32) 0 dX7_readNumber_32 rfl ?_
      refine aw_iload_n (pc := 33) 3 dX7_readNumber_33 rfl ?_
      refine aw_icmp_le (pc := 34) 45 dX7_readNumber_34 (by decide) (fun z => ?_) (fun z => ?_)
      · replace h := (if_pos z).symm.trans h
        refine aw_aload_n (pc := 45) 1 dX7_readNumber_45 rfl ?_
        obtain ⟨v5, e, h⟩ := op_bd h
        refine ow_gR (pc := 46) e dX7_readNumber_46 fd_X7_23 rfl ?_
        obtain ⟨r6, e, h⟩ := op_bd h
        refine ow_cVv (pc := 49) [] ((c_X8_step _ _ _ e).mono (by decide)) (op_ck_sh e) rfl dX7_readNumber_49 cw_X7_67 rfl (Nat.le_of_ble_eq_true rfl) ?_
        refine aw_iload_n (pc := 52) 0 dX7_readNumber_52 rfl ?_
        exact ow_iret (pc := 53) h dX7_readNumber_53 rfl
      · replace h := (if_neg z).symm.trans h
        refine aw_sub [1] rfl ?_
        exact c_X7_readNumber_37  _ _ _ h
  · replace h := (if_neg z).symm.trans h
    refine aw_aload_n (pc := 11) 0 dX7_readNumber_11 rfl ?_
    refine aw_iconst (pc := 12) (v := (1 : Int32)) dX7_readNumber_12 (by decide) ?_
    obtain ⟨r7, e, h⟩ := op_bd h
    refine ow_cVi (pc := 13) [.int (1 : Int32)] ((c_X7_fail _ _ _ _ e).mono (by decide)) (op_ck_sh e) rfl dX7_readNumber_13 cw_X7_64 rfl (Nat.le_of_ble_eq_true rfl) ?_
    refine aw_pop (pc := 16) dX7_readNumber_16 rfl ?_
    refine aw_iconst (pc := 17) (v := (-1 : Int32)) dX7_readNumber_17 (by decide) ?_
    exact ow_iret (pc := 18) h dX7_readNumber_18 rfl
theorem c_X7_readNumber {G : ah_G}   (x0 : Nat) (x1 : Int32) (x2 : Int32) (σ : ah_H) (r : Int32 × ah_H) (h : f_X7_readNumber  x0 x1 x2 σ = some r) : AM G m_X7_readNumber 1 0 0 [.ref x0, .int x1, .int x2] σ (ah_ri r) := aw_enter (by decide) (Nat.le_of_ble_eq_true rfl) (c_X7_readNumber_0 _ _ _ _ _ (op_ck_k h))
def f_X7_tellOnce_0   (x0 : Nat) (x1 : Int32) (σ : ah_H) : Option (Int32 × ah_H) :=
  (op_gR 7 2 σ x0).bind fun v1 => (op_gI 9 14 σ v1).bind fun v2 => if ((v2 >>> (x1 &&& 31)) &&& (1 : Int32)) = 0 then ((op_gR 7 2 σ x0).bind fun v3 => (op_gI 9 14 σ v3).bind fun v4 => (op_pI 9 14 σ v3 (v4 ||| ((1 : Int32) <<< (x1 &&& 31)))).bind fun σ5 => (op_gR 7 0 σ5 x0).bind fun v6 => (f_X8_step v6 σ5).bind fun r7 => (op_rz (1 : Int32)).map fun q => (q, r7)) else ((f_X7_fail x0 (3 : Int32) σ).bind fun r8 => (op_rz r8.1).map fun q => (q, r8.2))
def f_X7_tellOnce  (x0 : Nat) (x1 : Int32) (σ : ah_H) : Option (Int32 × ah_H) := op_ck 7 σ x0 (f_X7_tellOnce_0 x0 x1 σ)
set_option maxRecDepth 100000 in
set_option maxHeartbeats 4000000 in
theorem c_X7_tellOnce_0 {G : ah_G}   : ∀ (x0 : Nat) (x1 : Int32) (σ : ah_H) (r : Int32 × ah_H), f_X7_tellOnce_0   x0 x1 σ = some r → AW G m_X7_tellOnce 1 0 0 0 [(0, .ref x0), (1, .int x1)] [] σ (ah_N G (ah_ri r)) := by
  intro x0 x1 σ r h
  unfold f_X7_tellOnce_0 at h
  refine aw_aload_n (pc := 0) 0 dX7_tellOnce_0 rfl ?_
  obtain ⟨v1, e, h⟩ := op_bd h
  refine ow_gR (pc := 1) e dX7_tellOnce_1 fd_X7_42 rfl ?_
  obtain ⟨v2, e, h⟩ := op_bd h
  refine ow_gI (pc := 4) e dX7_tellOnce_4 fd_X7_191 rfl ?_
  refine aw_iload_n (pc := 7) 1 dX7_tellOnce_7 rfl ?_
  refine aw_ishr (pc := 8) dX7_tellOnce_8 ?_
  refine aw_iconst (pc := 9) (v := (1 : Int32)) dX7_tellOnce_9 (by decide) ?_
  refine aw_iand (pc := 10) dX7_tellOnce_10 ?_
  refine aw_if_eq (pc := 11) 20 dX7_tellOnce_11 (by decide) (fun z => ?_) (fun z => ?_)
  · replace h := (if_pos z).symm.trans h
    refine aw_aload_n (pc := 20) 0 dX7_tellOnce_20 rfl ?_
    obtain ⟨v3, e, h⟩ := op_bd h
    refine ow_gR (pc := 21) e dX7_tellOnce_21 fd_X7_42 rfl ?_
    refine aw_dup (pc := 24) dX7_tellOnce_24 rfl ?_
    obtain ⟨v4, e, h⟩ := op_bd h
    refine ow_gI (pc := 25) e dX7_tellOnce_25 fd_X7_191 rfl ?_
    refine aw_iconst (pc := 28) (v := (1 : Int32)) dX7_tellOnce_28 (by decide) ?_
    refine aw_iload_n (pc := 29) 1 dX7_tellOnce_29 rfl ?_
    refine aw_ishl (pc := 30) dX7_tellOnce_30 ?_
    refine aw_ior (pc := 31) dX7_tellOnce_31 ?_
    obtain ⟨σ5, e, h⟩ := op_bd h
    refine ow_pI (pc := 32) e dX7_tellOnce_32 fd_X7_191 ?_
    refine aw_aload_n (pc := 35) 0 dX7_tellOnce_35 rfl ?_
    obtain ⟨v6, e, h⟩ := op_bd h
    refine ow_gR (pc := 36) e dX7_tellOnce_36 fd_X7_23 rfl ?_
    obtain ⟨r7, e, h⟩ := op_bd h
    refine ow_cVv (pc := 39) [] ((c_X8_step _ _ _ e).mono (by decide)) (op_ck_sh e) rfl dX7_tellOnce_39 cw_X7_67 rfl (Nat.le_of_ble_eq_true rfl) ?_
    refine aw_iconst (pc := 42) (v := (1 : Int32)) dX7_tellOnce_42 (by decide) ?_
    exact ow_zret (pc := 43) h dX7_tellOnce_43 rfl
  · replace h := (if_neg z).symm.trans h
    refine aw_aload_n (pc := 14) 0 dX7_tellOnce_14 rfl ?_
    refine aw_iconst (pc := 15) (v := (3 : Int32)) dX7_tellOnce_15 (by decide) ?_
    obtain ⟨r8, e, h⟩ := op_bd h
    refine ow_cVi (pc := 16) [.int (3 : Int32)] ((c_X7_fail _ _ _ _ e).mono (by decide)) (op_ck_sh e) rfl dX7_tellOnce_16 cw_X7_64 rfl (Nat.le_of_ble_eq_true rfl) ?_
    exact ow_zret (pc := 19) h dX7_tellOnce_19 rfl
theorem c_X7_tellOnce {G : ah_G}   (x0 : Nat) (x1 : Int32) (σ : ah_H) (r : Int32 × ah_H) (h : f_X7_tellOnce  x0 x1 σ = some r) : AM G m_X7_tellOnce 1 0 0 [.ref x0, .int x1] σ (ah_ri r) := aw_enter (by decide) (Nat.le_of_ble_eq_true rfl) (c_X7_tellOnce_0 _ _ _ _ (op_ck_k h))
def f_X7_readCart_0   (x0 : Nat) (σ : ah_H) : Option (Int32 × ah_H) :=
  (f_X7_tellOnce x0 (8 : Int32) σ).bind fun r1 => if r1.1 = 0 then ((op_rz (0 : Int32)).map fun q => (q, r1.2)) else ((op_gR 7 2 r1.2 x0).bind fun v2 => (f_X7_readNumber x0 (0 : Int32) (99 : Int32) r1.2).bind fun r3 => (op_pI 9 13 r3.2 v2 r3.1).bind fun σ4 => (op_gR 7 2 σ4 x0).bind fun v5 => (op_gI 9 13 σ4 v5).bind fun v6 => if v6 = (-1 : Int32) then ((op_rz (0 : Int32)).map fun q => (q, σ4)) else ((op_rz (1 : Int32)).map fun q => (q, σ4)))
def f_X7_readCart  (x0 : Nat) (σ : ah_H) : Option (Int32 × ah_H) := op_ck 7 σ x0 (f_X7_readCart_0 x0 σ)
set_option maxRecDepth 100000 in
set_option maxHeartbeats 4000000 in
theorem c_X7_readCart_0 {G : ah_G}   : ∀ (x0 : Nat) (σ : ah_H) (r : Int32 × ah_H), f_X7_readCart_0   x0 σ = some r → AW G m_X7_readCart 2 0 0 0 [(0, .ref x0)] [] σ (ah_N G (ah_ri r)) := by
  intro x0 σ r h
  unfold f_X7_readCart_0 at h
  refine aw_aload_n (pc := 0) 0 dX7_readCart_0 rfl ?_
  refine aw_bipush (pc := 1) (v := (8 : Int32)) dX7_readCart_1 (by decide) ?_
  obtain ⟨r1, e, h⟩ := op_bd h
  refine ow_cVi (pc := 3) [.int (8 : Int32)] ((c_X7_tellOnce _ _ _ _ e).mono (by decide)) (op_ck_sh e) rfl dX7_readCart_3 cw_X7_125 rfl (Nat.le_of_ble_eq_true rfl) ?_
  refine aw_if_ne (pc := 6) 11 dX7_readCart_6 (by decide) (fun z => ?_) (fun z => ?_)
  · replace h := (if_neg z).symm.trans h
    refine aw_aload_n (pc := 11) 0 dX7_readCart_11 rfl ?_
    obtain ⟨v2, e, h⟩ := op_bd h
    refine ow_gR (pc := 12) e dX7_readCart_12 fd_X7_42 rfl ?_
    refine aw_aload_n (pc := 15) 0 dX7_readCart_15 rfl ?_
    refine aw_iconst (pc := 16) (v := (0 : Int32)) dX7_readCart_16 (by decide) ?_
    refine aw_bipush (pc := 17) (v := (99 : Int32)) dX7_readCart_17 (by decide) ?_
    obtain ⟨r3, e, h⟩ := op_bd h
    refine ow_cVi (pc := 19) [.int (0 : Int32), .int (99 : Int32)] ((c_X7_readNumber _ _ _ _ _ e).mono (by decide)) (op_ck_sh e) rfl dX7_readCart_19 cw_X7_135 rfl (Nat.le_of_ble_eq_true rfl) ?_
    obtain ⟨σ4, e, h⟩ := op_bd h
    refine ow_pI (pc := 22) e dX7_readCart_22 fd_X7_188 ?_
    refine aw_aload_n (pc := 25) 0 dX7_readCart_25 rfl ?_
    obtain ⟨v5, e, h⟩ := op_bd h
    refine ow_gR (pc := 26) e dX7_readCart_26 fd_X7_42 rfl ?_
    obtain ⟨v6, e, h⟩ := op_bd h
    refine ow_gI (pc := 29) e dX7_readCart_29 fd_X7_188 rfl ?_
    refine aw_iconst (pc := 32) (v := (-1 : Int32)) dX7_readCart_32 (by decide) ?_
    refine aw_icmp_eq (pc := 33) 40 dX7_readCart_33 (by decide) (fun z => ?_) (fun z => ?_)
    · replace h := (if_pos z).symm.trans h
      refine aw_iconst (pc := 40) (v := (0 : Int32)) dX7_readCart_40 (by decide) ?_
      exact ow_zret (pc := 41) h dX7_readCart_41 rfl
    · replace h := (if_neg z).symm.trans h
      refine aw_iconst (pc := 36) (v := (1 : Int32)) dX7_readCart_36 (by decide) ?_
      refine aw_goto (pc := 37) 41 dX7_readCart_37 (by decide) ?_
      exact ow_zret (pc := 41) h dX7_readCart_41 rfl
  · replace h := (if_pos z).symm.trans h
    refine aw_iconst (pc := 9) (v := (0 : Int32)) dX7_readCart_9 (by decide) ?_
    exact ow_zret (pc := 10) h dX7_readCart_10 rfl
theorem c_X7_readCart {G : ah_G}   (x0 : Nat) (σ : ah_H) (r : Int32 × ah_H) (h : f_X7_readCart  x0 σ = some r) : AM G m_X7_readCart 2 0 0 [.ref x0] σ (ah_ri r) := aw_enter (by decide) (Nat.le_of_ble_eq_true rfl) (c_X7_readCart_0 _ _ _ (op_ck_k h))
def f_X7_readInto_0   (x0 : Nat) (x1 : Nat) (x2 : Int32) (x3 : Int32) (x4 : Int32) (σ : ah_H) : Option (Int32 × ah_H) :=
  if x2 < 0 then ((op_rz (0 : Int32)).map fun q => (q, σ)) else ((op_len .int σ x1).bind fun n1 => if x2 < (Int32.ofNat n1) then ((f_X7_readNumber x0 x3 x4 σ).bind fun r2 => (op_sI r2.2 x1 x2 r2.1).bind fun σ3 => (op_aI σ3 x1 x2).bind fun v4 => if v4 = (-1 : Int32) then ((op_rz (0 : Int32)).map fun q => (q, σ3)) else ((op_rz (1 : Int32)).map fun q => (q, σ3))) else ((op_rz (0 : Int32)).map fun q => (q, σ)))
def f_X7_readInto  (x0 : Nat) (x1 : Nat) (x2 : Int32) (x3 : Int32) (x4 : Int32) (σ : ah_H) : Option (Int32 × ah_H) := op_ck 7 σ x0 (f_X7_readInto_0 x0 x1 x2 x3 x4 σ)
set_option maxRecDepth 100000 in
set_option maxHeartbeats 4000000 in
theorem c_X7_readInto_0 {G : ah_G}   : ∀ (x0 : Nat) (x1 : Nat) (x2 : Int32) (x3 : Int32) (x4 : Int32) (σ : ah_H) (r : Int32 × ah_H), f_X7_readInto_0   x0 x1 x2 x3 x4 σ = some r → AW G m_X7_readInto 2 0 0 0 [(0, .ref x0), (1, .ref x1), (2, .int x2), (3, .int x3), (4, .int x4)] [] σ (ah_N G (ah_ri r)) := by
  intro x0 x1 x2 x3 x4 σ r h
  unfold f_X7_readInto_0 at h
  refine aw_iload_n (pc := 0) 2 dX7_readInto_0 rfl ?_
  refine aw_if_lt (pc := 1) 10 dX7_readInto_1 (by decide) (fun z => ?_) (fun z => ?_)
  · replace h := (if_pos z).symm.trans h
    refine aw_iconst (pc := 10) (v := (0 : Int32)) dX7_readInto_10 (by decide) ?_
    exact ow_zret (pc := 11) h dX7_readInto_11 rfl
  · replace h := (if_neg z).symm.trans h
    refine aw_iload_n (pc := 4) 2 dX7_readInto_4 rfl ?_
    refine aw_aload_n (pc := 5) 1 dX7_readInto_5 rfl ?_
    obtain ⟨n1, e, h⟩ := op_bd h
    refine ow_alen (pc := 6) e dX7_readInto_6 (by decide) ?_
    refine aw_icmp_lt (pc := 7) 12 dX7_readInto_7 (by decide) (fun z => ?_) (fun z => ?_)
    · replace h := (if_pos z).symm.trans h
      refine aw_aload_n (pc := 12) 1 dX7_readInto_12 rfl ?_
      refine aw_iload_n (pc := 13) 2 dX7_readInto_13 rfl ?_
      refine aw_aload_n (pc := 14) 0 dX7_readInto_14 rfl ?_
      refine aw_iload_n (pc := 15) 3 dX7_readInto_15 rfl ?_
      refine aw_iload (pc := 16) 4 dX7_readInto_16 rfl ?_
      obtain ⟨r2, e, h⟩ := op_bd h
      refine ow_cVi (pc := 18) [.int x3, .int x4] ((c_X7_readNumber _ _ _ _ _ e).mono (by decide)) (op_ck_sh e) rfl dX7_readInto_18 cw_X7_135 rfl (Nat.le_of_ble_eq_true rfl) ?_
      obtain ⟨σ3, e, h⟩ := op_bd h
      refine ow_sI (pc := 21) e dX7_readInto_21 ?_
      refine aw_aload_n (pc := 22) 1 dX7_readInto_22 rfl ?_
      refine aw_iload_n (pc := 23) 2 dX7_readInto_23 rfl ?_
      obtain ⟨v4, e, h⟩ := op_bd h
      refine ow_aI (pc := 24) e dX7_readInto_24 ?_
      refine aw_iconst (pc := 25) (v := (-1 : Int32)) dX7_readInto_25 (by decide) ?_
      refine aw_icmp_eq (pc := 26) 33 dX7_readInto_26 (by decide) (fun z => ?_) (fun z => ?_)
      · replace h := (if_pos z).symm.trans h
        refine aw_iconst (pc := 33) (v := (0 : Int32)) dX7_readInto_33 (by decide) ?_
        exact ow_zret (pc := 34) h dX7_readInto_34 rfl
      · replace h := (if_neg z).symm.trans h
        refine aw_iconst (pc := 29) (v := (1 : Int32)) dX7_readInto_29 (by decide) ?_
        refine aw_goto (pc := 30) 34 dX7_readInto_30 (by decide) ?_
        exact ow_zret (pc := 34) h dX7_readInto_34 rfl
    · replace h := (if_neg z).symm.trans h
      refine aw_iconst (pc := 10) (v := (0 : Int32)) dX7_readInto_10 (by decide) ?_
      exact ow_zret (pc := 11) h dX7_readInto_11 rfl
theorem c_X7_readInto {G : ah_G}   (x0 : Nat) (x1 : Nat) (x2 : Int32) (x3 : Int32) (x4 : Int32) (σ : ah_H) (r : Int32 × ah_H) (h : f_X7_readInto  x0 x1 x2 x3 x4 σ = some r) : AM G m_X7_readInto 2 0 0 [.ref x0, .ref x1, .int x2, .int x3, .int x4] σ (ah_ri r) := aw_enter (by decide) (Nat.le_of_ble_eq_true rfl) (c_X7_readInto_0 _ _ _ _ _ _ _ (op_ck_k h))
def f_X9_find_36_b  (K36 : Nat → Int32 → Int32 → Int32 → ah_H → Option (Int32 × ah_H)) (x0 : Nat) (x1 : Int32) (x2 : Int32) (x3 : Int32) (σ : ah_H) : Option (Int32 × ah_H) :=
  if x1 = (1 : Int32) then ((op_gI 9 8 σ x0).bind fun v1 => if v1 ≤ x3 then (some ((-1 : Int32), σ)) else ((op_gR 9 9 σ x0).bind fun v2 => (op_aI σ v2 x3).bind fun v3 => if v3 = x2 then (some (x3, σ)) else (K36 x0 x1 x2 (x3 + (1 : Int32)) σ))) else (some ((-1 : Int32), σ))
def f_X9_find_36   : Nat → Nat → Int32 → Int32 → Int32 → ah_H → Option (Int32 × ah_H)
  | 0, _, _, _, _, _ => none
  | n + 1, x0, x1, x2, x3, σ => f_X9_find_36_b (f_X9_find_36 n) x0 x1 x2 x3 σ
def f_X9_find_34   (x0 : Nat) (x1 : Int32) (x2 : Int32) (σ : ah_H) : Option (Int32 × ah_H) :=
  f_X9_find_36 5000 x0 x1 x2 (0 : Int32) σ
def f_X9_find_2_b  (K2 : Nat → Int32 → Int32 → Int32 → ah_H → Option (Int32 × ah_H)) (x0 : Nat) (x1 : Int32) (x2 : Int32) (x3 : Int32) (σ : ah_H) : Option (Int32 × ah_H) :=
  if x1 = 0 then ((op_gI 9 0 σ x0).bind fun v1 => if v1 ≤ x3 then (f_X9_find_34 x0 x1 x2 σ) else ((op_gR 9 1 σ x0).bind fun v2 => (op_aR .int σ v2 x3).bind fun v3 => (op_aI σ v3 (3 : Int32)).bind fun v4 => if v4 = x2 then (some (x3, σ)) else (K2 x0 x1 x2 (x3 + (1 : Int32)) σ))) else (f_X9_find_34 x0 x1 x2 σ)
def f_X9_find_2   : Nat → Nat → Int32 → Int32 → Int32 → ah_H → Option (Int32 × ah_H)
  | 0, _, _, _, _, _ => none
  | n + 1, x0, x1, x2, x3, σ => f_X9_find_2_b (f_X9_find_2 n) x0 x1 x2 x3 σ
def f_X9_find_0   (x0 : Nat) (x1 : Int32) (x2 : Int32) (σ : ah_H) : Option (Int32 × ah_H) :=
  f_X9_find_2 5000 x0 x1 x2 (0 : Int32) σ
def f_X9_find  (x0 : Nat) (x1 : Int32) (x2 : Int32) (σ : ah_H) : Option (Int32 × ah_H) := op_ck 9 σ x0 (f_X9_find_0 x0 x1 x2 σ)
set_option maxRecDepth 100000 in
set_option maxHeartbeats 4000000 in
theorem c_X9_find_36_b {G : ah_G}  (K36 : Nat → Int32 → Int32 → Int32 → ah_H → Option (Int32 × ah_H)) (hK36 : ∀ (x0 : Nat) (x1 : Int32) (x2 : Int32) (x3 : Int32) (σ : ah_H) (r : Int32 × ah_H), K36 x0 x1 x2 x3 σ = some r → AW G m_X9_find 0 0 0 36 [(0, .ref x0), (1, .int x1), (2, .int x2), (3, .int x3)] [] σ (ah_N G (ah_ri r))) : ∀ (x0 : Nat) (x1 : Int32) (x2 : Int32) (x3 : Int32) (σ : ah_H) (r : Int32 × ah_H), f_X9_find_36_b  K36 x0 x1 x2 x3 σ = some r → AW G m_X9_find 0 0 0 36 [(0, .ref x0), (1, .int x1), (2, .int x2), (3, .int x3)] [] σ (ah_N G (ah_ri r)) := by
  intro x0 x1 x2 x3 σ r h
  unfold f_X9_find_36_b at h
  refine aw_iload_n (pc := 36) 1 dX9_find_36 rfl ?_
  refine aw_iconst (pc := 37) (v := (1 : Int32)) dX9_find_37 (by decide) ?_
  refine aw_icmp_ne (pc := 38) 67 dX9_find_38 (by decide) (fun z => ?_) (fun z => ?_)
  · replace h := (if_neg z).symm.trans h
    refine aw_iconst (pc := 67) (v := (-1 : Int32)) dX9_find_67 (by decide) ?_
    exact ow_iret (pc := 68) h dX9_find_68 rfl
  · replace h := (if_pos z).symm.trans h
    refine aw_iload_n (pc := 41) 3 dX9_find_41 rfl ?_
    refine aw_aload_n (pc := 42) 0 dX9_find_42 rfl ?_
    obtain ⟨v1, e, h⟩ := op_bd h
    refine ow_gI (pc := 43) e dX9_find_43 fd_X9_61 rfl ?_
    refine aw_icmp_ge (pc := 46) 67 dX9_find_46 (by decide) (fun z => ?_) (fun z => ?_)
    · replace h := (if_pos z).symm.trans h
      refine aw_iconst (pc := 67) (v := (-1 : Int32)) dX9_find_67 (by decide) ?_
      exact ow_iret (pc := 68) h dX9_find_68 rfl
    · replace h := (if_neg z).symm.trans h
      refine aw_aload_n (pc := 49) 0 dX9_find_49 rfl ?_
      obtain ⟨v2, e, h⟩ := op_bd h
      refine ow_gR (pc := 50) e dX9_find_50 fd_X9_22 rfl ?_
      refine aw_iload_n (pc := 53) 3 dX9_find_53 rfl ?_
      obtain ⟨v3, e, h⟩ := op_bd h
      refine ow_aI (pc := 54) e dX9_find_54 ?_
      refine aw_iload_n (pc := 55) 2 dX9_find_55 rfl ?_
      refine aw_icmp_ne (pc := 56) 61 dX9_find_56 (by decide) (fun z => ?_) (fun z => ?_)
      · replace h := (if_neg z).symm.trans h
        refine aw_iinc (pc := 61) 3 [(3, .int (x3 + (1 : Int32))), (0, .ref x0), (1, .int x1), (2, .int x2)] (x3 + (1 : Int32)) dX9_find_61 rfl rfl (by decide) rfl ?_
        refine aw_goto (pc := 64) 36 dX9_find_64 (by decide) ?_
        refine aw_sub [1, 2, 3, 0] rfl ?_
        exact hK36 _ _ _ _ _ _ h
      · replace h := (if_pos z).symm.trans h
        refine aw_iload_n (pc := 59) 3 dX9_find_59 rfl ?_
        exact ow_iret (pc := 60) h dX9_find_60 rfl
theorem c_X9_find_36 {G : ah_G}   : ∀ (n : Nat) (x0 : Nat) (x1 : Int32) (x2 : Int32) (x3 : Int32) (σ : ah_H) (r : Int32 × ah_H), f_X9_find_36   n x0 x1 x2 x3 σ = some r → AW G m_X9_find 0 0 0 36 [(0, .ref x0), (1, .int x1), (2, .int x2), (3, .int x3)] [] σ (ah_N G (ah_ri r)) := by
  intro n
  induction n with
  | zero => intro x0 x1 x2 x3 σ r h; cases h
  | succ n ih => intro x0 x1 x2 x3 σ r h; exact c_X9_find_36_b   _ ih x0 x1 x2 x3 σ r h
set_option maxRecDepth 100000 in
set_option maxHeartbeats 4000000 in
theorem c_X9_find_34 {G : ah_G}   : ∀ (x0 : Nat) (x1 : Int32) (x2 : Int32) (σ : ah_H) (r : Int32 × ah_H), f_X9_find_34   x0 x1 x2 σ = some r → AW G m_X9_find 0 0 0 34 [(0, .ref x0), (1, .int x1), (2, .int x2)] [] σ (ah_N G (ah_ri r)) := by
  intro x0 x1 x2 σ r h
  unfold f_X9_find_34 at h
  refine aw_iconst (pc := 34) (v := (0 : Int32)) dX9_find_34 (by decide) ?_
  refine aw_istore_n (pc := 35) [(3, .int (0 : Int32)), (0, .ref x0), (1, .int x1), (2, .int x2)] dX9_find_35 rfl (by decide) rfl ?_
  refine aw_sub [1, 2, 3, 0] rfl ?_
  exact c_X9_find_36  _ _ _ _ _ _ _ h
set_option maxRecDepth 100000 in
set_option maxHeartbeats 4000000 in
theorem c_X9_find_2_b {G : ah_G}  (K2 : Nat → Int32 → Int32 → Int32 → ah_H → Option (Int32 × ah_H)) (hK2 : ∀ (x0 : Nat) (x1 : Int32) (x2 : Int32) (x3 : Int32) (σ : ah_H) (r : Int32 × ah_H), K2 x0 x1 x2 x3 σ = some r → AW G m_X9_find 0 0 0 2 [(0, .ref x0), (1, .int x1), (2, .int x2), (3, .int x3)] [] σ (ah_N G (ah_ri r))) : ∀ (x0 : Nat) (x1 : Int32) (x2 : Int32) (x3 : Int32) (σ : ah_H) (r : Int32 × ah_H), f_X9_find_2_b  K2 x0 x1 x2 x3 σ = some r → AW G m_X9_find 0 0 0 2 [(0, .ref x0), (1, .int x1), (2, .int x2), (3, .int x3)] [] σ (ah_N G (ah_ri r)) := by
  intro x0 x1 x2 x3 σ r h
  unfold f_X9_find_2_b at h
  refine aw_iload_n (pc := 2) 1 dX9_find_2 rfl ?_
  refine aw_if_ne (pc := 3) 34 dX9_find_3 (by decide) (fun z => ?_) (fun z => ?_)
  · replace h := (if_neg z).symm.trans h
    refine aw_sub [0, 1, 2] rfl ?_
    exact c_X9_find_34  _ _ _ _ _ h
  · replace h := (if_pos z).symm.trans h
    refine aw_iload_n (pc := 6) 3 dX9_find_6 rfl ?_
    refine aw_aload_n (pc := 7) 0 dX9_find_7 rfl ?_
    obtain ⟨v1, e, h⟩ := op_bd h
    refine ow_gI (pc := 8) e dX9_find_8 fd_X9_45 rfl ?_
    refine aw_icmp_ge (pc := 11) 34 dX9_find_11 (by decide) (fun z => ?_) (fun z => ?_)
    · replace h := (if_pos z).symm.trans h
      refine aw_sub [0, 1, 2] rfl ?_
      exact c_X9_find_34  _ _ _ _ _ h
    · replace h := (if_neg z).symm.trans h
      refine aw_aload_n (pc := 14) 0 dX9_find_14 rfl ?_
      obtain ⟨v2, e, h⟩ := op_bd h
      refine ow_gR (pc := 15) e dX9_find_15 fd_X9_11 rfl ?_
      refine aw_iload_n (pc := 18) 3 dX9_find_18 rfl ?_
      obtain ⟨v3, e, h⟩ := op_bd h
      refine ow_aR (pc := 19) e dX9_find_19 (by decide) ?_
      refine aw_iconst (pc := 20) (v := (3 : Int32)) dX9_find_20 (by decide) ?_
      obtain ⟨v4, e, h⟩ := op_bd h
      refine ow_aI (pc := 21) e dX9_find_21 ?_
      refine aw_iload_n (pc := 22) 2 dX9_find_22 rfl ?_
      refine aw_icmp_ne (pc := 23) 28 dX9_find_23 (by decide) (fun z => ?_) (fun z => ?_)
      · replace h := (if_neg z).symm.trans h
        refine aw_iinc (pc := 28) 3 [(3, .int (x3 + (1 : Int32))), (0, .ref x0), (1, .int x1), (2, .int x2)] (x3 + (1 : Int32)) dX9_find_28 rfl rfl (by decide) rfl ?_
        refine aw_goto (pc := 31) 2 dX9_find_31 (by decide) ?_
        refine aw_sub [1, 2, 3, 0] rfl ?_
        exact hK2 _ _ _ _ _ _ h
      · replace h := (if_pos z).symm.trans h
        refine aw_iload_n (pc := 26) 3 dX9_find_26 rfl ?_
        exact ow_iret (pc := 27) h dX9_find_27 rfl
theorem c_X9_find_2 {G : ah_G}   : ∀ (n : Nat) (x0 : Nat) (x1 : Int32) (x2 : Int32) (x3 : Int32) (σ : ah_H) (r : Int32 × ah_H), f_X9_find_2   n x0 x1 x2 x3 σ = some r → AW G m_X9_find 0 0 0 2 [(0, .ref x0), (1, .int x1), (2, .int x2), (3, .int x3)] [] σ (ah_N G (ah_ri r)) := by
  intro n
  induction n with
  | zero => intro x0 x1 x2 x3 σ r h; cases h
  | succ n ih => intro x0 x1 x2 x3 σ r h; exact c_X9_find_2_b   _ ih x0 x1 x2 x3 σ r h
set_option maxRecDepth 100000 in
set_option maxHeartbeats 4000000 in
theorem c_X9_find_0 {G : ah_G}   : ∀ (x0 : Nat) (x1 : Int32) (x2 : Int32) (σ : ah_H) (r : Int32 × ah_H), f_X9_find_0   x0 x1 x2 σ = some r → AW G m_X9_find 0 0 0 0 [(0, .ref x0), (1, .int x1), (2, .int x2)] [] σ (ah_N G (ah_ri r)) := by
  intro x0 x1 x2 σ r h
  unfold f_X9_find_0 at h
  refine aw_iconst (pc := 0) (v := (0 : Int32)) dX9_find_0 (by decide) ?_
  refine aw_istore_n (pc := 1) [(3, .int (0 : Int32)), (0, .ref x0), (1, .int x1), (2, .int x2)] dX9_find_1 rfl (by decide) rfl ?_
  refine aw_sub [1, 2, 3, 0] rfl ?_
  exact c_X9_find_2  _ _ _ _ _ _ _ h
theorem c_X9_find {G : ah_G}   (x0 : Nat) (x1 : Int32) (x2 : Int32) (σ : ah_H) (r : Int32 × ah_H) (h : f_X9_find  x0 x1 x2 σ = some r) : AM G m_X9_find 0 0 0 [.ref x0, .int x1, .int x2] σ (ah_ri r) := aw_enter (by decide) (Nat.le_of_ble_eq_true rfl) (c_X9_find_0 _ _ _ _ _ (op_ck_k h))
def f_X7_readNewName_0   (x0 : Nat) (x1 : Int32) (σ : ah_H) : Option (Int32 × ah_H) :=
  (op_gR 7 0 σ x0).bind fun v1 => (op_gI 8 8 σ v1).bind fun v2 => if v2 = (1 : Int32) then ((op_gR 7 0 σ x0).bind fun v3 => (op_gI 8 9 σ v3).bind fun v4 => (op_gR 7 2 σ x0).bind fun v5 => (f_X9_find v5 x1 v4 σ).bind fun r6 => if r6.1 = (-1 : Int32) then ((op_gR 7 0 r6.2 x0).bind fun v7 => (f_X8_step v7 r6.2).bind fun r8 => some (v4, r8)) else ((f_X7_fail x0 (3 : Int32) r6.2).bind fun r9 => some ((-1 : Int32), r9.2))) else ((f_X7_fail x0 (1 : Int32) σ).bind fun r10 => some ((-1 : Int32), r10.2))
def f_X7_readNewName  (x0 : Nat) (x1 : Int32) (σ : ah_H) : Option (Int32 × ah_H) := op_ck 7 σ x0 (f_X7_readNewName_0 x0 x1 σ)
set_option maxRecDepth 100000 in
set_option maxHeartbeats 4000000 in
theorem c_X7_readNewName_0 {G : ah_G}   : ∀ (x0 : Nat) (x1 : Int32) (σ : ah_H) (r : Int32 × ah_H), f_X7_readNewName_0   x0 x1 σ = some r → AW G m_X7_readNewName 1 0 0 0 [(0, .ref x0), (1, .int x1)] [] σ (ah_N G (ah_ri r)) := by
  intro x0 x1 σ r h
  unfold f_X7_readNewName_0 at h
  refine aw_aload_n (pc := 0) 0 dX7_readNewName_0 rfl ?_
  obtain ⟨v1, e, h⟩ := op_bd h
  refine ow_gR (pc := 1) e dX7_readNewName_1 fd_X7_23 rfl ?_
  obtain ⟨v2, e, h⟩ := op_bd h
  refine ow_gI (pc := 4) e dX7_readNewName_4 fd_X7_53 rfl ?_
  refine aw_iconst (pc := 7) (v := (1 : Int32)) dX7_readNewName_7 (by decide) ?_
  refine aw_icmp_eq (pc := 8) 19 dX7_readNewName_8 (by decide) (fun z => ?_) (fun z => ?_)
  · replace h := (if_pos z).symm.trans h
    refine aw_aload_n (pc := 19) 0 dX7_readNewName_19 rfl ?_
    obtain ⟨v3, e, h⟩ := op_bd h
    refine ow_gR (pc := 20) e dX7_readNewName_20 fd_X7_23 rfl ?_
    obtain ⟨v4, e, h⟩ := op_bd h
    refine ow_gI (pc := 23) e dX7_readNewName_23 fd_X7_71 rfl ?_
    refine aw_istore_n (pc := 26) [(2, .int v4), (0, .ref x0), (1, .int x1)] dX7_readNewName_26 rfl (by decide) rfl ?_
    refine aw_aload_n (pc := 27) 1 dX7_readNewName_27 rfl ?_
    obtain ⟨v5, e, h⟩ := op_bd h
    refine ow_gR (pc := 28) e dX7_readNewName_28 fd_X7_42 rfl ?_
    refine aw_iload_n (pc := 31) 2 dX7_readNewName_31 rfl ?_
    refine aw_iload_n (pc := 32) 0 dX7_readNewName_32 rfl ?_
    obtain ⟨r6, e, h⟩ := op_bd h
    refine ow_cVi (pc := 33) [.int x1, .int v4] ((c_X9_find _ _ _ _ _ e).mono (by decide)) (op_ck_sh e) rfl dX7_readNewName_33 cw_X7_194 rfl (Nat.le_of_ble_eq_true rfl) ?_
    refine aw_iconst (pc := 36) (v := (-1 : Int32)) dX7_readNewName_36 (by decide) ?_
    refine aw_icmp_eq (pc := 37) 48 dX7_readNewName_37 (by decide) (fun z => ?_) (fun z => ?_)
    · replace h := (if_pos z).symm.trans h
      refine aw_aload_n (pc := 48) 1 dX7_readNewName_48 rfl ?_
      obtain ⟨v7, e, h⟩ := op_bd h
      refine ow_gR (pc := 49) e dX7_readNewName_49 fd_X7_23 rfl ?_
      obtain ⟨r8, e, h⟩ := op_bd h
      refine ow_cVv (pc := 52) [] ((c_X8_step _ _ _ e).mono (by decide)) (op_ck_sh e) rfl dX7_readNewName_52 cw_X7_67 rfl (Nat.le_of_ble_eq_true rfl) ?_
      refine aw_iload_n (pc := 55) 0 dX7_readNewName_55 rfl ?_
      exact ow_iret (pc := 56) h dX7_readNewName_56 rfl
    · replace h := (if_neg z).symm.trans h
      refine aw_aload_n (pc := 40) 1 dX7_readNewName_40 rfl ?_
      refine aw_iconst (pc := 41) (v := (3 : Int32)) dX7_readNewName_41 (by decide) ?_
      obtain ⟨r9, e, h⟩ := op_bd h
      refine ow_cVi (pc := 42) [.int (3 : Int32)] ((c_X7_fail _ _ _ _ e).mono (by decide)) (op_ck_sh e) rfl dX7_readNewName_42 cw_X7_64 rfl (Nat.le_of_ble_eq_true rfl) ?_
      refine aw_pop (pc := 45) dX7_readNewName_45 rfl ?_
      refine aw_iconst (pc := 46) (v := (-1 : Int32)) dX7_readNewName_46 (by decide) ?_
      exact ow_iret (pc := 47) h dX7_readNewName_47 rfl
  · replace h := (if_neg z).symm.trans h
    refine aw_aload_n (pc := 11) 0 dX7_readNewName_11 rfl ?_
    refine aw_iconst (pc := 12) (v := (1 : Int32)) dX7_readNewName_12 (by decide) ?_
    obtain ⟨r10, e, h⟩ := op_bd h
    refine ow_cVi (pc := 13) [.int (1 : Int32)] ((c_X7_fail _ _ _ _ e).mono (by decide)) (op_ck_sh e) rfl dX7_readNewName_13 cw_X7_64 rfl (Nat.le_of_ble_eq_true rfl) ?_
    refine aw_pop (pc := 16) dX7_readNewName_16 rfl ?_
    refine aw_iconst (pc := 17) (v := (-1 : Int32)) dX7_readNewName_17 (by decide) ?_
    exact ow_iret (pc := 18) h dX7_readNewName_18 rfl
theorem c_X7_readNewName {G : ah_G}   (x0 : Nat) (x1 : Int32) (σ : ah_H) (r : Int32 × ah_H) (h : f_X7_readNewName  x0 x1 σ = some r) : AM G m_X7_readNewName 1 0 0 [.ref x0, .int x1] σ (ah_ri r) := aw_enter (by decide) (Nat.le_of_ble_eq_true rfl) (c_X7_readNewName_0 _ _ _ _ (op_ck_k h))
def f_X8_isKey_0   (x0 : Nat) (x1 : Int32) (σ : ah_H) : Option (Int32 × ah_H) :=
  (op_gI 8 8 σ x0).bind fun v1 => if v1 = (2 : Int32) then ((op_gI 8 9 σ x0).bind fun v2 => if v2 = x1 then ((op_rz (1 : Int32)).map fun q => (q, σ)) else ((op_rz (0 : Int32)).map fun q => (q, σ))) else ((op_rz (0 : Int32)).map fun q => (q, σ))
def f_X8_isKey  (x0 : Nat) (x1 : Int32) (σ : ah_H) : Option (Int32 × ah_H) := op_ck 8 σ x0 (f_X8_isKey_0 x0 x1 σ)
set_option maxRecDepth 100000 in
set_option maxHeartbeats 4000000 in
theorem c_X8_isKey_0 {G : ah_G}   : ∀ (x0 : Nat) (x1 : Int32) (σ : ah_H) (r : Int32 × ah_H), f_X8_isKey_0   x0 x1 σ = some r → AW G m_X8_isKey 0 0 0 0 [(0, .ref x0), (1, .int x1)] [] σ (ah_N G (ah_ri r)) := by
  intro x0 x1 σ r h
  unfold f_X8_isKey_0 at h
  refine aw_aload_n (pc := 0) 0 dX8_isKey_0 rfl ?_
  obtain ⟨v1, e, h⟩ := op_bd h
  refine ow_gI (pc := 1) e dX8_isKey_1 fd_X8_62 rfl ?_
  refine aw_iconst (pc := 4) (v := (2 : Int32)) dX8_isKey_4 (by decide) ?_
  refine aw_icmp_ne (pc := 5) 20 dX8_isKey_5 (by decide) (fun z => ?_) (fun z => ?_)
  · replace h := (if_neg z).symm.trans h
    refine aw_iconst (pc := 20) (v := (0 : Int32)) dX8_isKey_20 (by decide) ?_
    exact ow_zret (pc := 21) h dX8_isKey_21 rfl
  · replace h := (if_pos z).symm.trans h
    refine aw_aload_n (pc := 8) 0 dX8_isKey_8 rfl ?_
    obtain ⟨v2, e, h⟩ := op_bd h
    refine ow_gI (pc := 9) e dX8_isKey_9 fd_X8_68 rfl ?_
    refine aw_iload_n (pc := 12) 1 dX8_isKey_12 rfl ?_
    refine aw_icmp_ne (pc := 13) 20 dX8_isKey_13 (by decide) (fun z => ?_) (fun z => ?_)
    · replace h := (if_neg z).symm.trans h
      refine aw_iconst (pc := 20) (v := (0 : Int32)) dX8_isKey_20 (by decide) ?_
      exact ow_zret (pc := 21) h dX8_isKey_21 rfl
    · replace h := (if_pos z).symm.trans h
      refine aw_iconst (pc := 16) (v := (1 : Int32)) dX8_isKey_16 (by decide) ?_
      refine aw_goto (pc := 17) 21 dX8_isKey_17 (by decide) ?_
      exact ow_zret (pc := 21) h dX8_isKey_21 rfl
theorem c_X8_isKey {G : ah_G}   (x0 : Nat) (x1 : Int32) (σ : ah_H) (r : Int32 × ah_H) (h : f_X8_isKey  x0 x1 σ = some r) : AM G m_X8_isKey 0 0 0 [.ref x0, .int x1] σ (ah_ri r) := aw_enter (by decide) (Nat.le_of_ble_eq_true rfl) (c_X8_isKey_0 _ _ _ _ (op_ck_k h))
def f_X7_readOption_0   (x0 : Nat) (x1 : Int32) (x2 : Nat) (x3 : Int32) (x4 : Int32) (x5 : Int32) (σ : ah_H) : Option (Int32 × ah_H) :=
  if x3 < 0 then ((op_rz (0 : Int32)).map fun q => (q, σ)) else ((op_len .int σ x2).bind fun n1 => if x3 < (Int32.ofNat n1) then ((op_gR 7 0 σ x0).bind fun v2 => (f_X8_isKey v2 x1 σ).bind fun r3 => if r3.1 = 0 then ((op_sI r3.2 x2 x3 x5).bind fun σ7 => (op_rz (1 : Int32)).map fun q => (q, σ7)) else ((op_gR 7 0 r3.2 x0).bind fun v4 => (f_X8_step v4 r3.2).bind fun r5 => (f_X7_readInto x0 x2 x3 (0 : Int32) x4 r5).bind fun r6 => (op_rz r6.1).map fun q => (q, r6.2))) else ((op_rz (0 : Int32)).map fun q => (q, σ)))
def f_X7_readOption  (x0 : Nat) (x1 : Int32) (x2 : Nat) (x3 : Int32) (x4 : Int32) (x5 : Int32) (σ : ah_H) : Option (Int32 × ah_H) := op_ck 7 σ x0 (f_X7_readOption_0 x0 x1 x2 x3 x4 x5 σ)
set_option maxRecDepth 100000 in
set_option maxHeartbeats 4000000 in
theorem c_X7_readOption_0 {G : ah_G}   : ∀ (x0 : Nat) (x1 : Int32) (x2 : Nat) (x3 : Int32) (x4 : Int32) (x5 : Int32) (σ : ah_H) (r : Int32 × ah_H), f_X7_readOption_0   x0 x1 x2 x3 x4 x5 σ = some r → AW G m_X7_readOption 3 0 0 0 [(0, .ref x0), (1, .int x1), (2, .ref x2), (3, .int x3), (4, .int x4), (5, .int x5)] [] σ (ah_N G (ah_ri r)) := by
  intro x0 x1 x2 x3 x4 x5 σ r h
  unfold f_X7_readOption_0 at h
  refine aw_iload_n (pc := 0) 3 dX7_readOption_0 rfl ?_
  refine aw_if_lt (pc := 1) 10 dX7_readOption_1 (by decide) (fun z => ?_) (fun z => ?_)
  · replace h := (if_pos z).symm.trans h
    refine aw_iconst (pc := 10) (v := (0 : Int32)) dX7_readOption_10 (by decide) ?_
    exact ow_zret (pc := 11) h dX7_readOption_11 rfl
  · replace h := (if_neg z).symm.trans h
    refine aw_iload_n (pc := 4) 3 dX7_readOption_4 rfl ?_
    refine aw_aload_n (pc := 5) 2 dX7_readOption_5 rfl ?_
    obtain ⟨n1, e, h⟩ := op_bd h
    refine ow_alen (pc := 6) e dX7_readOption_6 (by decide) ?_
    refine aw_icmp_lt (pc := 7) 12 dX7_readOption_7 (by decide) (fun z => ?_) (fun z => ?_)
    · replace h := (if_pos z).symm.trans h
      refine aw_aload_n (pc := 12) 0 dX7_readOption_12 rfl ?_
      obtain ⟨v2, e, h⟩ := op_bd h
      refine ow_gR (pc := 13) e dX7_readOption_13 fd_X7_23 rfl ?_
      refine aw_iload_n (pc := 16) 1 dX7_readOption_16 rfl ?_
      obtain ⟨r3, e, h⟩ := op_bd h
      refine ow_cVi (pc := 17) [.int x1] ((c_X8_isKey _ _ _ _ e).mono (by decide)) (op_ck_sh e) rfl dX7_readOption_17 cw_X7_197 rfl (Nat.le_of_ble_eq_true rfl) ?_
      refine aw_if_ne (pc := 20) 30 dX7_readOption_20 (by decide) (fun z => ?_) (fun z => ?_)
      · replace h := (if_neg z).symm.trans h
        refine aw_aload_n (pc := 30) 0 dX7_readOption_30 rfl ?_
        obtain ⟨v4, e, h⟩ := op_bd h
        refine ow_gR (pc := 31) e dX7_readOption_31 fd_X7_23 rfl ?_
        obtain ⟨r5, e, h⟩ := op_bd h
        refine ow_cVv (pc := 34) [] ((c_X8_step _ _ _ e).mono (by decide)) (op_ck_sh e) rfl dX7_readOption_34 cw_X7_67 rfl (Nat.le_of_ble_eq_true rfl) ?_
        refine aw_aload_n (pc := 37) 0 dX7_readOption_37 rfl ?_
        refine aw_aload_n (pc := 38) 2 dX7_readOption_38 rfl ?_
        refine aw_iload_n (pc := 39) 3 dX7_readOption_39 rfl ?_
        refine aw_iconst (pc := 40) (v := (0 : Int32)) dX7_readOption_40 (by decide) ?_
        refine aw_iload (pc := 41) 4 dX7_readOption_41 rfl ?_
        obtain ⟨r6, e, h⟩ := op_bd h
        refine ow_cVi (pc := 43) [.ref x2, .int x3, .int (0 : Int32), .int x4] ((c_X7_readInto _ _ _ _ _ _ _ e).mono (by decide)) (op_ck_sh e) rfl dX7_readOption_43 cw_X7_117 rfl (Nat.le_of_ble_eq_true rfl) ?_
        exact ow_zret (pc := 46) h dX7_readOption_46 rfl
      · replace h := (if_pos z).symm.trans h
        refine aw_aload_n (pc := 23) 2 dX7_readOption_23 rfl ?_
        refine aw_iload_n (pc := 24) 3 dX7_readOption_24 rfl ?_
        refine aw_iload (pc := 25) 5 dX7_readOption_25 rfl ?_
        obtain ⟨σ7, e, h⟩ := op_bd h
        refine ow_sI (pc := 27) e dX7_readOption_27 ?_
        refine aw_iconst (pc := 28) (v := (1 : Int32)) dX7_readOption_28 (by decide) ?_
        exact ow_zret (pc := 29) h dX7_readOption_29 rfl
    · replace h := (if_neg z).symm.trans h
      refine aw_iconst (pc := 10) (v := (0 : Int32)) dX7_readOption_10 (by decide) ?_
      exact ow_zret (pc := 11) h dX7_readOption_11 rfl
theorem c_X7_readOption {G : ah_G}   (x0 : Nat) (x1 : Int32) (x2 : Nat) (x3 : Int32) (x4 : Int32) (x5 : Int32) (σ : ah_H) (r : Int32 × ah_H) (h : f_X7_readOption  x0 x1 x2 x3 x4 x5 σ = some r) : AM G m_X7_readOption 3 0 0 [.ref x0, .int x1, .ref x2, .int x3, .int x4, .int x5] σ (ah_ri r) := aw_enter (by decide) (Nat.le_of_ble_eq_true rfl) (c_X7_readOption_0 _ _ _ _ _ _ _ _ (op_ck_k h))
def f_X7_readCorner_101   (x0 : Nat) (s0 : Int32) (σ : ah_H) : Option (Int32 × ah_H) :=
  if s0 = 0 then ((op_rz s0).map fun q => (q, σ)) else ((op_gR 7 2 σ x0).bind fun v1 => (op_gI 9 0 σ v1).bind fun v2 => (op_pI 9 0 σ v1 (v2 + (1 : Int32))).bind fun σ3 => (op_rz s0).map fun q => (q, σ3))
def f_X7_readCorner_100   (x0 : Nat) (σ : ah_H) : Option (Int32 × ah_H) :=
  f_X7_readCorner_101 x0 (0 : Int32) σ
def f_X7_readCorner_0   (x0 : Nat) (σ : ah_H) : Option (Int32 × ah_H) :=
  (op_gR 7 2 σ x0).bind fun v1 => (op_gI 9 0 σ v1).bind fun v2 => if v2 < (7 : Int32) then ((op_gR 7 0 σ x0).bind fun v3 => (f_X8_step v3 σ).bind fun r4 => (op_gR 7 2 r4 x0).bind fun v5 => (op_gR 9 1 r4 v5).bind fun v6 => (op_gR 7 2 r4 x0).bind fun v7 => (op_gI 9 0 r4 v7).bind fun v8 => (op_aR .int r4 v6 v8).bind fun v9 => (f_X7_readNewName x0 (0 : Int32) r4).bind fun r10 => (op_sI r10.2 v9 (3 : Int32) r10.1).bind fun σ11 => (op_aI σ11 v9 (3 : Int32)).bind fun v12 => if v12 = (-1 : Int32) then (f_X7_readCorner_100 x0 σ11) else ((f_X7_readInto x0 v9 (0 : Int32) (0 : Int32) (999 : Int32) σ11).bind fun r13 => if r13.1 = 0 then (f_X7_readCorner_100 x0 r13.2) else ((f_X7_readInto x0 v9 (1 : Int32) (0 : Int32) (99 : Int32) r13.2).bind fun r14 => if r14.1 = 0 then (f_X7_readCorner_100 x0 r14.2) else ((f_X7_readOption x0 (9 : Int32) v9 (2 : Int32) (20 : Int32) (20 : Int32) r14.2).bind fun r15 => if r15.1 = 0 then (f_X7_readCorner_100 x0 r15.2) else (f_X7_readCorner_101 x0 (1 : Int32) r15.2))))) else ((f_X7_fail x0 (2 : Int32) σ).bind fun r16 => (op_rz r16.1).map fun q => (q, r16.2))
def f_X7_readCorner  (x0 : Nat) (σ : ah_H) : Option (Int32 × ah_H) := op_ck 7 σ x0 (f_X7_readCorner_0 x0 σ)
set_option maxRecDepth 100000 in
set_option maxHeartbeats 4000000 in
theorem c_X7_readCorner_101 {G : ah_G}   : ∀ (x0 : Nat) (s0 : Int32) (σ : ah_H) (r : Int32 × ah_H), f_X7_readCorner_101   x0 s0 σ = some r → AW G m_X7_readCorner 4 0 0 101 [(0, .ref x0)] [.int s0] σ (ah_N G (ah_ri r)) := by
  intro x0 s0 σ r h
  unfold f_X7_readCorner_101 at h
  refine aw_istore_n (pc := 101) [(2, .int s0), (0, .ref x0)] dX7_readCorner_101 rfl (by decide) rfl ?_
  refine aw_iload_n (pc := 102) 0 dX7_readCorner_102 rfl ?_
  refine aw_if_eq (pc := 103) 119 dX7_readCorner_103 (by decide) (fun z => ?_) (fun z => ?_)
  · replace h := (if_pos z).symm.trans h
    refine aw_iload_n (pc := 119) 0 dX7_readCorner_119 rfl ?_
    exact ow_zret (pc := 120) h dX7_readCorner_120 rfl
  · replace h := (if_neg z).symm.trans h
    refine aw_aload_n (pc := 106) 1 dX7_readCorner_106 rfl ?_
    obtain ⟨v1, e, h⟩ := op_bd h
    refine ow_gR (pc := 107) e dX7_readCorner_107 fd_X7_42 rfl ?_
    refine aw_dup (pc := 110) dX7_readCorner_110 rfl ?_
    obtain ⟨v2, e, h⟩ := op_bd h
    refine ow_gI (pc := 111) e dX7_readCorner_111 fd_X7_106 rfl ?_
    refine aw_iconst (pc := 114) (v := (1 : Int32)) dX7_readCorner_114 (by decide) ?_
    refine aw_iadd (pc := 115) dX7_readCorner_115 ?_
    obtain ⟨σ3, e, h⟩ := op_bd h
    refine ow_pI (pc := 116) e dX7_readCorner_116 fd_X7_106 ?_
    refine aw_iload_n (pc := 119) 0 dX7_readCorner_119 rfl ?_
    exact ow_zret (pc := 120) h dX7_readCorner_120 rfl
set_option maxRecDepth 100000 in
set_option maxHeartbeats 4000000 in
theorem c_X7_readCorner_100 {G : ah_G}   : ∀ (x0 : Nat) (σ : ah_H) (r : Int32 × ah_H), f_X7_readCorner_100   x0 σ = some r → AW G m_X7_readCorner 4 0 0 100 [(0, .ref x0)] [] σ (ah_N G (ah_ri r)) := by
  intro x0 σ r h
  unfold f_X7_readCorner_100 at h
  refine aw_iconst (pc := 100) (v := (0 : Int32)) dX7_readCorner_100 (by decide) ?_
  exact c_X7_readCorner_101  _ _ _ _ h
set_option maxRecDepth 100000 in
set_option maxHeartbeats 4000000 in
theorem c_X7_readCorner_0 {G : ah_G}   : ∀ (x0 : Nat) (σ : ah_H) (r : Int32 × ah_H), f_X7_readCorner_0   x0 σ = some r → AW G m_X7_readCorner 4 0 0 0 [(0, .ref x0)] [] σ (ah_N G (ah_ri r)) := by
  intro x0 σ r h
  unfold f_X7_readCorner_0 at h
  refine aw_aload_n (pc := 0) 0 dX7_readCorner_0 rfl ?_
  obtain ⟨v1, e, h⟩ := op_bd h
  refine ow_gR (pc := 1) e dX7_readCorner_1 fd_X7_42 rfl ?_
  obtain ⟨v2, e, h⟩ := op_bd h
  refine ow_gI (pc := 4) e dX7_readCorner_4 fd_X7_106 rfl ?_
  refine aw_bipush (pc := 7) (v := (7 : Int32)) dX7_readCorner_7 (by decide) ?_
  refine aw_icmp_lt (pc := 9) 18 dX7_readCorner_9 (by decide) (fun z => ?_) (fun z => ?_)
  · replace h := (if_pos z).symm.trans h
    refine aw_aload_n (pc := 18) 0 dX7_readCorner_18 rfl ?_
    obtain ⟨v3, e, h⟩ := op_bd h
    refine ow_gR (pc := 19) e dX7_readCorner_19 fd_X7_23 rfl ?_
    obtain ⟨r4, e, h⟩ := op_bd h
    refine ow_cVv (pc := 22) [] ((c_X8_step _ _ _ e).mono (by decide)) (op_ck_sh e) rfl dX7_readCorner_22 cw_X7_67 rfl (Nat.le_of_ble_eq_true rfl) ?_
    refine aw_aload_n (pc := 25) 0 dX7_readCorner_25 rfl ?_
    obtain ⟨v5, e, h⟩ := op_bd h
    refine ow_gR (pc := 26) e dX7_readCorner_26 fd_X7_42 rfl ?_
    obtain ⟨v6, e, h⟩ := op_bd h
    refine ow_gR (pc := 29) e dX7_readCorner_29 fd_X7_109 rfl ?_
    refine aw_aload_n (pc := 32) 0 dX7_readCorner_32 rfl ?_
    obtain ⟨v7, e, h⟩ := op_bd h
    refine ow_gR (pc := 33) e dX7_readCorner_33 fd_X7_42 rfl ?_
    obtain ⟨v8, e, h⟩ := op_bd h
    refine ow_gI (pc := 36) e dX7_readCorner_36 fd_X7_106 rfl ?_
    obtain ⟨v9, e, h⟩ := op_bd h
    refine ow_aR (pc := 39) e dX7_readCorner_39 (by decide) ?_
    refine aw_astore_n (pc := 40) [(1, .ref v9), (0, .ref x0)] dX7_readCorner_40 rfl (by decide) rfl ?_
    refine aw_aload_n (pc := 41) 0 dX7_readCorner_41 rfl ?_
    refine aw_iconst (pc := 42) (v := (3 : Int32)) dX7_readCorner_42 (by decide) ?_
    refine aw_aload_n (pc := 43) 1 dX7_readCorner_43 rfl ?_
    refine aw_iconst (pc := 44) (v := (0 : Int32)) dX7_readCorner_44 (by decide) ?_
    obtain ⟨r10, e, h⟩ := op_bd h
    refine ow_cVi (pc := 45) [.int (0 : Int32)] ((c_X7_readNewName _ _ _ _ e).mono (by decide)) (op_ck_sh e) rfl dX7_readCorner_45 cw_X7_113 rfl (Nat.le_of_ble_eq_true rfl) ?_
    obtain ⟨σ11, e, h⟩ := op_bd h
    refine ow_sI (pc := 48) e dX7_readCorner_48 ?_
    refine aw_aload_n (pc := 49) 0 dX7_readCorner_49 rfl ?_
    refine aw_iconst (pc := 50) (v := (3 : Int32)) dX7_readCorner_50 (by decide) ?_
    obtain ⟨v12, e, h⟩ := op_bd h
    refine ow_aI (pc := 51) e dX7_readCorner_51 ?_
    refine aw_iconst (pc := 52) (v := (-1 : Int32)) dX7_readCorner_52 (by decide) ?_
    refine aw_icmp_eq (pc := 53) 100 dX7_readCorner_53 (by decide) (fun z => ?_) (fun z => ?_)
    · replace h := (if_pos z).symm.trans h
      refine aw_sub [1] rfl ?_
      exact c_X7_readCorner_100  _ _ _ h
    · replace h := (if_neg z).symm.trans h
      refine aw_aload_n (pc := 56) 1 dX7_readCorner_56 rfl ?_
      refine aw_aload_n (pc := 57) 0 dX7_readCorner_57 rfl ?_
      refine aw_iconst (pc := 58) (v := (0 : Int32)) dX7_readCorner_58 (by decide) ?_
      refine aw_iconst (pc := 59) (v := (0 : Int32)) dX7_readCorner_59 (by decide) ?_
      refine aw_sipush (pc := 60) (v := (999 : Int32)) dX7_readCorner_60 (by decide) ?_
      obtain ⟨r13, e, h⟩ := op_bd h
      refine ow_cVi (pc := 63) [.ref v9, .int (0 : Int32), .int (0 : Int32), .int (999 : Int32)] ((c_X7_readInto _ _ _ _ _ _ _ e).mono (by decide)) (op_ck_sh e) rfl dX7_readCorner_63 cw_X7_117 rfl (Nat.le_of_ble_eq_true rfl) ?_
      refine aw_if_eq (pc := 66) 100 dX7_readCorner_66 (by decide) (fun z => ?_) (fun z => ?_)
      · replace h := (if_pos z).symm.trans h
        refine aw_sub [1] rfl ?_
        exact c_X7_readCorner_100  _ _ _ h
      · replace h := (if_neg z).symm.trans h
        refine aw_aload_n (pc := 69) 1 dX7_readCorner_69 rfl ?_
        refine aw_aload_n (pc := 70) 0 dX7_readCorner_70 rfl ?_
        refine aw_iconst (pc := 71) (v := (1 : Int32)) dX7_readCorner_71 (by decide) ?_
        refine aw_iconst (pc := 72) (v := (0 : Int32)) dX7_readCorner_72 (by decide) ?_
        refine aw_bipush (pc := 73) (v := (99 : Int32)) dX7_readCorner_73 (by decide) ?_
        obtain ⟨r14, e, h⟩ := op_bd h
        refine ow_cVi (pc := 75) [.ref v9, .int (1 : Int32), .int (0 : Int32), .int (99 : Int32)] ((c_X7_readInto _ _ _ _ _ _ _ e).mono (by decide)) (op_ck_sh e) rfl dX7_readCorner_75 cw_X7_117 rfl (Nat.le_of_ble_eq_true rfl) ?_
        refine aw_if_eq (pc := 78) 100 dX7_readCorner_78 (by decide) (fun z => ?_) (fun z => ?_)
        · replace h := (if_pos z).symm.trans h
          refine aw_sub [1] rfl ?_
          exact c_X7_readCorner_100  _ _ _ h
        · replace h := (if_neg z).symm.trans h
          refine aw_aload_n (pc := 81) 1 dX7_readCorner_81 rfl ?_
          refine aw_bipush (pc := 82) (v := (9 : Int32)) dX7_readCorner_82 (by decide) ?_
          refine aw_aload_n (pc := 84) 0 dX7_readCorner_84 rfl ?_
          refine aw_iconst (pc := 85) (v := (2 : Int32)) dX7_readCorner_85 (by decide) ?_
          refine aw_bipush (pc := 86) (v := (20 : Int32)) dX7_readCorner_86 (by decide) ?_
          refine aw_bipush (pc := 88) (v := (20 : Int32)) dX7_readCorner_88 (by decide) ?_
          obtain ⟨r15, e, h⟩ := op_bd h
          refine ow_cVi (pc := 90) [.int (9 : Int32), .ref v9, .int (2 : Int32), .int (20 : Int32), .int (20 : Int32)] ((c_X7_readOption _ _ _ _ _ _ _ _ e).mono (by decide)) (op_ck_sh e) rfl dX7_readCorner_90 cw_X7_121 rfl (Nat.le_of_ble_eq_true rfl) ?_
          refine aw_if_eq (pc := 93) 100 dX7_readCorner_93 (by decide) (fun z => ?_) (fun z => ?_)
          · replace h := (if_pos z).symm.trans h
            refine aw_sub [1] rfl ?_
            exact c_X7_readCorner_100  _ _ _ h
          · replace h := (if_neg z).symm.trans h
            refine aw_iconst (pc := 96) (v := (1 : Int32)) dX7_readCorner_96 (by decide) ?_
            refine aw_goto (pc := 97) 101 dX7_readCorner_97 (by decide) ?_
            refine aw_sub [1] rfl ?_
            exact c_X7_readCorner_101  _ _ _ _ h
  · replace h := (if_neg z).symm.trans h
    refine aw_aload_n (pc := 12) 0 dX7_readCorner_12 rfl ?_
    refine aw_iconst (pc := 13) (v := (2 : Int32)) dX7_readCorner_13 (by decide) ?_
    obtain ⟨r16, e, h⟩ := op_bd h
    refine ow_cVi (pc := 14) [.int (2 : Int32)] ((c_X7_fail _ _ _ _ e).mono (by decide)) (op_ck_sh e) rfl dX7_readCorner_14 cw_X7_64 rfl (Nat.le_of_ble_eq_true rfl) ?_
    exact ow_zret (pc := 17) h dX7_readCorner_17 rfl
theorem c_X7_readCorner {G : ah_G}   (x0 : Nat) (σ : ah_H) (r : Int32 × ah_H) (h : f_X7_readCorner  x0 σ = some r) : AM G m_X7_readCorner 4 0 0 [.ref x0] σ (ah_ri r) := aw_enter (by decide) (Nat.le_of_ble_eq_true rfl) (c_X7_readCorner_0 _ _ _ (op_ck_k h))
def f_X4_append_0   (x0 : Nat) (x1 : Int32) (x2 : Int32) (σ : ah_H) : Option (ah_H) :=
  (op_gI 4 1 σ x0).bind fun v1 => if (64 : Int32) ≤ v1 then (some σ) else ((op_gR 4 2 σ x0).bind fun v2 => (op_gI 4 1 σ x0).bind fun v3 => (op_sI σ v2 v3 x1).bind fun σ4 => (op_gR 4 3 σ4 x0).bind fun v5 => (op_gI 4 1 σ4 x0).bind fun v6 => (op_sI σ4 v5 v6 x2).bind fun σ7 => (op_gI 4 1 σ7 x0).bind fun v8 => (op_pI 4 1 σ7 x0 (v8 + (1 : Int32))).bind fun σ9 => some σ9)
def f_X4_append  (x0 : Nat) (x1 : Int32) (x2 : Int32) (σ : ah_H) : Option (ah_H) := op_ck 4 σ x0 (f_X4_append_0 x0 x1 x2 σ)
set_option maxRecDepth 100000 in
set_option maxHeartbeats 4000000 in
theorem c_X4_append_0 {G : ah_G}   : ∀ (x0 : Nat) (x1 : Int32) (x2 : Int32) (σ : ah_H) (r : ah_H), f_X4_append_0   x0 x1 x2 σ = some r → AW G m_X4_append 0 0 0 0 [(0, .ref x0), (1, .int x1), (2, .int x2)] [] σ (ah_N G (ah_rv r)) := by
  intro x0 x1 x2 σ r h
  unfold f_X4_append_0 at h
  refine aw_aload_n (pc := 0) 0 dX4_append_0 rfl ?_
  obtain ⟨v1, e, h⟩ := op_bd h
  refine ow_gI (pc := 1) e dX4_append_1 fd_X4_35 rfl ?_
  refine aw_bipush (pc := 4) (v := (64 : Int32)) dX4_append_4 (by decide) ?_
  refine aw_icmp_ge (pc := 6) 39 dX4_append_6 (by decide) (fun z => ?_) (fun z => ?_)
  · replace h := (if_pos z).symm.trans h
    exact ow_vret (pc := 39) h dX4_append_39 rfl
  · replace h := (if_neg z).symm.trans h
    refine aw_aload_n (pc := 9) 0 dX4_append_9 rfl ?_
    obtain ⟨v2, e, h⟩ := op_bd h
    refine ow_gR (pc := 10) e dX4_append_10 fd_X4_11 rfl ?_
    refine aw_aload_n (pc := 13) 0 dX4_append_13 rfl ?_
    obtain ⟨v3, e, h⟩ := op_bd h
    refine ow_gI (pc := 14) e dX4_append_14 fd_X4_35 rfl ?_
    refine aw_iload_n (pc := 17) 1 dX4_append_17 rfl ?_
    obtain ⟨σ4, e, h⟩ := op_bd h
    refine ow_sI (pc := 18) e dX4_append_18 ?_
    refine aw_aload_n (pc := 19) 0 dX4_append_19 rfl ?_
    obtain ⟨v5, e, h⟩ := op_bd h
    refine ow_gR (pc := 20) e dX4_append_20 fd_X4_15 rfl ?_
    refine aw_aload_n (pc := 23) 0 dX4_append_23 rfl ?_
    obtain ⟨v6, e, h⟩ := op_bd h
    refine ow_gI (pc := 24) e dX4_append_24 fd_X4_35 rfl ?_
    refine aw_iload_n (pc := 27) 2 dX4_append_27 rfl ?_
    obtain ⟨σ7, e, h⟩ := op_bd h
    refine ow_sI (pc := 28) e dX4_append_28 ?_
    refine aw_aload_n (pc := 29) 0 dX4_append_29 rfl ?_
    refine aw_dup (pc := 30) dX4_append_30 rfl ?_
    obtain ⟨v8, e, h⟩ := op_bd h
    refine ow_gI (pc := 31) e dX4_append_31 fd_X4_35 rfl ?_
    refine aw_iconst (pc := 34) (v := (1 : Int32)) dX4_append_34 (by decide) ?_
    refine aw_iadd (pc := 35) dX4_append_35 ?_
    obtain ⟨σ9, e, h⟩ := op_bd h
    refine ow_pI (pc := 36) e dX4_append_36 fd_X4_35 ?_
    exact ow_vret (pc := 39) h dX4_append_39 rfl
theorem c_X4_append {G : ah_G}   (x0 : Nat) (x1 : Int32) (x2 : Int32) (σ : ah_H) (r : ah_H) (h : f_X4_append  x0 x1 x2 σ = some r) : AM G m_X4_append 0 0 0 [.ref x0, .int x1, .int x2] σ (ah_rv r) := aw_enter (by decide) (Nat.le_of_ble_eq_true rfl) (c_X4_append_0 _ _ _ _ _ (op_ck_k h))
def f_X2_addLeaf_0   (x0 : Nat) (x1 : Int32) (x2 : Int32) (σ : ah_H) : Option (Int32 × ah_H) :=
  (op_gR 2 2 σ x0).bind fun v1 => (op_gI 4 0 σ v1).bind fun v2 => if v2 < (64 : Int32) then ((op_gR 2 2 σ x0).bind fun v3 => (op_gI 4 0 σ v3).bind fun v4 => (op_pI 4 0 σ v3 (v4 + (1 : Int32))).bind fun σ5 => (op_gR 2 2 σ5 x0).bind fun v6 => (f_X4_append v6 x1 x2 σ5).bind fun r7 => (op_pZ 2 5 r7 x0 (0 : Int32)).bind fun σ8 => some ((0 : Int32), σ8)) else (some ((2 : Int32), σ))
def f_X2_addLeaf  (x0 : Nat) (x1 : Int32) (x2 : Int32) (σ : ah_H) : Option (Int32 × ah_H) := op_ck 2 σ x0 (f_X2_addLeaf_0 x0 x1 x2 σ)
set_option maxRecDepth 100000 in
set_option maxHeartbeats 4000000 in
theorem c_X2_addLeaf_0 {G : ah_G}   : ∀ (x0 : Nat) (x1 : Int32) (x2 : Int32) (σ : ah_H) (r : Int32 × ah_H), f_X2_addLeaf_0   x0 x1 x2 σ = some r → AW G m_X2_addLeaf 1 0 0 0 [(0, .ref x0), (1, .int x1), (2, .int x2)] [] σ (ah_N G (ah_ri r)) := by
  intro x0 x1 x2 σ r h
  unfold f_X2_addLeaf_0 at h
  refine aw_aload_n (pc := 0) 0 dX2_addLeaf_0 rfl ?_
  obtain ⟨v1, e, h⟩ := op_bd h
  refine ow_gR (pc := 1) e dX2_addLeaf_1 fd_X2_21 rfl ?_
  obtain ⟨v2, e, h⟩ := op_bd h
  refine ow_gI (pc := 4) e dX2_addLeaf_4 fd_X2_88 rfl ?_
  refine aw_bipush (pc := 7) (v := (64 : Int32)) dX2_addLeaf_7 (by decide) ?_
  refine aw_icmp_lt (pc := 9) 14 dX2_addLeaf_9 (by decide) (fun z => ?_) (fun z => ?_)
  · replace h := (if_pos z).symm.trans h
    refine aw_aload_n (pc := 14) 0 dX2_addLeaf_14 rfl ?_
    obtain ⟨v3, e, h⟩ := op_bd h
    refine ow_gR (pc := 15) e dX2_addLeaf_15 fd_X2_21 rfl ?_
    refine aw_dup (pc := 18) dX2_addLeaf_18 rfl ?_
    obtain ⟨v4, e, h⟩ := op_bd h
    refine ow_gI (pc := 19) e dX2_addLeaf_19 fd_X2_88 rfl ?_
    refine aw_iconst (pc := 22) (v := (1 : Int32)) dX2_addLeaf_22 (by decide) ?_
    refine aw_iadd (pc := 23) dX2_addLeaf_23 ?_
    obtain ⟨σ5, e, h⟩ := op_bd h
    refine ow_pI (pc := 24) e dX2_addLeaf_24 fd_X2_88 ?_
    refine aw_aload_n (pc := 27) 0 dX2_addLeaf_27 rfl ?_
    obtain ⟨v6, e, h⟩ := op_bd h
    refine ow_gR (pc := 28) e dX2_addLeaf_28 fd_X2_21 rfl ?_
    refine aw_iload_n (pc := 31) 1 dX2_addLeaf_31 rfl ?_
    refine aw_iload_n (pc := 32) 2 dX2_addLeaf_32 rfl ?_
    obtain ⟨r7, e, h⟩ := op_bd h
    refine ow_cVv (pc := 33) [.int x1, .int x2] ((c_X4_append _ _ _ _ _ e).mono (by decide)) (op_ck_sh e) rfl dX2_addLeaf_33 cw_X2_91 rfl (Nat.le_of_ble_eq_true rfl) ?_
    refine aw_aload_n (pc := 36) 0 dX2_addLeaf_36 rfl ?_
    refine aw_iconst (pc := 37) (v := (0 : Int32)) dX2_addLeaf_37 (by decide) ?_
    obtain ⟨σ8, e, h⟩ := op_bd h
    refine ow_pZ (pc := 38) e dX2_addLeaf_38 fd_X2_32 ?_
    refine aw_iconst (pc := 41) (v := (0 : Int32)) dX2_addLeaf_41 (by decide) ?_
    exact ow_iret (pc := 42) h dX2_addLeaf_42 rfl
  · replace h := (if_neg z).symm.trans h
    refine aw_iconst (pc := 12) (v := (2 : Int32)) dX2_addLeaf_12 (by decide) ?_
    exact ow_iret (pc := 13) h dX2_addLeaf_13 rfl
theorem c_X2_addLeaf {G : ah_G}   (x0 : Nat) (x1 : Int32) (x2 : Int32) (σ : ah_H) (r : Int32 × ah_H) (h : f_X2_addLeaf  x0 x1 x2 σ = some r) : AM G m_X2_addLeaf 1 0 0 [.ref x0, .int x1, .int x2] σ (ah_ri r) := aw_enter (by decide) (Nat.le_of_ble_eq_true rfl) (c_X2_addLeaf_0 _ _ _ _ _ (op_ck_k h))
def f_X2_addWaiting_0   (x0 : Nat) (x1 : Int32) (σ : ah_H) : Option (Int32 × ah_H) :=
  (op_gR 2 2 σ x0).bind fun v1 => (op_gI 4 0 σ v1).bind fun v2 => if (64 : Int32) ≤ v2 then (some ((2 : Int32), σ)) else ((op_gI 2 3 σ x0).bind fun v3 => if v3 < (72 : Int32) then ((op_gR 2 2 σ x0).bind fun v4 => (op_gI 4 0 σ v4).bind fun v5 => (op_pI 4 0 σ v4 (v5 + (1 : Int32))).bind fun σ6 => (op_gR 2 1 σ6 x0).bind fun v7 => (op_gI 2 3 σ6 x0).bind fun v8 => (op_sI σ6 v7 v8 x1).bind fun σ9 => (op_gI 2 3 σ9 x0).bind fun v10 => (op_pI 2 3 σ9 x0 (v10 + (1 : Int32))).bind fun σ11 => (op_pZ 2 5 σ11 x0 (1 : Int32)).bind fun σ12 => some ((0 : Int32), σ12)) else (some ((2 : Int32), σ)))
def f_X2_addWaiting  (x0 : Nat) (x1 : Int32) (σ : ah_H) : Option (Int32 × ah_H) := op_ck 2 σ x0 (f_X2_addWaiting_0 x0 x1 σ)
set_option maxRecDepth 100000 in
set_option maxHeartbeats 4000000 in
theorem c_X2_addWaiting_0 {G : ah_G}   : ∀ (x0 : Nat) (x1 : Int32) (σ : ah_H) (r : Int32 × ah_H), f_X2_addWaiting_0   x0 x1 σ = some r → AW G m_X2_addWaiting 0 0 0 0 [(0, .ref x0), (1, .int x1)] [] σ (ah_N G (ah_ri r)) := by
  intro x0 x1 σ r h
  unfold f_X2_addWaiting_0 at h
  refine aw_aload_n (pc := 0) 0 dX2_addWaiting_0 rfl ?_
  obtain ⟨v1, e, h⟩ := op_bd h
  refine ow_gR (pc := 1) e dX2_addWaiting_1 fd_X2_21 rfl ?_
  obtain ⟨v2, e, h⟩ := op_bd h
  refine ow_gI (pc := 4) e dX2_addWaiting_4 fd_X2_88 rfl ?_
  refine aw_bipush (pc := 7) (v := (64 : Int32)) dX2_addWaiting_7 (by decide) ?_
  refine aw_icmp_ge (pc := 9) 21 dX2_addWaiting_9 (by decide) (fun z => ?_) (fun z => ?_)
  · replace h := (if_pos z).symm.trans h
    refine aw_iconst (pc := 21) (v := (2 : Int32)) dX2_addWaiting_21 (by decide) ?_
    exact ow_iret (pc := 22) h dX2_addWaiting_22 rfl
  · replace h := (if_neg z).symm.trans h
    refine aw_aload_n (pc := 12) 0 dX2_addWaiting_12 rfl ?_
    obtain ⟨v3, e, h⟩ := op_bd h
    refine ow_gI (pc := 13) e dX2_addWaiting_13 fd_X2_25 rfl ?_
    refine aw_bipush (pc := 16) (v := (72 : Int32)) dX2_addWaiting_16 (by decide) ?_
    refine aw_icmp_lt (pc := 18) 23 dX2_addWaiting_18 (by decide) (fun z => ?_) (fun z => ?_)
    · replace h := (if_pos z).symm.trans h
      refine aw_aload_n (pc := 23) 0 dX2_addWaiting_23 rfl ?_
      obtain ⟨v4, e, h⟩ := op_bd h
      refine ow_gR (pc := 24) e dX2_addWaiting_24 fd_X2_21 rfl ?_
      refine aw_dup (pc := 27) dX2_addWaiting_27 rfl ?_
      obtain ⟨v5, e, h⟩ := op_bd h
      refine ow_gI (pc := 28) e dX2_addWaiting_28 fd_X2_88 rfl ?_
      refine aw_iconst (pc := 31) (v := (1 : Int32)) dX2_addWaiting_31 (by decide) ?_
      refine aw_iadd (pc := 32) dX2_addWaiting_32 ?_
      obtain ⟨σ6, e, h⟩ := op_bd h
      refine ow_pI (pc := 33) e dX2_addWaiting_33 fd_X2_88 ?_
      refine aw_aload_n (pc := 36) 0 dX2_addWaiting_36 rfl ?_
      obtain ⟨v7, e, h⟩ := op_bd h
      refine ow_gR (pc := 37) e dX2_addWaiting_37 fd_X2_13 rfl ?_
      refine aw_aload_n (pc := 40) 0 dX2_addWaiting_40 rfl ?_
      obtain ⟨v8, e, h⟩ := op_bd h
      refine ow_gI (pc := 41) e dX2_addWaiting_41 fd_X2_25 rfl ?_
      refine aw_iload_n (pc := 44) 1 dX2_addWaiting_44 rfl ?_
      obtain ⟨σ9, e, h⟩ := op_bd h
      refine ow_sI (pc := 45) e dX2_addWaiting_45 ?_
      refine aw_aload_n (pc := 46) 0 dX2_addWaiting_46 rfl ?_
      refine aw_dup (pc := 47) dX2_addWaiting_47 rfl ?_
      obtain ⟨v10, e, h⟩ := op_bd h
      refine ow_gI (pc := 48) e dX2_addWaiting_48 fd_X2_25 rfl ?_
      refine aw_iconst (pc := 51) (v := (1 : Int32)) dX2_addWaiting_51 (by decide) ?_
      refine aw_iadd (pc := 52) dX2_addWaiting_52 ?_
      obtain ⟨σ11, e, h⟩ := op_bd h
      refine ow_pI (pc := 53) e dX2_addWaiting_53 fd_X2_25 ?_
      refine aw_aload_n (pc := 56) 0 dX2_addWaiting_56 rfl ?_
      refine aw_iconst (pc := 57) (v := (1 : Int32)) dX2_addWaiting_57 (by decide) ?_
      obtain ⟨σ12, e, h⟩ := op_bd h
      refine ow_pZ (pc := 58) e dX2_addWaiting_58 fd_X2_32 ?_
      refine aw_iconst (pc := 61) (v := (0 : Int32)) dX2_addWaiting_61 (by decide) ?_
      exact ow_iret (pc := 62) h dX2_addWaiting_62 rfl
    · replace h := (if_neg z).symm.trans h
      refine aw_iconst (pc := 21) (v := (2 : Int32)) dX2_addWaiting_21 (by decide) ?_
      exact ow_iret (pc := 22) h dX2_addWaiting_22 rfl
theorem c_X2_addWaiting {G : ah_G}   (x0 : Nat) (x1 : Int32) (σ : ah_H) (r : Int32 × ah_H) (h : f_X2_addWaiting  x0 x1 σ = some r) : AM G m_X2_addWaiting 0 0 0 [.ref x0, .int x1] σ (ah_ri r) := aw_enter (by decide) (Nat.le_of_ble_eq_true rfl) (c_X2_addWaiting_0 _ _ _ _ (op_ck_k h))
