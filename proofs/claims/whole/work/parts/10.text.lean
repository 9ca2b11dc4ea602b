/-! TEXT CONSTANTS: length and charAt, by the JDK's own code. The text number i is the abstract cell 1000000 + i, its bytes 1000010 + i. -/
theorem ah_rho_t (G : ah_G) (i : Nat) (h : 1000000 ≤ i) : ah_rho G i = G.2.2.2.1 i := by
  unfold ah_rho
  rw [if_neg (by omega)]
abbrev mt_length : ah_M := (yJ0_length_8abf5, cJ0_length_8abf5, 1, some .int)
abbrev mt_coder : ah_M := (yJ0_coder_7d493, cJ0_coder_7d493, 1, some .byte)
abbrev mt_charAt : ah_M := (yJ0_charAt_5068e, cJ0_charAt_5068e, 2, some .char)
abbrev mt_isLatin1 : ah_M := (yJ0_isLatin1_aae02, cJ0_isLatin1_aae02, 1, some .boolean)
abbrev mt_charAt1 : ah_M := (yJ1_charAt_3b067, cJ1_charAt_3b067, 2, some .char)
abbrev mt_check : ah_M := (yJ0_checkIndex_df160, cJ0_checkIndex_df160, 2, none)
abbrev mt_pre : ah_M := (yJ3_checkIndex_8e157, cJ3_checkIndex_8e157, 3, some .int)
def ah_tl3 : List Nat := [72, 72, 124]
section
variable {G : ah_G} {mi mi' : ah_M} {dp kc ks ka kb pc : Nat} {lv : List (Nat × Value)} {rest : List Value} {σ : ah_H} {Q' : Option Value → ah_H → Prop} {Q : ah_Z}
/-- what the machine holds of the texts, at the heap now -/
theorem ah_now {H : Heap} (hR : ah_Rel G σ H) : ∀ q : Nat, q < G.2.2.2.2.size → ¬ ah_A G q → H[q]? = G.2.2.2.2[q]? := fun q hq _ => hR.2.2.2 q hq
theorem aw_ldcS {i index : Nat} (hi : i < 3) (hd : decode mi.2.1 pc = .ok (.ldc index, 2)) (ho : (ah_tx i).1 = mi.1.cls) (hx : (ah_tx i).2.1 = index) (k : AW G mi dp kc ks (pc + 2) lv (.ref (1000000 + i) :: rest) σ Q) : AW G mi dp kc ks pc lv rest σ Q := by
  intro p e R s m args below meth c H locs cells slots ls hC h1 h2 hR hS hl
  have hX := hC.2.2.2.2.2.2.2.2.1.2.2.2.1 i hi
  rw [hx] at hX
  have hk := k p e R s m args below meth c H locs cells slots ls hC h1 h2 hR hS hl
  have e1 : ah_up G (.ref (1000000 + i)) = .ref (ah_tK G i) := by
    show Value.ref (ah_rho G _) = _
    rw [ah_rho_t G _ (by omega)]
    rfl
  rw [List.map_cons, e1] at hk
  exact va_ldcS hC.1 hC.2.1 (by rw [ho]; exact hC.2.2.2.1) hX hd hk
theorem aw_gcoder {i index : Nat} (hi : i < 3) (hd : decode mi.2.1 pc = .ok (.getfield index, 3)) (hw : Cond.fieldLink mi.1.cls index "java/lang/String" "coder" "B" ∈ ah_TW) (k : AW G mi dp kc ks (pc + 3) lv (.int 0 :: rest) σ Q) : AW G mi dp kc ks pc lv (.ref (1000000 + i) :: rest) σ Q := by
  intro p e R s m args below meth c H locs cells slots ls hC h1 h2 hR hS hl
  obtain ⟨cf, kf, fi, f, cell, g1, g2, g3, g4, g5, g6⟩ := (hC.2.2.2.2.2.2.2.2.1.2.2.2.2.1.1 i hi).2.1.kept (ah_now hR)
  refine W.getf (v := .int 0) (a := ah_tK G i) hC.1 hC.2.1 hC.2.2.2.1 (hC.2.2.2.2.1 _ hw) g1 g2 g3 g4 g5 rfl ?_ hd (k p e R s m args below meth c H locs cells slots ls hC h1 h2 hR hS hl)
  show ah_up G (.ref (1000000 + i)) :: _ = _
  show Value.ref (ah_rho G _) :: _ = _
  rw [ah_rho_t G _ (by omega)]
  rfl
theorem aw_gvalue {i index : Nat} (hi : i < 3) (hd : decode mi.2.1 pc = .ok (.getfield index, 3)) (hw : Cond.fieldLink mi.1.cls index "java/lang/String" "value" "[B" ∈ ah_TW) (k : AW G mi dp kc ks (pc + 3) lv (.ref (1000010 + i) :: rest) σ Q) : AW G mi dp kc ks pc lv (.ref (1000000 + i) :: rest) σ Q := by
  intro p e R s m args below meth c H locs cells slots ls hC h1 h2 hR hS hl
  obtain ⟨cf, kf, fi, f, cell, g1, g2, g3, g4, g5, g6⟩ := (hC.2.2.2.2.2.2.2.2.1.2.2.2.2.1.1 i hi).2.2.1.kept (ah_now hR)
  have hk := k p e R s m args below meth c H locs cells slots ls hC h1 h2 hR hS hl
  have e1 : ah_up G (.ref (1000010 + i)) = .ref (ah_tV G i) := by
    show Value.ref (ah_rho G _) = _
    rw [ah_rho_t G _ (by omega)]
    rfl
  rw [List.map_cons, e1] at hk
  refine W.getf (v := .ref (ah_tV G i)) (a := ah_tK G i) hC.1 hC.2.1 hC.2.2.2.1 (hC.2.2.2.2.1 _ hw) g1 g2 g3 g4 g5 rfl ?_ hd hk
  show Value.ref (ah_rho G _) :: _ = _
  rw [ah_rho_t G _ (by omega)]
  rfl
theorem aw_compact {index : Nat} (hd : decode mi.2.1 pc = .ok (.getstatic index, 3)) (hw : Cond.fieldLink mi.1.cls index "java/lang/String" "COMPACT_STRINGS" "Z" ∈ ah_TW) (k : AW G mi dp kc ks (pc + 3) lv (.int 1 :: rest) σ Q) : AW G mi dp kc ks pc lv rest σ Q := by
  intro p e R s m args below meth c H locs cells slots ls hC h1 h2 hR hS hl
  obtain ⟨cf, kf, fi, f, a, cell, g1, g2, g3, g4, g5, g6, g7, g8⟩ := hC.2.2.2.2.2.2.2.2.1.2.2.2.2.2.1.kept (ah_now hR)
  exact W.gets (v := .int 1) hC.1 hC.2.1 hC.2.2.2.1 (hC.2.2.2.2.1 _ hw) g1 g2 g3 g4 g5 (fun e => by rw [e] at g6; cases g6) g7 rfl hd (k p e R s m args below meth c H locs cells slots ls hC h1 h2 hR hS hl)
theorem aw_fmt {index : Nat} (hd : decode mi.2.1 pc = .ok (.getstatic index, 3)) (hw : Cond.fieldLink mi.1.cls index "jdk/internal/util/Preconditions" "SIOOBE_FORMATTER" "Ljava/util/function/BiFunction;" ∈ ah_TW) (k : AW G mi dp kc ks (pc + 3) lv (ah_fm G :: rest) σ Q) : AW G mi dp kc ks pc lv rest σ Q := by
  intro p e R s m args below meth c H locs cells slots ls hC h1 h2 hR hS hl
  obtain ⟨cf, kf, fi, f, a, cell, g1, g2, g3, g4, g5, g6, g7, g8⟩ := hC.2.2.2.2.2.2.2.2.1.2.2.2.2.2.2.1.kept (ah_now hR)
  exact W.gets (v := ah_up G (ah_fm G)) hC.1 hC.2.1 hC.2.2.2.1 (hC.2.2.2.2.1 _ hw) g1 g2 g3 g4 g5 (fun e => by rw [e] at g6; cases g6) g7 rfl hd (k p e R s m args below meth c H locs cells slots ls hC h1 h2 hR hS hl)
theorem aw_tlen {i : Nat} (hi : i < 3) (hd : decode mi.2.1 pc = .ok (.arraylength, 1)) (k : AW G mi dp kc ks (pc + 1) lv (.int (Int32.ofNat (ah_tl3.getD i 0)) :: rest) σ Q) : AW G mi dp kc ks pc lv (.ref (1000010 + i) :: rest) σ Q := by
  intro p e R s m args below meth c H locs cells slots ls hC h1 h2 hR hS hl
  obtain ⟨cell, g1, g2, g3, g4, g5, g6, g7⟩ := (hC.2.2.2.2.2.2.2.2.1.2.2.2.2.1.1 i hi).2.2.2.kept (ah_now hR)
  refine W.alen (a := ah_tV G i) (n := Int32.ofNat (ah_tl3.getD i 0)) hC.1 hC.2.1 g1 g2 g5 rfl ?_ hd (k p e R s m args below meth c H locs cells slots ls hC h1 h2 hR hS hl)
  show Value.ref (ah_rho G _) :: _ = _
  rw [ah_rho_t G _ (by omega)]
  rfl
theorem aw_tald {i : Nat} {j : Int32} (hi : i < 3) (hd : decode mi.2.1 pc = .ok (.baload, 1)) (hj : vp_in j (ah_tl3.getD i 0)) (k : AW G mi dp kc ks (pc + 1) lv (.int ((ah_tb i).getD j.toNatClampNeg 0) :: rest) σ Q) : AW G mi dp kc ks pc lv (.int j :: .ref (1000010 + i) :: rest) σ Q := by
  intro p e R s m args below meth c H locs cells slots ls hC h1 h2 hR hS hl
  obtain ⟨cell, g1, g2, g3, g4, g5, g6, g7⟩ := (hC.2.2.2.2.2.2.2.2.1.2.2.2.2.1.1 i hi).2.2.2.kept (ah_now hR)
  have hlt : j.toNatClampNeg < ah_tl3.getD i 0 := Nat.not_le.mp fun q => hj (Or.inr q)
  have hv := g6 _ hlt
  have e0 : ([ah_tb 0, ah_tb 1, ah_tb 2] : List (List Int32)).getD i [] = ah_tb i := by
    rcases (show i = 0 ∨ i = 1 ∨ i = 2 by omega) with rfl | rfl | rfl <;> simp only [List.getD_cons_zero, List.getD_cons_succ]
  rw [e0] at hv
  refine W.bald (a := ah_tV G i) (v := .int ((ah_tb i).getD j.toNatClampNeg 0)) hC.1 hC.2.1 g1 g2 g3 (fun z => hj (z.imp id (fun z => Nat.le_trans g4 z))) hv rfl ?_ hd (k p e R s m args below meth c H locs cells slots ls hC h1 h2 hR hS hl)
  show _ :: Value.ref (ah_rho G _) :: _ = _
  rw [ah_rho_t G _ (by omega)]
  rfl
theorem aw_i2c {x : Int32} (hd : decode mi.2.1 pc = .ok (.i2c, 1)) (k : AW G mi dp kc ks (pc + 1) lv (.int ((x.toUInt32 % 65536).toInt32) :: rest) σ Q) : AW G mi dp kc ks pc lv (.int x :: rest) σ Q := by
  intro p e R s m args below meth c H locs cells slots ls hC h1 h2 hR hS hl
  exact lv_i2c hC.1 hC.2.1 hd rfl (k p e R s m args below meth c H locs cells slots ls hC h1 h2 hR hS hl)
/-- a call on a text -/
theorem aw_callT {idx i n : Nat} {st : List Value} (As : List Value) (hi : i < 3) (hst : st = As.reverse ++ .ref (1000000 + i) :: rest) (hd : decode mi.2.1 pc = .ok (.invokevirtual idx, 3)) (hw : ah_Cb mi.1.cls idx mi' n) (w2 : Cond.instanceMethod mi'.1 ∈ ah_TW) (w3 : Cond.selects "java/lang/String" mi'.1 mi'.1 ∈ ah_TW) (hn : As.length = n) (hr : (rest.map fun v => v.category).sum ≤ 8) (hM : AM G mi' dp 0 0 (.ref (1000000 + i) :: As) σ Q')
    (k : ∀ v τ, Q' v τ → AW G mi (dp + 1) 0 0 (pc + 3) lv (v.toList ++ rest) τ Q) : AW G mi (dp + 1) 0 0 pc lv st σ Q := by
  subst hst
  intro p e R s m args below meth c H locs cells slots ls hC h1 h2 hR hS hl
  have hts := hC.2.2.2.2.1
  obtain ⟨cell, q1, q2, q3, -⟩ := (hC.2.2.2.2.2.2.2.2.1.2.2.2.2.1.1 i hi).1.kept (ah_now hR)
  have er : ah_rho G (1000000 + i) = ah_tK G i := ah_rho_t G _ (by omega)
  refine ah_go (ka := 0) (kb := 0) (kc := 0) (ks := 0) (Q' := Q') (aa := (Value.ref (ah_rho G (1000000 + i)) :: As.map (ah_up G)).toArray) hC h1 h2 hS hl ?_ k
  refine va_runV (As := As.map (ah_up G)) (b := ah_rho G (1000000 + i)) (C := "java/lang/String") (cc := mi.2.1) (nL := mi.2.2.1) (Ts := ah_TW) (n := n) ⟨hC.1, hC.2.1, hC.2.2.1, hC.2.2.2.1, hts⟩ (hM (ah_rm dp 0 0) (Nat.le_refl _) (Nat.le_refl _) rfl rfl) ⟨ah_cB hC hw, hts _ w2, hts _ w3⟩ ⟨ah_blind, ⟨cell, by rw [er]; exact q1, q2, q3⟩, fun U hU hW => ⟨rfl, by rw [hU]; exact hR, ah_K.warm hW hC.2.2.2.2.2.2.2.2.1⟩⟩ rfl (by rw [List.length_map]; exact hn) hl.1 ?_ (lv_room ?_) hd ⟨by omega, by omega⟩
  · show List.map (ah_up G) (As.reverse ++ .ref (1000000 + i) :: rest) = _
    rw [List.map_append, List.map_reverse]
    rfl
  · exact ah_cats hr
end
theorem tf_0 : Cond.fieldLink RJ0 38 "java/lang/String" "COMPACT_STRINGS" "Z" ∈ ah_TW := ah_m1 221 (by decide +kernel)
theorem tf_1 : Cond.fieldLink RJ0 15 "java/lang/String" "coder" "B" ∈ ah_TW := ah_m10 8 (by decide +kernel)
theorem tf_2 : Cond.fieldLink RJ0 9 "java/lang/String" "value" "[B" ∈ ah_TW := ah_m10 7 (by decide +kernel)
theorem tf_3 : ah_Cb RJ0 335 mt_coder 0 := ⟨ah_m1 217 (by decide +kernel), ah_m1 7 (by decide +kernel), ah_m1 220 (by decide +kernel), ⟨by decide, by decide⟩, by decide +kernel, by decide⟩
theorem tf_4 : Cond.instanceMethod mt_coder.1 ∈ ah_TW := ah_m1 218 (by decide +kernel)
theorem tf_5 : Cond.selects "java/lang/String" mt_coder.1 mt_coder.1 ∈ ah_TW := ah_m1 219 (by decide +kernel)
theorem tf_6 : Cond.fieldLink RJ0 1053 "jdk/internal/util/Preconditions" "SIOOBE_FORMATTER" "Ljava/util/function/BiFunction;" ∈ ah_TW := ah_m1 237 (by decide +kernel)
theorem tf_7 : ah_Cs RJ0 1059 mt_pre 3 := ⟨⟨ah_m1 239 (by decide +kernel), ah_m1 9 (by decide +kernel), ah_m2 1 (by decide +kernel), ⟨by decide, by decide⟩, by decide +kernel, by decide⟩, ah_m2 0 (by decide +kernel)⟩
theorem tf_8 : ah_Cs RJ1 9 mt_check 2 := ⟨⟨ah_m1 234 (by decide +kernel), ah_m1 7 (by decide +kernel), ah_m1 236 (by decide +kernel), ⟨by decide, by decide⟩, by decide +kernel, by decide⟩, ah_m1 235 (by decide +kernel)⟩
theorem tf_9 : ah_Cb RJ0 492 mt_isLatin1 0 := ⟨ah_m1 227 (by decide +kernel), ah_m1 7 (by decide +kernel), ah_m1 230 (by decide +kernel), ⟨by decide, by decide⟩, by decide +kernel, by decide⟩
theorem tf_10 : Cond.instanceMethod mt_isLatin1.1 ∈ ah_TW := ah_m1 228 (by decide +kernel)
theorem tf_11 : Cond.selects "java/lang/String" mt_isLatin1.1 mt_isLatin1.1 ∈ ah_TW := ah_m1 229 (by decide +kernel)
theorem tf_12 : ah_Cs RJ0 495 mt_charAt1 2 := ⟨⟨ah_m1 231 (by decide +kernel), ah_m1 8 (by decide +kernel), ah_m1 233 (by decide +kernel), ⟨by decide, by decide⟩, by decide +kernel, by decide⟩, ah_m1 232 (by decide +kernel)⟩
theorem tt_coder {G : ah_G} {i : Nat} (hi : i < 3) (σ : ah_H) : AM G mt_coder 0 0 0 [.ref (1000000 + i)] σ (ah_ri (0, σ)) := by
  refine aw_enter (by decide) (Nat.le_of_ble_eq_true rfl) ?_
  refine aw_compact (pc := 0) dJ0_coder_7d493_0 tf_0 ?_
  refine aw_if_eq (pc := 3) 13 dJ0_coder_7d493_3 (by decide) (fun z => absurd z (by decide)) (fun z => ?_)
  refine aw_aload_n (pc := 6) 0 dJ0_coder_7d493_6 rfl ?_
  refine aw_gcoder (pc := 7) hi dJ0_coder_7d493_7 tf_1 ?_
  refine aw_goto (pc := 10) 14 dJ0_coder_7d493_10 (by decide) ?_
  exact aw_zret (pc := 14) dJ0_coder_7d493_14 rfl (by decide) ⟨rfl, rfl⟩
theorem tt_length {G : ah_G} {i : Nat} (hi : i < 3) (σ : ah_H) : AM G mt_length 1 0 0 [.ref (1000000 + i)] σ (ah_ri (Int32.ofNat (ah_tl3.getD i 0), σ)) := by
  refine aw_enter (by decide) (Nat.le_of_ble_eq_true rfl) ?_
  refine aw_aload_n (pc := 0) 0 dJ0_length_8abf5_0 rfl ?_
  refine aw_gvalue (pc := 1) hi dJ0_length_8abf5_1 tf_2 ?_
  refine aw_tlen (pc := 4) hi dJ0_length_8abf5_4 ?_
  refine aw_aload_n (pc := 5) 0 dJ0_length_8abf5_5 rfl ?_
  refine aw_callT (pc := 6) (mi' := mt_coder) [] hi rfl dJ0_length_8abf5_6 tf_3 tf_4 tf_5 rfl (Nat.le_of_ble_eq_true rfl) (tt_coder hi σ) (fun v τ q => ?_)
  obtain ⟨rfl, rfl⟩ := q
  refine aw_ishr (pc := 9) dJ0_length_8abf5_9 ?_
  exact aw_iret (pc := 10) dJ0_length_8abf5_10 rfl ⟨by rw [show ∀ x : Int32, x >>> ((0 : Int32) &&& 31) = x from sb_shr0], rfl⟩
theorem tt_isLatin1 {G : ah_G} {i : Nat} (hi : i < 3) (σ : ah_H) : AM G mt_isLatin1 0 0 0 [.ref (1000000 + i)] σ (ah_ri (1, σ)) := by
  refine aw_enter (by decide) (Nat.le_of_ble_eq_true rfl) ?_
  refine aw_compact (pc := 0) dJ0_isLatin1_aae02_0 tf_0 ?_
  refine aw_if_eq (pc := 3) 17 dJ0_isLatin1_aae02_3 (by decide) (fun z => absurd z (by decide)) (fun z => ?_)
  refine aw_aload_n (pc := 6) 0 dJ0_isLatin1_aae02_6 rfl ?_
  refine aw_gcoder (pc := 7) hi dJ0_isLatin1_aae02_7 tf_1 ?_
  refine aw_if_ne (pc := 10) 17 dJ0_isLatin1_aae02_10 (by decide) (fun z => absurd rfl z) (fun z => ?_)
  refine aw_iconst (pc := 13) (v := 1) dJ0_isLatin1_aae02_13 (by decide) ?_
  refine aw_goto (pc := 14) 18 dJ0_isLatin1_aae02_14 (by decide) ?_
  exact aw_zret (pc := 18) dJ0_isLatin1_aae02_18 rfl (by decide) ⟨rfl, rfl⟩
theorem tt_pre {G : ah_G} {x y : Int32} {w : Value} (hw : w.category = 1) (h0 : ¬ x < 0) (h1 : x < y) (σ : ah_H) : AM G mt_pre 0 0 0 [.int x, .int y, w] σ (ah_ri (x, σ)) := by
  refine aw_enter (by decide) ?_ ?_
  · show (lg_sl [.int x, .int y, w]).length ≤ 3
    have e1 : ∀ z : Int32, (Value.int z).category = 1 := fun _ => rfl
    simp [lg_sl, hw, e1]
  refine aw_iload_n (pc := 0) 0 dJ3_checkIndex_8e157_0 rfl ?_
  refine aw_if_lt (pc := 1) 9 dJ3_checkIndex_8e157_1 (by decide) (fun z => absurd z h0) (fun z => ?_)
  refine aw_iload_n (pc := 4) 0 dJ3_checkIndex_8e157_4 rfl ?_
  refine aw_iload_n (pc := 5) 1 dJ3_checkIndex_8e157_5 rfl ?_
  refine aw_icmp_lt (pc := 6) 16 dJ3_checkIndex_8e157_6 (by decide) (fun z => ?_) (fun z => absurd h1 z)
  refine aw_iload_n (pc := 16) 0 dJ3_checkIndex_8e157_16 rfl ?_
  exact aw_iret (pc := 17) dJ3_checkIndex_8e157_17 rfl ⟨rfl, rfl⟩
theorem tt_check {G : ah_G} {x y : Int32} (h0 : ¬ x < 0) (h1 : x < y) (σ : ah_H) : AM G mt_check 1 0 0 [.int x, .int y] σ (ah_rv σ) := by
  have hw : (ah_fm G).category = 1 := by unfold ah_fm; split <;> rfl
  refine aw_enter (by decide) (Nat.le_of_ble_eq_true rfl) ?_
  refine aw_iload_n (pc := 0) 0 dJ0_checkIndex_df160_0 rfl ?_
  refine aw_iload_n (pc := 1) 1 dJ0_checkIndex_df160_1 rfl ?_
  refine aw_fmt (pc := 2) dJ0_checkIndex_df160_2 tf_6 ?_
  refine ow_cSi (pc := 5) [.int x, .int y, ah_fm G] (tt_pre hw h0 h1 σ) rfl dJ0_checkIndex_df160_5 tf_7 rfl (Nat.le_of_ble_eq_true rfl) ?_
  refine aw_pop (pc := 8) dJ0_checkIndex_df160_8 rfl ?_
  exact aw_vret (pc := 9) dJ0_checkIndex_df160_9 rfl ⟨rfl, rfl⟩
theorem tt_charAt1 {G : ah_G} {i : Nat} {j : Int32} (hi : i < 3) (hj : vp_in j (ah_tl3.getD i 0)) (σ : ah_H) : AM G mt_charAt1 2 0 0 [.ref (1000010 + i), .int j] σ (ah_ri ((ah_tb i).getD j.toNatClampNeg 0 &&& 255, σ)) := by
  have hn : ah_tl3.getD i 0 < 2 ^ 31 := by rcases (show i = 0 ∨ i = 1 ∨ i = 2 by omega) with rfl | rfl | rfl <;> decide
  obtain ⟨q, hq, rfl⟩ := vp_in_of hj hn
  refine aw_enter (by decide) (Nat.le_of_ble_eq_true rfl) ?_
  refine aw_iload_n (pc := 0) 1 dJ1_charAt_3b067_0 rfl ?_
  refine aw_aload_n (pc := 1) 0 dJ1_charAt_3b067_1 rfl ?_
  refine aw_tlen (pc := 2) hi dJ1_charAt_3b067_2 ?_
  refine ow_cSv (pc := 3) [.int (nI q), .int (Int32.ofNat (ah_tl3.getD i 0))] (tt_check (nI_pos (by omega)) (nI_lt hq hn) σ) rfl dJ1_charAt_3b067_3 tf_8 rfl (Nat.le_of_ble_eq_true rfl) ?_
  refine aw_aload_n (pc := 6) 0 dJ1_charAt_3b067_6 rfl ?_
  refine aw_iload_n (pc := 7) 1 dJ1_charAt_3b067_7 rfl ?_
  refine aw_tald (pc := 8) hi dJ1_charAt_3b067_8 hj ?_
  refine aw_sipush (pc := 9) (v := 255) dJ1_charAt_3b067_9 (by decide) ?_
  refine aw_iand (pc := 12) dJ1_charAt_3b067_12 ?_
  refine aw_i2c (pc := 13) dJ1_charAt_3b067_13 ?_
  refine aw_zret (pc := 14) dJ1_charAt_3b067_14 rfl ?_ ⟨by rw [sc_c2], rfl⟩
  rw [sc_c2]
  exact sc_nar _
theorem tt_charAt {G : ah_G} {i : Nat} {j : Int32} (hi : i < 3) (hj : vp_in j (ah_tl3.getD i 0)) (σ : ah_H) : AM G mt_charAt 3 0 0 [.ref (1000000 + i), .int j] σ (ah_ri ((ah_tb i).getD j.toNatClampNeg 0 &&& 255, σ)) := by
  refine aw_enter (by decide) (Nat.le_of_ble_eq_true rfl) ?_
  refine aw_aload_n (pc := 0) 0 dJ0_charAt_5068e_0 rfl ?_
  refine aw_callT (pc := 1) (mi' := mt_isLatin1) [] hi rfl dJ0_charAt_5068e_1 tf_9 tf_10 tf_11 rfl (Nat.le_of_ble_eq_true rfl) ((tt_isLatin1 hi σ).mono (by decide)) (fun v τ q => ?_)
  obtain ⟨rfl, rfl⟩ := q
  refine aw_if_eq (pc := 4) 16 dJ0_charAt_5068e_4 (by decide) (fun z => absurd z (by show ¬ (1 : Int32) = 0; decide)) (fun z => ?_)
  refine aw_aload_n (pc := 7) 0 dJ0_charAt_5068e_7 rfl ?_
  refine aw_gvalue (pc := 8) hi dJ0_charAt_5068e_8 tf_2 ?_
  refine aw_iload_n (pc := 11) 1 dJ0_charAt_5068e_11 rfl ?_
  refine ow_cSi (pc := 12) [.ref (1000010 + i), .int j] (tt_charAt1 hi hj _) rfl dJ0_charAt_5068e_12 tf_12 rfl (Nat.le_of_ble_eq_true rfl) ?_
  exact aw_zret (pc := 15) dJ0_charAt_5068e_15 rfl (sc_nar _) ⟨rfl, rfl⟩
def op_tlen (a : Nat) : Option Int32 := if 1000000 ≤ a ∧ a < 1000003 then some (Int32.ofNat (ah_tl3.getD (a - 1000000) 0)) else none
def op_tch (a : Nat) (j : Int32) : Option Int32 := if 1000000 ≤ a ∧ a < 1000003 then (op_ix j (ah_tl3.getD (a - 1000000) 0)).map (fun q => (ah_tb (a - 1000000)).getD q 0 &&& 255) else none
def ah_Ct (own : String) (idx : Nat) (mi' : ah_M) (n : Nat) : Prop := ah_Cb own idx mi' n ∧ Cond.instanceMethod mi'.1 ∈ ah_TW ∧ Cond.selects "java/lang/String" mi'.1 mi'.1 ∈ ah_TW
section
variable {G : ah_G} {mi mi' : ah_M} {dp kc ks ka kb pc : Nat} {lv : List (Nat × Value)} {rest : List Value} {σ : ah_H} {Q' : Option Value → ah_H → Prop} {Q : ah_Z}
theorem ow_tlen {a idx : Nat} {v : Int32} (h : op_tlen a = some v) (hd : decode mi.2.1 pc = .ok (.invokevirtual idx, 3)) (hw : ah_Ct mi.1.cls idx mt_length 0) (hr : (rest.map fun v => v.category).sum ≤ 8) (k : AW G mi (dp + 2) 0 0 (pc + 3) lv (.int v :: rest) σ Q) : AW G mi (dp + 2) 0 0 pc lv (.ref a :: rest) σ Q := by
  obtain ⟨h1, h2⟩ := op_if h
  have h3 := Option.some.inj h2
  subst h3
  obtain ⟨i, hi, rfl⟩ : ∃ i, i < 3 ∧ a = 1000000 + i := ⟨a - 1000000, by omega, by omega⟩
  rw [show 1000000 + i - 1000000 = i by omega] at k
  refine aw_callT (mi' := mt_length) [] hi rfl hd hw.1 hw.2.1 hw.2.2 rfl hr ((tt_length hi σ).mono (by omega)) (fun v τ q => ?_)
  obtain ⟨rfl, rfl⟩ := q
  exact k
theorem ow_tch {a idx : Nat} {j v : Int32} (h : op_tch a j = some v) (hd : decode mi.2.1 pc = .ok (.invokevirtual idx, 3)) (hw : ah_Ct mi.1.cls idx mt_charAt 1) (hr : (rest.map fun v => v.category).sum ≤ 8) (k : AW G mi (dp + 4) 0 0 (pc + 3) lv (.int v :: rest) σ Q) : AW G mi (dp + 4) 0 0 pc lv (.int j :: .ref a :: rest) σ Q := by
  obtain ⟨h1, h2⟩ := op_if h
  obtain ⟨q, h3, h4⟩ := op_mp h2
  obtain ⟨h5, rfl⟩ := op_ix_in h3
  subst h4
  obtain ⟨i, hi, rfl⟩ : ∃ i, i < 3 ∧ a = 1000000 + i := ⟨a - 1000000, by omega, by omega⟩
  rw [show 1000000 + i - 1000000 = i by omega] at k h5
  refine aw_callT (mi' := mt_charAt) [.int j] hi rfl hd hw.1 hw.2.1 hw.2.2 rfl hr ((tt_charAt hi h5 σ).mono (by omega)) (fun v τ q => ?_)
  obtain ⟨rfl, rfl⟩ := q
  exact k
end
theorem tw_X8_36 : ah_Ct RX8 36 mt_length 0 := ⟨⟨ah_m1 213 (by decide +kernel), ah_m1 7 (by decide +kernel), ah_m1 216 (by decide +kernel), ⟨by decide, by decide⟩, by decide +kernel, by decide⟩, ah_m1 214 (by decide +kernel), ah_m1 215 (by decide +kernel)⟩
theorem tw_X8_42 : ah_Ct RX8 42 mt_charAt 1 := ⟨⟨ah_m1 223 (by decide +kernel), ah_m1 7 (by decide +kernel), ah_m1 226 (by decide +kernel), ⟨by decide, by decide⟩, by decide +kernel, by decide⟩, ah_m1 224 (by decide +kernel), ah_m1 225 (by decide +kernel)⟩
theorem tw_X12_197 : ah_Ct RX12 197 mt_length 0 := ⟨⟨ah_m7 220 (by decide +kernel), ah_m1 7 (by decide +kernel), ah_m1 216 (by decide +kernel), ⟨by decide, by decide⟩, by decide +kernel, by decide⟩, ah_m1 214 (by decide +kernel), ah_m1 215 (by decide +kernel)⟩
theorem tw_X12_201 : ah_Ct RX12 201 mt_charAt 1 := ⟨⟨ah_m7 221 (by decide +kernel), ah_m1 7 (by decide +kernel), ah_m1 226 (by decide +kernel), ⟨by decide, by decide⟩, by decide +kernel, by decide⟩, ah_m1 224 (by decide +kernel), ah_m1 225 (by decide +kernel)⟩
