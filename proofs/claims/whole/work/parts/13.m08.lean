def f_X12_init_0   (x0 : Nat) (σ : ah_H) : Option (ah_H) :=
  (op_nwA .int 700 σ).bind fun r1 => (op_pR 12 1 r1.2 x0 r1.1).bind fun σ2 => (op_nwA .int 24 σ2).bind fun r3 => (op_sI r3.2 r3.1 (0 : Int32) (0 : Int32)).bind fun σ4 => (op_sI σ4 r3.1 (1 : Int32) (0 : Int32)).bind fun σ5 => (op_sI σ5 r3.1 (2 : Int32) (0 : Int32)).bind fun σ6 => (op_sI σ6 r3.1 (3 : Int32) (0 : Int32)).bind fun σ7 => (op_sI σ7 r3.1 (4 : Int32) (-1 : Int32)).bind fun σ8 => (op_sI σ8 r3.1 (5 : Int32) (-1 : Int32)).bind fun σ9 => (op_sI σ9 r3.1 (6 : Int32) (1 : Int32)).bind fun σ10 => (op_sI σ10 r3.1 (7 : Int32) (9 : Int32)).bind fun σ11 => (op_sI σ11 r3.1 (8 : Int32) (2 : Int32)).bind fun σ12 => (op_sI σ12 r3.1 (9 : Int32) (8 : Int32)).bind fun σ13 => (op_sI σ13 r3.1 (10 : Int32) (1 : Int32)).bind fun σ14 => (op_sI σ14 r3.1 (11 : Int32) (0 : Int32)).bind fun σ15 => (op_sI σ15 r3.1 (12 : Int32) (0 : Int32)).bind fun σ16 => (op_sI σ16 r3.1 (13 : Int32) (0 : Int32)).bind fun σ17 => (op_sI σ17 r3.1 (14 : Int32) (0 : Int32)).bind fun σ18 => (op_sI σ18 r3.1 (15 : Int32) (0 : Int32)).bind fun σ19 => (op_sI σ19 r3.1 (16 : Int32) (-1 : Int32)).bind fun σ20 => (op_sI σ20 r3.1 (17 : Int32) (-1 : Int32)).bind fun σ21 => (op_sI σ21 r3.1 (18 : Int32) (1 : Int32)).bind fun σ22 => (op_sI σ22 r3.1 (19 : Int32) (9 : Int32)).bind fun σ23 => (op_sI σ23 r3.1 (20 : Int32) (2 : Int32)).bind fun σ24 => (op_sI σ24 r3.1 (21 : Int32) (8 : Int32)).bind fun σ25 => (op_sI σ25 r3.1 (22 : Int32) (1 : Int32)).bind fun σ26 => (op_sI σ26 r3.1 (23 : Int32) (0 : Int32)).bind fun σ27 => (op_pR 12 3 σ27 x0 r3.1).bind fun σ28 => (op_nwA .int 14 σ28).bind fun r29 => (op_pR 12 4 r29.2 x0 r29.1).bind fun σ30 => (op_nwA .int 14 σ30).bind fun r31 => (op_pR 12 5 r31.2 x0 r31.1).bind fun σ32 => (op_nwA .int 14 σ32).bind fun r33 => (op_pR 12 6 r33.2 x0 r33.1).bind fun σ34 => (op_nwA .int 14 σ34).bind fun r35 => (op_pR 12 7 r35.2 x0 r35.1).bind fun σ36 => (op_nwA .int 20 σ36).bind fun r37 => (op_pR 12 8 r37.2 x0 r37.1).bind fun σ38 => (op_nwA .int 20 σ38).bind fun r39 => (op_pR 12 9 r39.2 x0 r39.1).bind fun σ40 => (op_nwA .int 20 σ40).bind fun r41 => (op_pR 12 10 r41.2 x0 r41.1).bind fun σ42 => (op_nwA .int 20 σ42).bind fun r43 => (op_pR 12 11 r43.2 x0 r43.1).bind fun σ44 => (op_nwA .int 20 σ44).bind fun r45 => (op_pR 12 12 r45.2 x0 r45.1).bind fun σ46 => (op_nwA .int 8 σ46).bind fun r47 => (op_pR 12 13 r47.2 x0 r47.1).bind fun σ48 => (op_nwA .int 8 σ48).bind fun r49 => (op_pR 12 14 r49.2 x0 r49.1).bind fun σ50 => (op_nwA .int 8 σ50).bind fun r51 => (op_pR 12 15 r51.2 x0 r51.1).bind fun σ52 => (op_nwA .int 8 σ52).bind fun r53 => (op_pR 12 16 r53.2 x0 r53.1).bind fun σ54 => (op_nwA .int 48 σ54).bind fun r55 => (op_pR 12 17 r55.2 x0 r55.1).bind fun σ56 => (op_nwA .int 6 σ56).bind fun r57 => (op_pR 12 18 r57.2 x0 r57.1).bind fun σ58 => (op_nwA .int 6 σ58).bind fun r59 => (op_pR 12 19 r59.2 x0 r59.1).bind fun σ60 => (op_nwA .int 128 σ60).bind fun r61 => (op_pR 12 20 r61.2 x0 r61.1).bind fun σ62 => (op_nwA .int 128 σ62).bind fun r63 => (op_pR 12 21 r63.2 x0 r63.1).bind fun σ64 => (op_pI 12 32 σ64 x0 (-1 : Int32)).bind fun σ65 => (op_nwA .long 6 σ65).bind fun r66 => (op_pR 12 35 r66.2 x0 r66.1).bind fun σ67 => (op_nwA .long 64 σ67).bind fun r68 => (op_pR 12 36 r68.2 x0 r68.1).bind fun σ69 => (op_nwA .int 14 σ69).bind fun r70 => (op_sI r70.2 r70.1 (0 : Int32) (-1 : Int32)).bind fun σ71 => (op_sI σ71 r70.1 (1 : Int32) (-1 : Int32)).bind fun σ72 => (op_sI σ72 r70.1 (2 : Int32) (-1 : Int32)).bind fun σ73 => (op_sI σ73 r70.1 (3 : Int32) (-1 : Int32)).bind fun σ74 => (op_sI σ74 r70.1 (4 : Int32) (-1 : Int32)).bind fun σ75 => (op_sI σ75 r70.1 (5 : Int32) (-1 : Int32)).bind fun σ76 => (op_sI σ76 r70.1 (6 : Int32) (-1 : Int32)).bind fun σ77 => (op_sI σ77 r70.1 (7 : Int32) (-1 : Int32)).bind fun σ78 => (op_sI σ78 r70.1 (8 : Int32) (-1 : Int32)).bind fun σ79 => (op_sI σ79 r70.1 (9 : Int32) (-1 : Int32)).bind fun σ80 => (op_sI σ80 r70.1 (10 : Int32) (-1 : Int32)).bind fun σ81 => (op_sI σ81 r70.1 (11 : Int32) (-1 : Int32)).bind fun σ82 => (op_sI σ82 r70.1 (12 : Int32) (-1 : Int32)).bind fun σ83 => (op_sI σ83 r70.1 (13 : Int32) (-1 : Int32)).bind fun σ84 => (op_pR 12 38 σ84 x0 r70.1).bind fun σ85 => (op_nwA .int 14 σ85).bind fun r86 => (op_pR 12 39 r86.2 x0 r86.1).bind fun σ87 => (op_nwA .int 14 σ87).bind fun r88 => (op_pR 12 40 r88.2 x0 r88.1).bind fun σ89 => (op_nwA .int 14 σ89).bind fun r90 => (op_pR 12 41 r90.2 x0 r90.1).bind fun σ91 => (op_nwA .long 840 σ91).bind fun r92 => (op_pR 12 43 r92.2 x0 r92.1).bind fun σ93 => (op_nwA .long 840 σ93).bind fun r94 => (op_pR 12 44 r94.2 x0 r94.1).bind fun σ95 => (op_nwA .boolean 7 σ95).bind fun r96 => (op_pR 12 45 r96.2 x0 r96.1).bind fun σ97 => (op_nwA .int 140 σ97).bind fun r98 => (op_pR 12 48 r98.2 x0 r98.1).bind fun σ99 => (op_nwA .int 140 σ99).bind fun r100 => (op_pR 12 49 r100.2 x0 r100.1).bind fun σ101 => (op_nwA .int 140 σ101).bind fun r102 => (op_pR 12 50 r102.2 x0 r102.1).bind fun σ103 => (op_nwA .int 140 σ103).bind fun r104 => (op_pR 12 51 r104.2 x0 r104.1).bind fun σ105 => (op_nwA .int 7 σ105).bind fun r106 => (op_pR 12 53 r106.2 x0 r106.1).bind fun σ107 => (op_nwA .int 7 σ107).bind fun r108 => (op_pR 12 54 r108.2 x0 r108.1).bind fun σ109 => (op_nwA .int 7 σ109).bind fun r110 => (op_pR 12 55 r110.2 x0 r110.1).bind fun σ111 => (op_nwA .int 7 σ111).bind fun r112 => (op_pR 12 56 r112.2 x0 r112.1).bind fun σ113 => (op_nwA .int 7 σ113).bind fun r114 => (op_pR 12 58 r114.2 x0 r114.1).bind fun σ115 => (op_nwA .long 364 σ115).bind fun r116 => (op_pR 12 59 r116.2 x0 r116.1).bind fun σ117 => (op_nwA .long 7 σ117).bind fun r118 => (op_pR 12 60 r118.2 x0 r118.1).bind fun σ119 => (op_nwA .int 7 σ119).bind fun r120 => (op_pR 12 61 r120.2 x0 r120.1).bind fun σ121 => (op_nwA .int 7 σ121).bind fun r122 => (op_pR 12 62 r122.2 x0 r122.1).bind fun σ123 => (op_nwA .int 7 σ123).bind fun r124 => (op_pR 12 63 r124.2 x0 r124.1).bind fun σ125 => (op_nwA .int 7 σ125).bind fun r126 => (op_pR 12 66 r126.2 x0 r126.1).bind fun σ127 => (op_nwA .int 7 σ127).bind fun r128 => (op_pR 12 67 r128.2 x0 r128.1).bind fun σ129 => some σ129
def f_X12_init  (x0 : Nat) (σ : ah_H) : Option (ah_H) := op_ck 12 σ x0 (f_X12_init_0 x0 σ)
set_option maxRecDepth 100000 in
set_option maxHeartbeats 4000000 in
theorem c_X12_init_0 {G : ah_G} (hex : ah_ex G)   : ∀ (x0 : Nat) (σ : ah_H) (r : ah_H), f_X12_init_0   x0 σ = some r → AW G m_X12_init 1 45 4042 0 [(0, .ref x0)] [] σ (ah_N G (ah_rv r)) := by
  intro x0 σ r h
  unfold f_X12_init_0 at h
  refine aw_aload_n (pc := 0) 0 dX12_init_0 rfl ?_
  refine ow_oi (pc := 1) dX12_init_1 oi_X12_3 (Nat.le_of_ble_eq_true rfl) ?_
  refine aw_aload_n (pc := 4) 0 dX12_init_4 rfl ?_
  refine aw_sipush (pc := 5) (v := (700 : Int32)) dX12_init_5 (by decide) ?_
  obtain ⟨r1, e, h⟩ := op_bd h
  refine ow_nwA hex (pc := 8) (kc := 44) (ks := 3342) (N := 700) e dX12_init_8 rfl (by decide) (by decide) (by decide) ac_int (by decide) ⟨rfl, rfl⟩ ?_
  obtain ⟨σ2, e, h⟩ := op_bd h
  refine ow_pRF (pc := 10) e dX12_init_10 fd_X12_9 rfl rfl (fun C T N h => by cases h; rfl) ?_
  refine aw_aload_n (pc := 13) 0 dX12_init_13 rfl ?_
  refine aw_bipush (pc := 14) (v := (24 : Int32)) dX12_init_14 (by decide) ?_
  obtain ⟨r3, e, h⟩ := op_bd h
  refine ow_nwA hex (pc := 16) (kc := 43) (ks := 3318) (N := 24) e dX12_init_16 rfl (by decide) (by decide) (by decide) ac_int (by decide) ⟨rfl, rfl⟩ ?_
  refine aw_dup (pc := 18) dX12_init_18 rfl ?_
  refine aw_iconst (pc := 19) (v := (0 : Int32)) dX12_init_19 (by decide) ?_
  refine aw_iconst (pc := 20) (v := (0 : Int32)) dX12_init_20 (by decide) ?_
  obtain ⟨σ4, e, h⟩ := op_bd h
  refine ow_sI (pc := 21) e dX12_init_21 ?_
  refine aw_dup (pc := 22) dX12_init_22 rfl ?_
  refine aw_iconst (pc := 23) (v := (1 : Int32)) dX12_init_23 (by decide) ?_
  refine aw_iconst (pc := 24) (v := (0 : Int32)) dX12_init_24 (by decide) ?_
  obtain ⟨σ5, e, h⟩ := op_bd h
  refine ow_sI (pc := 25) e dX12_init_25 ?_
  refine aw_dup (pc := 26) dX12_init_26 rfl ?_
  refine aw_iconst (pc := 27) (v := (2 : Int32)) dX12_init_27 (by decide) ?_
  refine aw_iconst (pc := 28) (v := (0 : Int32)) dX12_init_28 (by decide) ?_
  obtain ⟨σ6, e, h⟩ := op_bd h
  refine ow_sI (pc := 29) e dX12_init_29 ?_
  refine aw_dup (pc := 30) dX12_init_30 rfl ?_
  refine aw_iconst (pc := 31) (v := (3 : Int32)) dX12_init_31 (by decide) ?_
  refine aw_iconst (pc := 32) (v := (0 : Int32)) dX12_init_32 (by decide) ?_
  obtain ⟨σ7, e, h⟩ := op_bd h
  refine ow_sI (pc := 33) e dX12_init_33 ?_
  refine aw_dup (pc := 34) dX12_init_34 rfl ?_
  refine aw_iconst (pc := 35) (v := (4 : Int32)) dX12_init_35 (by decide) ?_
  refine aw_iconst (pc := 36) (v := (-1 : Int32)) dX12_init_36 (by decide) ?_
  obtain ⟨σ8, e, h⟩ := op_bd h
  refine ow_sI (pc := 37) e dX12_init_37 ?_
  refine aw_dup (pc := 38) dX12_init_38 rfl ?_
  refine aw_iconst (pc := 39) (v := (5 : Int32)) dX12_init_39 (by decide) ?_
  refine aw_iconst (pc := 40) (v := (-1 : Int32)) dX12_init_40 (by decide) ?_
  obtain ⟨σ9, e, h⟩ := op_bd h
  refine ow_sI (pc := 41) e dX12_init_41 ?_
  refine aw_dup (pc := 42) dX12_init_42 rfl ?_
  refine aw_bipush (pc := 43) (v := (6 : Int32)) dX12_init_43 (by decide) ?_
  refine aw_iconst (pc := 45) (v := (1 : Int32)) dX12_init_45 (by decide) ?_
  obtain ⟨σ10, e, h⟩ := op_bd h
  refine ow_sI (pc := 46) e dX12_init_46 ?_
  refine aw_dup (pc := 47) dX12_init_47 rfl ?_
  refine aw_bipush (pc := 48) (v := (7 : Int32)) dX12_init_48 (by decide) ?_
  refine aw_bipush (pc := 50) (v := (9 : Int32)) dX12_init_50 (by decide) ?_
  obtain ⟨σ11, e, h⟩ := op_bd h
  refine ow_sI (pc := 52) e dX12_init_52 ?_
  refine aw_dup (pc := 53) dX12_init_53 rfl ?_
  refine aw_bipush (pc := 54) (v := (8 : Int32)) dX12_init_54 (by decide) ?_
  refine aw_iconst (pc := 56) (v := (2 : Int32)) dX12_init_56 (by decide) ?_
  obtain ⟨σ12, e, h⟩ := op_bd h
  refine ow_sI (pc := 57) e dX12_init_57 ?_
  refine aw_dup (pc := 58) dX12_init_58 rfl ?_
  refine aw_bipush (pc := 59) (v := (9 : Int32)) dX12_init_59 (by decide) ?_
  refine aw_bipush (pc := 61) (v := (8 : Int32)) dX12_init_61 (by decide) ?_
  obtain ⟨σ13, e, h⟩ := op_bd h
  refine ow_sI (pc := 63) e dX12_init_63 ?_
  refine aw_dup (pc := 64) dX12_init_64 rfl ?_
  refine aw_bipush (pc := 65) (v := (10 : Int32)) dX12_init_65 (by decide) ?_
  refine aw_iconst (pc := 67) (v := (1 : Int32)) dX12_init_67 (by decide) ?_
  obtain ⟨σ14, e, h⟩ := op_bd h
  refine ow_sI (pc := 68) e dX12_init_68 ?_
  refine aw_dup (pc := 69) dX12_init_69 rfl ?_
  refine aw_bipush (pc := 70) (v := (11 : Int32)) dX12_init_70 (by decide) ?_
  refine aw_iconst (pc := 72) (v := (0 : Int32)) dX12_init_72 (by decide) ?_
  obtain ⟨σ15, e, h⟩ := op_bd h
  refine ow_sI (pc := 73) e dX12_init_73 ?_
  refine aw_dup (pc := 74) dX12_init_74 rfl ?_
  refine aw_bipush (pc := 75) (v := (12 : Int32)) dX12_init_75 (by decide) ?_
  refine aw_iconst (pc := 77) (v := (0 : Int32)) dX12_init_77 (by decide) ?_
  obtain ⟨σ16, e, h⟩ := op_bd h
  refine ow_sI (pc := 78) e dX12_init_78 ?_
  refine aw_dup (pc := 79) dX12_init_79 rfl ?_
  refine aw_bipush (pc := 80) (v := (13 : Int32)) dX12_init_80 (by decide) ?_
  refine aw_iconst (pc := 82) (v := (0 : Int32)) dX12_init_82 (by decide) ?_
  obtain ⟨σ17, e, h⟩ := op_bd h
  refine ow_sI (pc := 83) e dX12_init_83 ?_
  refine aw_dup (pc := 84) dX12_init_84 rfl ?_
  refine aw_bipush (pc := 85) (v := (14 : Int32)) dX12_init_85 (by decide) ?_
  refine aw_iconst (pc := 87) (v := (0 : Int32)) dX12_init_87 (by decide) ?_
  obtain ⟨σ18, e, h⟩ := op_bd h
  refine ow_sI (pc := 88) e dX12_init_88 ?_
  refine aw_dup (pc := 89) dX12_init_89 rfl ?_
  refine aw_bipush (pc := 90) (v := (15 : Int32)) dX12_init_90 (by decide) ?_
  refine aw_iconst (pc := 92) (v := (0 : Int32)) dX12_init_92 (by decide) ?_
  obtain ⟨σ19, e, h⟩ := op_bd h
  refine ow_sI (pc := 93) e dX12_init_93 ?_
  refine aw_dup (pc := 94) dX12_init_94 rfl ?_
  refine aw_bipush (pc := 95) (v := (16 : Int32)) dX12_init_95 (by decide) ?_
  refine aw_iconst (pc := 97) (v := (-1 : Int32)) dX12_init_97 (by decide) ?_
  obtain ⟨σ20, e, h⟩ := op_bd h
  refine ow_sI (pc := 98) e dX12_init_98 ?_
  refine aw_dup (pc := 99) dX12_init_99 rfl ?_
  refine aw_bipush (pc := 100) (v := (17 : Int32)) dX12_init_100 (by decide) ?_
  refine aw_iconst (pc := 102) (v := (-1 : Int32)) dX12_init_102 (by decide) ?_
  obtain ⟨σ21, e, h⟩ := op_bd h
  refine ow_sI (pc := 103) e dX12_init_103 ?_
  refine aw_dup (pc := 104) dX12_init_104 rfl ?_
  refine aw_bipush (pc := 105) (v := (18 : Int32)) dX12_init_105 (by decide) ?_
  refine aw_iconst (pc := 107) (v := (1 : Int32)) dX12_init_107 (by decide) ?_
  obtain ⟨σ22, e, h⟩ := op_bd h
  refine ow_sI (pc := 108) e dX12_init_108 ?_
  refine aw_dup (pc := 109) dX12_init_109 rfl ?_
  refine aw_bipush (pc := 110) (v := (19 : Int32)) dX12_init_110 (by decide) ?_
  refine aw_bipush (pc := 112) (v := (9 : Int32)) dX12_init_112 (by decide) ?_
  obtain ⟨σ23, e, h⟩ := op_bd h
  refine ow_sI (pc := 114) e dX12_init_114 ?_
  refine aw_dup (pc := 115) dX12_init_115 rfl ?_
  refine aw_bipush (pc := 116) (v := (20 : Int32)) dX12_init_116 (by decide) ?_
  refine aw_iconst (pc := 118) (v := (2 : Int32)) dX12_init_118 (by decide) ?_
  obtain ⟨σ24, e, h⟩ := op_bd h
  refine ow_sI (pc := 119) e dX12_init_119 ?_
  refine aw_dup (pc := 120) dX12_init_120 rfl ?_
  refine aw_bipush (pc := 121) (v := (21 : Int32)) dX12_init_121 (by decide) ?_
  refine aw_bipush (pc := 123) (v := (8 : Int32)) dX12_init_123 (by decide) ?_
  obtain ⟨σ25, e, h⟩ := op_bd h
  refine ow_sI (pc := 125) e dX12_init_125 ?_
  refine aw_dup (pc := 126) dX12_init_126 rfl ?_
  refine aw_bipush (pc := 127) (v := (22 : Int32)) dX12_init_127 (by decide) ?_
  refine aw_iconst (pc := 129) (v := (1 : Int32)) dX12_init_129 (by decide) ?_
  obtain ⟨σ26, e, h⟩ := op_bd h
  refine ow_sI (pc := 130) e dX12_init_130 ?_
  refine aw_dup (pc := 131) dX12_init_131 rfl ?_
  refine aw_bipush (pc := 132) (v := (23 : Int32)) dX12_init_132 (by decide) ?_
  refine aw_iconst (pc := 134) (v := (0 : Int32)) dX12_init_134 (by decide) ?_
  obtain ⟨σ27, e, h⟩ := op_bd h
  refine ow_sI (pc := 135) e dX12_init_135 ?_
  obtain ⟨σ28, e, h⟩ := op_bd h
  refine ow_pRF (pc := 136) e dX12_init_136 fd_X12_15 rfl rfl (fun C T N h => by cases h; rfl) ?_
  refine aw_aload_n (pc := 139) 0 dX12_init_139 rfl ?_
  refine aw_bipush (pc := 140) (v := (14 : Int32)) dX12_init_140 (by decide) ?_
  obtain ⟨r29, e, h⟩ := op_bd h
  refine ow_nwA hex (pc := 142) (kc := 42) (ks := 3304) (N := 14) e dX12_init_142 rfl (by decide) (by decide) (by decide) ac_int (by decide) ⟨rfl, rfl⟩ ?_
  obtain ⟨σ30, e, h⟩ := op_bd h
  refine ow_pRF (pc := 144) e dX12_init_144 fd_X12_18 rfl rfl (fun C T N h => by cases h; rfl) ?_
  refine aw_aload_n (pc := 147) 0 dX12_init_147 rfl ?_
  refine aw_bipush (pc := 148) (v := (14 : Int32)) dX12_init_148 (by decide) ?_
  obtain ⟨r31, e, h⟩ := op_bd h
  refine ow_nwA hex (pc := 150) (kc := 41) (ks := 3290) (N := 14) e dX12_init_150 rfl (by decide) (by decide) (by decide) ac_int (by decide) ⟨rfl, rfl⟩ ?_
  obtain ⟨σ32, e, h⟩ := op_bd h
  refine ow_pRF (pc := 152) e dX12_init_152 fd_X12_21 rfl rfl (fun C T N h => by cases h; rfl) ?_
  refine aw_aload_n (pc := 155) 0 dX12_init_155 rfl ?_
  refine aw_bipush (pc := 156) (v := (14 : Int32)) dX12_init_156 (by decide) ?_
  obtain ⟨r33, e, h⟩ := op_bd h
  refine ow_nwA hex (pc := 158) (kc := 40) (ks := 3276) (N := 14) e dX12_init_158 rfl (by decide) (by decide) (by decide) ac_int (by decide) ⟨rfl, rfl⟩ ?_
  obtain ⟨σ34, e, h⟩ := op_bd h
  refine ow_pRF (pc := 160) e dX12_init_160 fd_X12_24 rfl rfl (fun C T N h => by cases h; rfl) ?_
  refine aw_aload_n (pc := 163) 0 dX12_init_163 rfl ?_
  refine aw_bipush (pc := 164) (v := (14 : Int32)) dX12_init_164 (by decide) ?_
  obtain ⟨r35, e, h⟩ := op_bd h
  refine ow_nwA hex (pc := 166) (kc := 39) (ks := 3262) (N := 14) e dX12_init_166 rfl (by decide) (by decide) (by decide) ac_int (by decide) ⟨rfl, rfl⟩ ?_
  obtain ⟨σ36, e, h⟩ := op_bd h
  refine ow_pRF (pc := 168) e dX12_init_168 fd_X12_27 rfl rfl (fun C T N h => by cases h; rfl) ?_
  refine aw_aload_n (pc := 171) 0 dX12_init_171 rfl ?_
  refine aw_bipush (pc := 172) (v := (20 : Int32)) dX12_init_172 (by decide) ?_
  obtain ⟨r37, e, h⟩ := op_bd h
  refine ow_nwA hex (pc := 174) (kc := 38) (ks := 3242) (N := 20) e dX12_init_174 rfl (by decide) (by decide) (by decide) ac_int (by decide) ⟨rfl, rfl⟩ ?_
  obtain ⟨σ38, e, h⟩ := op_bd h
  refine ow_pRF (pc := 176) e dX12_init_176 fd_X12_30 rfl rfl (fun C T N h => by cases h; rfl) ?_
  refine aw_aload_n (pc := 179) 0 dX12_init_179 rfl ?_
  refine aw_bipush (pc := 180) (v := (20 : Int32)) dX12_init_180 (by decide) ?_
  obtain ⟨r39, e, h⟩ := op_bd h
  refine ow_nwA hex (pc := 182) (kc := 37) (ks := 3222) (N := 20) e dX12_init_182 rfl (by decide) (by decide) (by decide) ac_int (by decide) ⟨rfl, rfl⟩ ?_
  obtain ⟨σ40, e, h⟩ := op_bd h
  refine ow_pRF (pc := 184) e dX12_init_184 fd_X12_33 rfl rfl (fun C T N h => by cases h; rfl) ?_
  refine aw_aload_n (pc := 187) 0 dX12_init_187 rfl ?_
  refine aw_bipush (pc := 188) (v := (20 : Int32)) dX12_init_188 (by decide) ?_
  obtain ⟨r41, e, h⟩ := op_bd h
  refine ow_nwA hex (pc := 190) (kc := 36) (ks := 3202) (N := 20) e dX12_init_190 rfl (by decide) (by decide) (by decide) ac_int (by decide) ⟨rfl, rfl⟩ ?_
  obtain ⟨σ42, e, h⟩ := op_bd h
  refine ow_pRF (pc := 192) e dX12_init_192 fd_X12_36 rfl rfl (fun C T N h => by cases h; rfl) ?_
  refine aw_aload_n (pc := 195) 0 dX12_init_195 rfl ?_
  refine aw_bipush (pc := 196) (v := (20 : Int32)) dX12_init_196 (by decide) ?_
  obtain ⟨r43, e, h⟩ := op_bd h
  refine ow_nwA hex (pc := 198) (kc := 35) (ks := 3182) (N := 20) e dX12_init_198 rfl (by decide) (by decide) (by decide) ac_int (by decide) ⟨rfl, rfl⟩ ?_
  obtain ⟨σ44, e, h⟩ := op_bd h
  refine ow_pRF (pc := 200) e dX12_init_200 fd_X12_39 rfl rfl (fun C T N h => by cases h; rfl) ?_
  refine aw_aload_n (pc := 203) 0 dX12_init_203 rfl ?_
  refine aw_bipush (pc := 204) (v := (20 : Int32)) dX12_init_204 (by decide) ?_
  obtain ⟨r45, e, h⟩ := op_bd h
  refine ow_nwA hex (pc := 206) (kc := 34) (ks := 3162) (N := 20) e dX12_init_206 rfl (by decide) (by decide) (by decide) ac_int (by decide) ⟨rfl, rfl⟩ ?_
  obtain ⟨σ46, e, h⟩ := op_bd h
  refine ow_pRF (pc := 208) e dX12_init_208 fd_X12_42 rfl rfl (fun C T N h => by cases h; rfl) ?_
  refine aw_aload_n (pc := 211) 0 dX12_init_211 rfl ?_
  refine aw_bipush (pc := 212) (v := (8 : Int32)) dX12_init_212 (by decide) ?_
  obtain ⟨r47, e, h⟩ := op_bd h
  refine ow_nwA hex (pc := 214) (kc := 33) (ks := 3154) (N := 8) e dX12_init_214 rfl (by decide) (by decide) (by decide) ac_int (by decide) ⟨rfl, rfl⟩ ?_
  obtain ⟨σ48, e, h⟩ := op_bd h
  refine ow_pRF (pc := 216) e dX12_init_216 fd_X12_45 rfl rfl (fun C T N h => by cases h; rfl) ?_
  refine aw_aload_n (pc := 219) 0 dX12_init_219 rfl ?_
  refine aw_bipush (pc := 220) (v := (8 : Int32)) dX12_init_220 (by decide) ?_
  obtain ⟨r49, e, h⟩ := op_bd h
  refine ow_nwA hex (pc := 222) (kc := 32) (ks := 3146) (N := 8) e dX12_init_222 rfl (by decide) (by decide) (by decide) ac_int (by decide) ⟨rfl, rfl⟩ ?_
  obtain ⟨σ50, e, h⟩ := op_bd h
  refine ow_pRF (pc := 224) e dX12_init_224 fd_X12_48 rfl rfl (fun C T N h => by cases h; rfl) ?_
  refine aw_aload_n (pc := 227) 0 dX12_init_227 rfl ?_
  refine aw_bipush (pc := 228) (v := (8 : Int32)) dX12_init_228 (by decide) ?_
  obtain ⟨r51, e, h⟩ := op_bd h
  refine ow_nwA hex (pc := 230) (kc := 31) (ks := 3138) (N := 8) e dX12_init_230 rfl (by decide) (by decide) (by decide) ac_int (by decide) ⟨rfl, rfl⟩ ?_
  obtain ⟨σ52, e, h⟩ := op_bd h
  refine ow_pRF (pc := 232) e dX12_init_232 fd_X12_51 rfl rfl (fun C T N h => by cases h; rfl) ?_
  refine aw_aload_n (pc := 235) 0 dX12_init_235 rfl ?_
  refine aw_bipush (pc := 236) (v := (8 : Int32)) dX12_init_236 (by decide) ?_
  obtain ⟨r53, e, h⟩ := op_bd h
  refine ow_nwA hex (pc := 238) (kc := 30) (ks := 3130) (N := 8) e dX12_init_238 rfl (by decide) (by decide) (by decide) ac_int (by decide) ⟨rfl, rfl⟩ ?_
  obtain ⟨σ54, e, h⟩ := op_bd h
  refine ow_pRF (pc := 240) e dX12_init_240 fd_X12_54 rfl rfl (fun C T N h => by cases h; rfl) ?_
  refine aw_aload_n (pc := 243) 0 dX12_init_243 rfl ?_
  refine aw_bipush (pc := 244) (v := (48 : Int32)) dX12_init_244 (by decide) ?_
  obtain ⟨r55, e, h⟩ := op_bd h
  refine ow_nwA hex (pc := 246) (kc := 29) (ks := 3082) (N := 48) e dX12_init_246 rfl (by decide) (by decide) (by decide) ac_int (by decide) ⟨rfl, rfl⟩ ?_
  obtain ⟨σ56, e, h⟩ := op_bd h
  refine ow_pRF (pc := 248) e dX12_init_248 fd_X12_57 rfl rfl (fun C T N h => by cases h; rfl) ?_
  refine aw_aload_n (pc := 251) 0 dX12_init_251 rfl ?_
  refine aw_bipush (pc := 252) (v := (6 : Int32)) dX12_init_252 (by decide) ?_
  obtain ⟨r57, e, h⟩ := op_bd h
  refine ow_nwA hex (pc := 254) (kc := 28) (ks := 3076) (N := 6) e dX12_init_254 rfl (by decide) (by decide) (by decide) ac_int (by decide) ⟨rfl, rfl⟩ ?_
  obtain ⟨σ58, e, h⟩ := op_bd h
  refine ow_pRF (pc := 256) e dX12_init_256 fd_X12_60 rfl rfl (fun C T N h => by cases h; rfl) ?_
  refine aw_aload_n (pc := 259) 0 dX12_init_259 rfl ?_
  refine aw_bipush (pc := 260) (v := (6 : Int32)) dX12_init_260 (by decide) ?_
  obtain ⟨r59, e, h⟩ := op_bd h
  refine ow_nwA hex (pc := 262) (kc := 27) (ks := 3070) (N := 6) e dX12_init_262 rfl (by decide) (by decide) (by decide) ac_int (by decide) ⟨rfl, rfl⟩ ?_
  obtain ⟨σ60, e, h⟩ := op_bd h
  refine ow_pRF (pc := 264) e dX12_init_264 fd_X12_63 rfl rfl (fun C T N h => by cases h; rfl) ?_
  refine aw_aload_n (pc := 267) 0 dX12_init_267 rfl ?_
  refine aw_sipush (pc := 268) (v := (128 : Int32)) dX12_init_268 (by decide) ?_
  obtain ⟨r61, e, h⟩ := op_bd h
  refine ow_nwA hex (pc := 271) (kc := 26) (ks := 2942) (N := 128) e dX12_init_271 rfl (by decide) (by decide) (by decide) ac_int (by decide) ⟨rfl, rfl⟩ ?_
  obtain ⟨σ62, e, h⟩ := op_bd h
  refine ow_pRF (pc := 273) e dX12_init_273 fd_X12_66 rfl rfl (fun C T N h => by cases h; rfl) ?_
  refine aw_aload_n (pc := 276) 0 dX12_init_276 rfl ?_
  refine aw_sipush (pc := 277) (v := (128 : Int32)) dX12_init_277 (by decide) ?_
  obtain ⟨r63, e, h⟩ := op_bd h
  refine ow_nwA hex (pc := 280) (kc := 25) (ks := 2814) (N := 128) e dX12_init_280 rfl (by decide) (by decide) (by decide) ac_int (by decide) ⟨rfl, rfl⟩ ?_
  obtain ⟨σ64, e, h⟩ := op_bd h
  refine ow_pRF (pc := 282) e dX12_init_282 fd_X12_69 rfl rfl (fun C T N h => by cases h; rfl) ?_
  refine aw_aload_n (pc := 285) 0 dX12_init_285 rfl ?_
  refine aw_iconst (pc := 286) (v := (-1 : Int32)) dX12_init_286 (by decide) ?_
  obtain ⟨σ65, e, h⟩ := op_bd h
  refine ow_pI (pc := 287) e dX12_init_287 fd_X12_72 ?_
  refine aw_aload_n (pc := 290) 0 dX12_init_290 rfl ?_
  refine aw_bipush (pc := 291) (v := (6 : Int32)) dX12_init_291 (by decide) ?_
  obtain ⟨r66, e, h⟩ := op_bd h
  refine ow_nwA hex (pc := 293) (kc := 24) (ks := 2808) (N := 6) e dX12_init_293 rfl (by decide) (by decide) (by decide) ac_long (by decide) ⟨rfl, rfl⟩ ?_
  obtain ⟨σ67, e, h⟩ := op_bd h
  refine ow_pRF (pc := 295) e dX12_init_295 fd_X12_76 rfl rfl (fun C T N h => by cases h; rfl) ?_
  refine aw_aload_n (pc := 298) 0 dX12_init_298 rfl ?_
  refine aw_bipush (pc := 299) (v := (64 : Int32)) dX12_init_299 (by decide) ?_
  obtain ⟨r68, e, h⟩ := op_bd h
  refine ow_nwA hex (pc := 301) (kc := 23) (ks := 2744) (N := 64) e dX12_init_301 rfl (by decide) (by decide) (by decide) ac_long (by decide) ⟨rfl, rfl⟩ ?_
  obtain ⟨σ69, e, h⟩ := op_bd h
  refine ow_pRF (pc := 303) e dX12_init_303 fd_X12_80 rfl rfl (fun C T N h => by cases h; rfl) ?_
  refine aw_aload_n (pc := 306) 0 dX12_init_306 rfl ?_
  refine aw_bipush (pc := 307) (v := (14 : Int32)) dX12_init_307 (by decide) ?_
  obtain ⟨r70, e, h⟩ := op_bd h
  refine ow_nwA hex (pc := 309) (kc := 22) (ks := 2730) (N := 14) e dX12_init_309 rfl (by decide) (by decide) (by decide) ac_int (by decide) ⟨rfl, rfl⟩ ?_
  refine aw_dup (pc := 311) dX12_init_311 rfl ?_
  refine aw_iconst (pc := 312) (v := (0 : Int32)) dX12_init_312 (by decide) ?_
  refine aw_iconst (pc := 313) (v := (-1 : Int32)) dX12_init_313 (by decide) ?_
  obtain ⟨σ71, e, h⟩ := op_bd h
  refine ow_sI (pc := 314) e dX12_init_314 ?_
  refine aw_dup (pc := 315) dX12_init_315 rfl ?_
  refine aw_iconst (pc := 316) (v := (1 : Int32)) dX12_init_316 (by decide) ?_
  refine aw_iconst (pc := 317) (v := (-1 : Int32)) dX12_init_317 (by decide) ?_
  obtain ⟨σ72, e, h⟩ := op_bd h
  refine ow_sI (pc := 318) e dX12_init_318 ?_
  refine aw_dup (pc := 319) dX12_init_319 rfl ?_
  refine aw_iconst (pc := 320) (v := (2 : Int32)) dX12_init_320 (by decide) ?_
  refine aw_iconst (pc := 321) (v := (-1 : Int32)) dX12_init_321 (by decide) ?_
  obtain ⟨σ73, e, h⟩ := op_bd h
  refine ow_sI (pc := 322) e dX12_init_322 ?_
  refine aw_dup (pc := 323) dX12_init_323 rfl ?_
  refine aw_iconst (pc := 324) (v := (3 : Int32)) dX12_init_324 (by decide) ?_
  refine aw_iconst (pc := 325) (v := (-1 : Int32)) dX12_init_325 (by decide) ?_
  obtain ⟨σ74, e, h⟩ := op_bd h
  refine ow_sI (pc := 326) e dX12_init_326 ?_
  refine aw_dup (pc := 327) dX12_init_327 rfl ?_
  refine aw_iconst (pc := 328) (v := (4 : Int32)) dX12_init_328 (by decide) ?_
  refine aw_iconst (pc := 329) (v := (-1 : Int32)) dX12_init_329 (by decide) ?_
  obtain ⟨σ75, e, h⟩ := op_bd h
  refine ow_sI (pc := 330) e dX12_init_330 ?_
  refine aw_dup (pc := 331) dX12_init_331 rfl ?_
  refine aw_iconst (pc := 332) (v := (5 : Int32)) dX12_init_332 (by decide) ?_
  refine aw_iconst (pc := 333) (v := (-1 : Int32)) dX12_init_333 (by decide) ?_
  obtain ⟨σ76, e, h⟩ := op_bd h
  refine ow_sI (pc := 334) e dX12_init_334 ?_
  refine aw_dup (pc := 335) dX12_init_335 rfl ?_
  refine aw_bipush (pc := 336) (v := (6 : Int32)) dX12_init_336 (by decide) ?_
  refine aw_iconst (pc := 338) (v := (-1 : Int32)) dX12_init_338 (by decide) ?_
  obtain ⟨σ77, e, h⟩ := op_bd h
  refine ow_sI (pc := 339) e dX12_init_339 ?_
  refine aw_dup (pc := 340) dX12_init_340 rfl ?_
  refine aw_bipush (pc := 341) (v := (7 : Int32)) dX12_init_341 (by decide) ?_
  refine aw_iconst (pc := 343) (v := (-1 : Int32)) dX12_init_343 (by decide) ?_
  obtain ⟨σ78, e, h⟩ := op_bd h
  refine ow_sI (pc := 344) e dX12_init_344 ?_
  refine aw_dup (pc := 345) dX12_init_345 rfl ?_
  refine aw_bipush (pc := 346) (v := (8 : Int32)) dX12_init_346 (by decide) ?_
  refine aw_iconst (pc := 348) (v := (-1 : Int32)) dX12_init_348 (by decide) ?_
  obtain ⟨σ79, e, h⟩ := op_bd h
  refine ow_sI (pc := 349) e dX12_init_349 ?_
  refine aw_dup (pc := 350) dX12_init_350 rfl ?_
  refine aw_bipush (pc := 351) (v := (9 : Int32)) dX12_init_351 (by decide) ?_
  refine aw_iconst (pc := 353) (v := (-1 : Int32)) dX12_init_353 (by decide) ?_
  obtain ⟨σ80, e, h⟩ := op_bd h
  refine ow_sI (pc := 354) e dX12_init_354 ?_
  refine aw_dup (pc := 355) dX12_init_355 rfl ?_
  refine aw_bipush (pc := 356) (v := (10 : Int32)) dX12_init_356 (by decide) ?_
  refine aw_iconst (pc := 358) (v := (-1 : Int32)) dX12_init_358 (by decide) ?_
  obtain ⟨σ81, e, h⟩ := op_bd h
  refine ow_sI (pc := 359) e dX12_init_359 ?_
  refine aw_dup (pc := 360) dX12_init_360 rfl ?_
  refine aw_bipush (pc := 361) (v := (11 : Int32)) dX12_init_361 (by decide) ?_
  refine aw_iconst (pc := 363) (v := (-1 : Int32)) dX12_init_363 (by decide) ?_
  obtain ⟨σ82, e, h⟩ := op_bd h
  refine ow_sI (pc := 364) e dX12_init_364 ?_
  refine aw_dup (pc := 365) dX12_init_365 rfl ?_
  refine aw_bipush (pc := 366) (v := (12 : Int32)) dX12_init_366 (by decide) ?_
  refine aw_iconst (pc := 368) (v := (-1 : Int32)) dX12_init_368 (by decide) ?_
  obtain ⟨σ83, e, h⟩ := op_bd h
  refine ow_sI (pc := 369) e dX12_init_369 ?_
  refine aw_dup (pc := 370) dX12_init_370 rfl ?_
  refine aw_bipush (pc := 371) (v := (13 : Int32)) dX12_init_371 (by decide) ?_
  refine aw_iconst (pc := 373) (v := (-1 : Int32)) dX12_init_373 (by decide) ?_
  obtain ⟨σ84, e, h⟩ := op_bd h
  refine ow_sI (pc := 374) e dX12_init_374 ?_
  obtain ⟨σ85, e, h⟩ := op_bd h
  refine ow_pRF (pc := 375) e dX12_init_375 fd_X12_83 rfl rfl (fun C T N h => by cases h; rfl) ?_
  refine aw_aload_n (pc := 378) 0 dX12_init_378 rfl ?_
  refine aw_bipush (pc := 379) (v := (14 : Int32)) dX12_init_379 (by decide) ?_
  obtain ⟨r86, e, h⟩ := op_bd h
  refine ow_nwA hex (pc := 381) (kc := 21) (ks := 2716) (N := 14) e dX12_init_381 rfl (by decide) (by decide) (by decide) ac_int (by decide) ⟨rfl, rfl⟩ ?_
  obtain ⟨σ87, e, h⟩ := op_bd h
  refine ow_pRF (pc := 383) e dX12_init_383 fd_X12_86 rfl rfl (fun C T N h => by cases h; rfl) ?_
  refine aw_aload_n (pc := 386) 0 dX12_init_386 rfl ?_
  refine aw_bipush (pc := 387) (v := (14 : Int32)) dX12_init_387 (by decide) ?_
  obtain ⟨r88, e, h⟩ := op_bd h
  refine ow_nwA hex (pc := 389) (kc := 20) (ks := 2702) (N := 14) e dX12_init_389 rfl (by decide) (by decide) (by decide) ac_int (by decide) ⟨rfl, rfl⟩ ?_
  obtain ⟨σ89, e, h⟩ := op_bd h
  refine ow_pRF (pc := 391) e dX12_init_391 fd_X12_89 rfl rfl (fun C T N h => by cases h; rfl) ?_
  refine aw_aload_n (pc := 394) 0 dX12_init_394 rfl ?_
  refine aw_bipush (pc := 395) (v := (14 : Int32)) dX12_init_395 (by decide) ?_
  obtain ⟨r90, e, h⟩ := op_bd h
  refine ow_nwA hex (pc := 397) (kc := 19) (ks := 2688) (N := 14) e dX12_init_397 rfl (by decide) (by decide) (by decide) ac_int (by decide) ⟨rfl, rfl⟩ ?_
  obtain ⟨σ91, e, h⟩ := op_bd h
  refine ow_pRF (pc := 399) e dX12_init_399 fd_X12_92 rfl rfl (fun C T N h => by cases h; rfl) ?_
  refine aw_aload_n (pc := 402) 0 dX12_init_402 rfl ?_
  refine aw_sipush (pc := 403) (v := (840 : Int32)) dX12_init_403 (by decide) ?_
  obtain ⟨r92, e, h⟩ := op_bd h
  refine ow_nwA hex (pc := 406) (kc := 18) (ks := 1848) (N := 840) e dX12_init_406 rfl (by decide) (by decide) (by decide) ac_long (by decide) ⟨rfl, rfl⟩ ?_
  obtain ⟨σ93, e, h⟩ := op_bd h
  refine ow_pRF (pc := 408) e dX12_init_408 fd_X12_95 rfl rfl (fun C T N h => by cases h; rfl) ?_
  refine aw_aload_n (pc := 411) 0 dX12_init_411 rfl ?_
  refine aw_sipush (pc := 412) (v := (840 : Int32)) dX12_init_412 (by decide) ?_
  obtain ⟨r94, e, h⟩ := op_bd h
  refine ow_nwA hex (pc := 415) (kc := 17) (ks := 1008) (N := 840) e dX12_init_415 rfl (by decide) (by decide) (by decide) ac_long (by decide) ⟨rfl, rfl⟩ ?_
  obtain ⟨σ95, e, h⟩ := op_bd h
  refine ow_pRF (pc := 417) e dX12_init_417 fd_X12_98 rfl rfl (fun C T N h => by cases h; rfl) ?_
  refine aw_aload_n (pc := 420) 0 dX12_init_420 rfl ?_
  refine aw_bipush (pc := 421) (v := (7 : Int32)) dX12_init_421 (by decide) ?_
  obtain ⟨r96, e, h⟩ := op_bd h
  refine ow_nwA hex (pc := 423) (kc := 16) (ks := 1001) (N := 7) e dX12_init_423 rfl (by decide) (by decide) (by decide) ac_boolean (by decide) ⟨rfl, rfl⟩ ?_
  obtain ⟨σ97, e, h⟩ := op_bd h
  refine ow_pRF (pc := 425) e dX12_init_425 fd_X12_101 rfl rfl (fun C T N h => by cases h; rfl) ?_
  refine aw_aload_n (pc := 428) 0 dX12_init_428 rfl ?_
  refine aw_sipush (pc := 429) (v := (140 : Int32)) dX12_init_429 (by decide) ?_
  obtain ⟨r98, e, h⟩ := op_bd h
  refine ow_nwA hex (pc := 432) (kc := 15) (ks := 861) (N := 140) e dX12_init_432 rfl (by decide) (by decide) (by decide) ac_int (by decide) ⟨rfl, rfl⟩ ?_
  obtain ⟨σ99, e, h⟩ := op_bd h
  refine ow_pRF (pc := 434) e dX12_init_434 fd_X12_105 rfl rfl (fun C T N h => by cases h; rfl) ?_
  refine aw_aload_n (pc := 437) 0 dX12_init_437 rfl ?_
  refine aw_sipush (pc := 438) (v := (140 : Int32)) dX12_init_438 (by decide) ?_
  obtain ⟨r100, e, h⟩ := op_bd h
  refine ow_nwA hex (pc := 441) (kc := 14) (ks := 721) (N := 140) e dX12_init_441 rfl (by decide) (by decide) (by decide) ac_int (by decide) ⟨rfl, rfl⟩ ?_
  obtain ⟨σ101, e, h⟩ := op_bd h
  refine ow_pRF (pc := 443) e dX12_init_443 fd_X12_108 rfl rfl (fun C T N h => by cases h; rfl) ?_
  refine aw_aload_n (pc := 446) 0 dX12_init_446 rfl ?_
  refine aw_sipush (pc := 447) (v := (140 : Int32)) dX12_init_447 (by decide) ?_
  obtain ⟨r102, e, h⟩ := op_bd h
  refine ow_nwA hex (pc := 450) (kc := 13) (ks := 581) (N := 140) e dX12_init_450 rfl (by decide) (by decide) (by decide) ac_int (by decide) ⟨rfl, rfl⟩ ?_
  obtain ⟨σ103, e, h⟩ := op_bd h
  refine ow_pRF (pc := 452) e dX12_init_452 fd_X12_111 rfl rfl (fun C T N h => by cases h; rfl) ?_
  refine aw_aload_n (pc := 455) 0 dX12_init_455 rfl ?_
  refine aw_sipush (pc := 456) (v := (140 : Int32)) dX12_init_456 (by decide) ?_
  obtain ⟨r104, e, h⟩ := op_bd h
  refine ow_nwA hex (pc := 459) (kc := 12) (ks := 441) (N := 140) e dX12_init_459 rfl (by decide) (by decide) (by decide) ac_int (by decide) ⟨rfl, rfl⟩ ?_
  obtain ⟨σ105, e, h⟩ := op_bd h
  refine ow_pRF (pc := 461) e dX12_init_461 fd_X12_114 rfl rfl (fun C T N h => by cases h; rfl) ?_
  refine aw_aload_n (pc := 464) 0 dX12_init_464 rfl ?_
  refine aw_bipush (pc := 465) (v := (7 : Int32)) dX12_init_465 (by decide) ?_
  obtain ⟨r106, e, h⟩ := op_bd h
  refine ow_nwA hex (pc := 467) (kc := 11) (ks := 434) (N := 7) e dX12_init_467 rfl (by decide) (by decide) (by decide) ac_int (by decide) ⟨rfl, rfl⟩ ?_
  obtain ⟨σ107, e, h⟩ := op_bd h
  refine ow_pRF (pc := 469) e dX12_init_469 fd_X12_117 rfl rfl (fun C T N h => by cases h; rfl) ?_
  refine aw_aload_n (pc := 472) 0 dX12_init_472 rfl ?_
  refine aw_bipush (pc := 473) (v := (7 : Int32)) dX12_init_473 (by decide) ?_
  obtain ⟨r108, e, h⟩ := op_bd h
  refine ow_nwA hex (pc := 475) (kc := 10) (ks := 427) (N := 7) e dX12_init_475 rfl (by decide) (by decide) (by decide) ac_int (by decide) ⟨rfl, rfl⟩ ?_
  obtain ⟨σ109, e, h⟩ := op_bd h
  refine ow_pRF (pc := 477) e dX12_init_477 fd_X12_120 rfl rfl (fun C T N h => by cases h; rfl) ?_
  refine aw_aload_n (pc := 480) 0 dX12_init_480 rfl ?_
  refine aw_bipush (pc := 481) (v := (7 : Int32)) dX12_init_481 (by decide) ?_
  obtain ⟨r110, e, h⟩ := op_bd h
  refine ow_nwA hex (pc := 483) (kc := 9) (ks := 420) (N := 7) e dX12_init_483 rfl (by decide) (by decide) (by decide) ac_int (by decide) ⟨rfl, rfl⟩ ?_
  obtain ⟨σ111, e, h⟩ := op_bd h
  refine ow_pRF (pc := 485) e dX12_init_485 fd_X12_123 rfl rfl (fun C T N h => by cases h; rfl) ?_
  refine aw_aload_n (pc := 488) 0 dX12_init_488 rfl ?_
  refine aw_bipush (pc := 489) (v := (7 : Int32)) dX12_init_489 (by decide) ?_
  obtain ⟨r112, e, h⟩ := op_bd h
  refine ow_nwA hex (pc := 491) (kc := 8) (ks := 413) (N := 7) e dX12_init_491 rfl (by decide) (by decide) (by decide) ac_int (by decide) ⟨rfl, rfl⟩ ?_
  obtain ⟨σ113, e, h⟩ := op_bd h
  refine ow_pRF (pc := 493) e dX12_init_493 fd_X12_126 rfl rfl (fun C T N h => by cases h; rfl) ?_
  refine aw_aload_n (pc := 496) 0 dX12_init_496 rfl ?_
  refine aw_bipush (pc := 497) (v := (7 : Int32)) dX12_init_497 (by decide) ?_
  obtain ⟨r114, e, h⟩ := op_bd h
  refine ow_nwA hex (pc := 499) (kc := 7) (ks := 406) (N := 7) e dX12_init_499 rfl (by decide) (by decide) (by decide) ac_int (by decide) ⟨rfl, rfl⟩ ?_
  obtain ⟨σ115, e, h⟩ := op_bd h
  refine ow_pRF (pc := 501) e dX12_init_501 fd_X12_129 rfl rfl (fun C T N h => by cases h; rfl) ?_
  refine aw_aload_n (pc := 504) 0 dX12_init_504 rfl ?_
  refine aw_sipush (pc := 505) (v := (364 : Int32)) dX12_init_505 (by decide) ?_
  obtain ⟨r116, e, h⟩ := op_bd h
  refine ow_nwA hex (pc := 508) (kc := 6) (ks := 42) (N := 364) e dX12_init_508 rfl (by decide) (by decide) (by decide) ac_long (by decide) ⟨rfl, rfl⟩ ?_
  obtain ⟨σ117, e, h⟩ := op_bd h
  refine ow_pRF (pc := 510) e dX12_init_510 fd_X12_132 rfl rfl (fun C T N h => by cases h; rfl) ?_
  refine aw_aload_n (pc := 513) 0 dX12_init_513 rfl ?_
  refine aw_bipush (pc := 514) (v := (7 : Int32)) dX12_init_514 (by decide) ?_
  obtain ⟨r118, e, h⟩ := op_bd h
  refine ow_nwA hex (pc := 516) (kc := 5) (ks := 35) (N := 7) e dX12_init_516 rfl (by decide) (by decide) (by decide) ac_long (by decide) ⟨rfl, rfl⟩ ?_
  obtain ⟨σ119, e, h⟩ := op_bd h
  refine ow_pRF (pc := 518) e dX12_init_518 fd_X12_135 rfl rfl (fun C T N h => by cases h; rfl) ?_
  refine aw_aload_n (pc := 521) 0 dX12_init_521 rfl ?_
  refine aw_bipush (pc := 522) (v := (7 : Int32)) dX12_init_522 (by decide) ?_
  obtain ⟨r120, e, h⟩ := op_bd h
  refine ow_nwA hex (pc := 524) (kc := 4) (ks := 28) (N := 7) e dX12_init_524 rfl (by decide) (by decide) (by decide) ac_int (by decide) ⟨rfl, rfl⟩ ?_
  obtain ⟨σ121, e, h⟩ := op_bd h
  refine ow_pRF (pc := 526) e dX12_init_526 fd_X12_138 rfl rfl (fun C T N h => by cases h; rfl) ?_
  refine aw_aload_n (pc := 529) 0 dX12_init_529 rfl ?_
  refine aw_bipush (pc := 530) (v := (7 : Int32)) dX12_init_530 (by decide) ?_
  obtain ⟨r122, e, h⟩ := op_bd h
  refine ow_nwA hex (pc := 532) (kc := 3) (ks := 21) (N := 7) e dX12_init_532 rfl (by decide) (by decide) (by decide) ac_int (by decide) ⟨rfl, rfl⟩ ?_
  obtain ⟨σ123, e, h⟩ := op_bd h
  refine ow_pRF (pc := 534) e dX12_init_534 fd_X12_141 rfl rfl (fun C T N h => by cases h; rfl) ?_
  refine aw_aload_n (pc := 537) 0 dX12_init_537 rfl ?_
  refine aw_bipush (pc := 538) (v := (7 : Int32)) dX12_init_538 (by decide) ?_
  obtain ⟨r124, e, h⟩ := op_bd h
  refine ow_nwA hex (pc := 540) (kc := 2) (ks := 14) (N := 7) e dX12_init_540 rfl (by decide) (by decide) (by decide) ac_int (by decide) ⟨rfl, rfl⟩ ?_
  obtain ⟨σ125, e, h⟩ := op_bd h
  refine ow_pRF (pc := 542) e dX12_init_542 fd_X12_144 rfl rfl (fun C T N h => by cases h; rfl) ?_
  refine aw_aload_n (pc := 545) 0 dX12_init_545 rfl ?_
  refine aw_bipush (pc := 546) (v := (7 : Int32)) dX12_init_546 (by decide) ?_
  obtain ⟨r126, e, h⟩ := op_bd h
  refine ow_nwA hex (pc := 548) (kc := 1) (ks := 7) (N := 7) e dX12_init_548 rfl (by decide) (by decide) (by decide) ac_int (by decide) ⟨rfl, rfl⟩ ?_
  obtain ⟨σ127, e, h⟩ := op_bd h
  refine ow_pRF (pc := 550) e dX12_init_550 fd_X12_147 rfl rfl (fun C T N h => by cases h; rfl) ?_
  refine aw_aload_n (pc := 553) 0 dX12_init_553 rfl ?_
  refine aw_bipush (pc := 554) (v := (7 : Int32)) dX12_init_554 (by decide) ?_
  obtain ⟨r128, e, h⟩ := op_bd h
  refine ow_nwA hex (pc := 556) (kc := 0) (ks := 0) (N := 7) e dX12_init_556 rfl (by decide) (by decide) (by decide) ac_int (by decide) ⟨rfl, rfl⟩ ?_
  obtain ⟨σ129, e, h⟩ := op_bd h
  refine ow_pRF (pc := 558) e dX12_init_558 fd_X12_150 rfl rfl (fun C T N h => by cases h; rfl) ?_
  exact ow_vret (pc := 561) h dX12_init_561 rfl
theorem c_X12_init {G : ah_G} (hex : ah_ex G)   (x0 : Nat) (σ : ah_H) (r : ah_H) (h : f_X12_init  x0 σ = some r) : AM G m_X12_init 1 45 4042 [.ref x0] σ (ah_rv r) := aw_enter (by decide) (Nat.le_of_ble_eq_true rfl) (c_X12_init_0 hex _ _ _ (op_ck_k h))
def f_X12_thrown_0   (x0 : Nat) (σ : ah_H) : Option (Int32 × ah_H) :=
  (op_gI 12 0 σ x0).bind fun v1 => some (v1, σ)
def f_X12_thrown  (x0 : Nat) (σ : ah_H) : Option (Int32 × ah_H) := op_ck 12 σ x0 (f_X12_thrown_0 x0 σ)
set_option maxRecDepth 100000 in
set_option maxHeartbeats 4000000 in
theorem c_X12_thrown_0 {G : ah_G}   : ∀ (x0 : Nat) (σ : ah_H) (r : Int32 × ah_H), f_X12_thrown_0   x0 σ = some r → AW G m_X12_thrown 0 0 0 0 [(0, .ref x0)] [] σ (ah_N G (ah_ri r)) := by
  intro x0 σ r h
  unfold f_X12_thrown_0 at h
  refine aw_aload_n (pc := 0) 0 dX12_thrown_0 rfl ?_
  obtain ⟨v1, e, h⟩ := op_bd h
  refine ow_gI (pc := 1) e dX12_thrown_1 fd_X12_153 rfl ?_
  exact ow_iret (pc := 4) h dX12_thrown_4 rfl
theorem c_X12_thrown {G : ah_G}   (x0 : Nat) (σ : ah_H) (r : Int32 × ah_H) (h : f_X12_thrown  x0 σ = some r) : AM G m_X12_thrown 0 0 0 [.ref x0] σ (ah_ri r) := aw_enter (by decide) (Nat.le_of_ble_eq_true rfl) (c_X12_thrown_0 _ _ _ (op_ck_k h))
def f_X12_feed_73  (K20 : Nat → Int32 → Int32 → Int32 → Int32 → Int32 → Int32 → ah_H → Option (Int32 × ah_H)) (x0 : Nat) (x1 : Int32) (x2 : Int32) (x3 : Int32) (x4 : Int32) (x5 : Int32) (x6 : Int32) (s0 : Int32) (σ : ah_H) : Option (Int32 × ah_H) :=
  (op_gR 12 1 σ x0).bind fun v1 => (op_gI 12 2 σ x0).bind fun v2 => (op_rem x6 (4 : Int32)).bind fun v3 => (op_sI σ v1 (v2 + x6) ((s0 >>> (((24 : Int32) - ((8 : Int32) * v3)) &&& 31)) &&& (255 : Int32))).bind fun σ4 => K20 x0 x1 x2 x3 x4 x5 (x6 + (1 : Int32)) σ4
def f_X12_feed_110   (x0 : Nat) (σ : ah_H) : Option (Int32 × ah_H) :=
  (op_gI 12 2 σ x0).bind fun v1 => (op_pI 12 2 σ x0 (v1 + (20 : Int32))).bind fun σ2 => (op_gI 12 2 σ2 x0).bind fun v3 => some (v3, σ2)
def f_X12_feed_20_b  (K20 : Nat → Int32 → Int32 → Int32 → Int32 → Int32 → Int32 → ah_H → Option (Int32 × ah_H)) (x0 : Nat) (x1 : Int32) (x2 : Int32) (x3 : Int32) (x4 : Int32) (x5 : Int32) (x6 : Int32) (σ : ah_H) : Option (Int32 × ah_H) :=
  if (20 : Int32) ≤ x6 then (f_X12_feed_110 x0 σ) else (if (4 : Int32) ≤ x6 then (if (8 : Int32) ≤ x6 then (if (12 : Int32) ≤ x6 then (if (16 : Int32) ≤ x6 then (f_X12_feed_73 K20 x0 x1 x2 x3 x4 x5 x6 x5 σ) else (f_X12_feed_73 K20 x0 x1 x2 x3 x4 x5 x6 x4 σ)) else (f_X12_feed_73 K20 x0 x1 x2 x3 x4 x5 x6 x3 σ)) else (f_X12_feed_73 K20 x0 x1 x2 x3 x4 x5 x6 x2 σ)) else (f_X12_feed_73 K20 x0 x1 x2 x3 x4 x5 x6 x1 σ))
def f_X12_feed_20   : Nat → Nat → Int32 → Int32 → Int32 → Int32 → Int32 → Int32 → ah_H → Option (Int32 × ah_H)
  | 0, _, _, _, _, _, _, _, _ => none
  | n + 1, x0, x1, x2, x3, x4, x5, x6, σ => f_X12_feed_20_b (f_X12_feed_20 n) x0 x1 x2 x3 x4 x5 x6 σ
def f_X12_feed_0   (x0 : Nat) (x1 : Int32) (x2 : Int32) (x3 : Int32) (x4 : Int32) (x5 : Int32) (σ : ah_H) : Option (Int32 × ah_H) :=
  (op_pI 12 0 σ x0 (0 : Int32)).bind fun σ1 => (op_gI 12 2 σ1 x0).bind fun v2 => if v2 ≤ (680 : Int32) then (f_X12_feed_20 5000 x0 x1 x2 x3 x4 x5 (0 : Int32) σ1) else (some ((-1 : Int32), σ1))
def f_X12_feed  (x0 : Nat) (x1 : Int32) (x2 : Int32) (x3 : Int32) (x4 : Int32) (x5 : Int32) (σ : ah_H) : Option (Int32 × ah_H) := op_ck 12 σ x0 (f_X12_feed_0 x0 x1 x2 x3 x4 x5 σ)
set_option maxRecDepth 100000 in
set_option maxHeartbeats 4000000 in
theorem c_X12_feed_73 {G : ah_G}  (K20 : Nat → Int32 → Int32 → Int32 → Int32 → Int32 → Int32 → ah_H → Option (Int32 × ah_H)) (hK20 : ∀ (x0 : Nat) (x1 : Int32) (x2 : Int32) (x3 : Int32) (x4 : Int32) (x5 : Int32) (x6 : Int32) (σ : ah_H) (r : Int32 × ah_H), K20 x0 x1 x2 x3 x4 x5 x6 σ = some r → AW G m_X12_feed 0 0 0 20 [(0, .ref x0), (1, .int x1), (2, .int x2), (3, .int x3), (4, .int x4), (5, .int x5), (6, .int x6)] [] σ (ah_N G (ah_ri r))) : ∀ (x0 : Nat) (x1 : Int32) (x2 : Int32) (x3 : Int32) (x4 : Int32) (x5 : Int32) (x6 : Int32) (s0 : Int32) (σ : ah_H) (r : Int32 × ah_H), f_X12_feed_73  K20 x0 x1 x2 x3 x4 x5 x6 s0 σ = some r → AW G m_X12_feed 0 0 0 73 [(0, .ref x0), (1, .int x1), (2, .int x2), (3, .int x3), (4, .int x4), (5, .int x5), (6, .int x6)] [.int s0] σ (ah_N G (ah_ri r)) := by
  intro x0 x1 x2 x3 x4 x5 x6 s0 σ r h
  unfold f_X12_feed_73 at h
  refine aw_istore (pc := 73) [(7, .int s0), (0, .ref x0), (1, .int x1), (2, .int x2), (3, .int x3), (4, .int x4), (5, .int x5), (6, .int x6)] dX12_feed_73 (by decide) rfl ?_
  refine aw_aload_n (pc := 75) 1 dX12_feed_75 rfl ?_
  obtain ⟨v1, e, h⟩ := op_bd h
  refine ow_gR (pc := 76) e dX12_feed_76 fd_X12_9 rfl ?_
  refine aw_aload_n (pc := 79) 1 dX12_feed_79 rfl ?_
  obtain ⟨v2, e, h⟩ := op_bd h
  refine ow_gI (pc := 80) e dX12_feed_80 fd_X12_156 rfl ?_
  refine aw_iload (pc := 83) 7 dX12_feed_83 rfl ?_
  refine aw_iadd (pc := 85) dX12_feed_85 ?_
  refine aw_iload (pc := 86) 0 dX12_feed_86 rfl ?_
  refine aw_bipush (pc := 88) (v := (24 : Int32)) dX12_feed_88 (by decide) ?_
  refine aw_bipush (pc := 90) (v := (8 : Int32)) dX12_feed_90 (by decide) ?_
  refine aw_iload (pc := 92) 7 dX12_feed_92 rfl ?_
  refine aw_iconst (pc := 94) (v := (4 : Int32)) dX12_feed_94 (by decide) ?_
  obtain ⟨v3, e, h⟩ := op_bd h
  refine ow_rem (pc := 95) e dX12_feed_95 ?_
  refine aw_imul (pc := 96) dX12_feed_96 ?_
  refine aw_isub (pc := 97) dX12_feed_97 ?_
  refine aw_ishr (pc := 98) dX12_feed_98 ?_
  refine aw_sipush (pc := 99) (v := (255 : Int32)) dX12_feed_99 (by decide) ?_
  refine aw_iand (pc := 102) dX12_feed_102 ?_
  obtain ⟨σ4, e, h⟩ := op_bd h
  refine ow_sI (pc := 103) e dX12_feed_103 ?_
  refine aw_iinc (pc := 104) 7 [(6, .int (x6 + (1 : Int32))), (7, .int s0), (0, .ref x0), (1, .int x1), (2, .int x2), (3, .int x3), (4, .int x4), (5, .int x5)] (x6 + (1 : Int32)) dX12_feed_104 rfl rfl (by decide) rfl ?_
  refine aw_goto (pc := 107) 20 dX12_feed_107 (by decide) ?_
  refine aw_sub [2, 3, 4, 5, 6, 7, 0] rfl ?_
  exact hK20 _ _ _ _ _ _ _ _ _ h
set_option maxRecDepth 100000 in
set_option maxHeartbeats 4000000 in
theorem c_X12_feed_110 {G : ah_G}   : ∀ (x0 : Nat) (σ : ah_H) (r : Int32 × ah_H), f_X12_feed_110   x0 σ = some r → AW G m_X12_feed 0 0 0 110 [(0, .ref x0)] [] σ (ah_N G (ah_ri r)) := by
  intro x0 σ r h
  unfold f_X12_feed_110 at h
  refine aw_aload_n (pc := 110) 0 dX12_feed_110 rfl ?_
  refine aw_dup (pc := 111) dX12_feed_111 rfl ?_
  obtain ⟨v1, e, h⟩ := op_bd h
  refine ow_gI (pc := 112) e dX12_feed_112 fd_X12_156 rfl ?_
  refine aw_bipush (pc := 115) (v := (20 : Int32)) dX12_feed_115 (by decide) ?_
  refine aw_iadd (pc := 117) dX12_feed_117 ?_
  obtain ⟨σ2, e, h⟩ := op_bd h
  refine ow_pI (pc := 118) e dX12_feed_118 fd_X12_156 ?_
  refine aw_aload_n (pc := 121) 0 dX12_feed_121 rfl ?_
  obtain ⟨v3, e, h⟩ := op_bd h
  refine ow_gI (pc := 122) e dX12_feed_122 fd_X12_156 rfl ?_
  exact ow_iret (pc := 125) h dX12_feed_125 rfl
set_option maxRecDepth 100000 in
set_option maxHeartbeats 4000000 in
theorem c_X12_feed_20_b {G : ah_G}  (K20 : Nat → Int32 → Int32 → Int32 → Int32 → Int32 → Int32 → ah_H → Option (Int32 × ah_H)) (hK20 : ∀ (x0 : Nat) (x1 : Int32) (x2 : Int32) (x3 : Int32) (x4 : Int32) (x5 : Int32) (x6 : Int32) (σ : ah_H) (r : Int32 × ah_H), K20 x0 x1 x2 x3 x4 x5 x6 σ = some r → AW G m_X12_feed 0 0 0 20 [(0, .ref x0), (1, .int x1), (2, .int x2), (3, .int x3), (4, .int x4), (5, .int x5), (6, .int x6)] [] σ (ah_N G (ah_ri r))) : ∀ (x0 : Nat) (x1 : Int32) (x2 : Int32) (x3 : Int32) (x4 : Int32) (x5 : Int32) (x6 : Int32) (σ : ah_H) (r : Int32 × ah_H), f_X12_feed_20_b  K20 x0 x1 x2 x3 x4 x5 x6 σ = some r → AW G m_X12_feed 0 0 0 20 [(0, .ref x0), (1, .int x1), (2, .int x2), (3, .int x3), (4, .int x4), (5, .int x5), (6, .int x6)] [] σ (ah_N G (ah_ri r)) := by
  intro x0 x1 x2 x3 x4 x5 x6 σ r h
  unfold f_X12_feed_20_b at h
  refine aw_iload (pc := 20) 6 dX12_feed_20 rfl ?_
  refine aw_bipush (pc := 22) (v := (20 : Int32)) dX12_feed_22 (by decide) ?_
  refine aw_icmp_ge (pc := 24) 110 dX12_feed_24 (by decide) (fun z => ?_) (fun z => ?_)
  · replace h := (if_pos z).symm.trans h
    refine aw_sub [0] rfl ?_
    exact c_X12_feed_110  _ _ _ h
  · replace h := (if_neg z).symm.trans h
    refine aw_iload (pc := 27) 6 dX12_feed_27 rfl ?_
    refine aw_iconst (pc := 29) (v := (4 : Int32)) dX12_feed_29 (by decide) ?_
    refine aw_icmp_ge (pc := 30) 37 dX12_feed_30 (by decide) (fun z => ?_) (fun z => ?_)
    · replace h := (if_pos z).symm.trans h
      refine aw_iload (pc := 37) 6 dX12_feed_37 rfl ?_
      refine aw_bipush (pc := 39) (v := (8 : Int32)) dX12_feed_39 (by decide) ?_
      refine aw_icmp_ge (pc := 41) 48 dX12_feed_41 (by decide) (fun z => ?_) (fun z => ?_)
      · replace h := (if_pos z).symm.trans h
        refine aw_iload (pc := 48) 6 dX12_feed_48 rfl ?_
        refine aw_bipush (pc := 50) (v := (12 : Int32)) dX12_feed_50 (by decide) ?_
        refine aw_icmp_ge (pc := 52) 59 dX12_feed_52 (by decide) (fun z => ?_) (fun z => ?_)
        · replace h := (if_pos z).symm.trans h
          refine aw_iload (pc := 59) 6 dX12_feed_59 rfl ?_
          refine aw_bipush (pc := 61) (v := (16 : Int32)) dX12_feed_61 (by decide) ?_
          refine aw_icmp_ge (pc := 63) 71 dX12_feed_63 (by decide) (fun z => ?_) (fun z => ?_)
          · replace h := (if_pos z).symm.trans h
            refine aw_iload (pc := 71) 5 dX12_feed_71 rfl ?_
            exact c_X12_feed_73 K20 hK20 _ _ _ _ _ _ _ _ _ _ h
          · replace h := (if_neg z).symm.trans h
            refine aw_iload (pc := 66) 4 dX12_feed_66 rfl ?_
            refine aw_goto (pc := 68) 73 dX12_feed_68 (by decide) ?_
            exact c_X12_feed_73 K20 hK20 _ _ _ _ _ _ _ _ _ _ h
        · replace h := (if_neg z).symm.trans h
          refine aw_iload_n (pc := 55) 3 dX12_feed_55 rfl ?_
          refine aw_goto (pc := 56) 73 dX12_feed_56 (by decide) ?_
          exact c_X12_feed_73 K20 hK20 _ _ _ _ _ _ _ _ _ _ h
      · replace h := (if_neg z).symm.trans h
        refine aw_iload_n (pc := 44) 2 dX12_feed_44 rfl ?_
        refine aw_goto (pc := 45) 73 dX12_feed_45 (by decide) ?_
        exact c_X12_feed_73 K20 hK20 _ _ _ _ _ _ _ _ _ _ h
    · replace h := (if_neg z).symm.trans h
      refine aw_iload_n (pc := 33) 1 dX12_feed_33 rfl ?_
      refine aw_goto (pc := 34) 73 dX12_feed_34 (by decide) ?_
      exact c_X12_feed_73 K20 hK20 _ _ _ _ _ _ _ _ _ _ h
theorem c_X12_feed_20 {G : ah_G}   : ∀ (n : Nat) (x0 : Nat) (x1 : Int32) (x2 : Int32) (x3 : Int32) (x4 : Int32) (x5 : Int32) (x6 : Int32) (σ : ah_H) (r : Int32 × ah_H), f_X12_feed_20   n x0 x1 x2 x3 x4 x5 x6 σ = some r → AW G m_X12_feed 0 0 0 20 [(0, .ref x0), (1, .int x1), (2, .int x2), (3, .int x3), (4, .int x4), (5, .int x5), (6, .int x6)] [] σ (ah_N G (ah_ri r)) := by
  intro n
  induction n with
  | zero => intro x0 x1 x2 x3 x4 x5 x6 σ r h; cases h
  | succ n ih => intro x0 x1 x2 x3 x4 x5 x6 σ r h; exact c_X12_feed_20_b   _ ih x0 x1 x2 x3 x4 x5 x6 σ r h
set_option maxRecDepth 100000 in
set_option maxHeartbeats 4000000 in
theorem c_X12_feed_0 {G : ah_G}   : ∀ (x0 : Nat) (x1 : Int32) (x2 : Int32) (x3 : Int32) (x4 : Int32) (x5 : Int32) (σ : ah_H) (r : Int32 × ah_H), f_X12_feed_0   x0 x1 x2 x3 x4 x5 σ = some r → AW G m_X12_feed 0 0 0 0 [(0, .ref x0), (1, .int x1), (2, .int x2), (3, .int x3), (4, .int x4), (5, .int x5)] [] σ (ah_N G (ah_ri r)) := by
  intro x0 x1 x2 x3 x4 x5 σ r h
  unfold f_X12_feed_0 at h
  refine aw_aload_n (pc := 0) 0 dX12_feed_0 rfl ?_
  refine aw_iconst (pc := 1) (v := (0 : Int32)) dX12_feed_1 (by decide) ?_
  obtain ⟨σ1, e, h⟩ := op_bd h
  refine ow_pI (pc := 2) e dX12_feed_2 fd_X12_153 ?_
  refine aw_aload_n (pc := 5) 0 dX12_feed_5 rfl ?_
  obtain ⟨v2, e, h⟩ := op_bd h
  refine ow_gI (pc := 6) e dX12_feed_6 fd_X12_156 rfl ?_
  refine aw_sipush (pc := 9) (v := (680 : Int32)) dX12_feed_9 (by decide) ?_
  refine aw_icmp_le (pc := 12) 17 dX12_feed_12 (by decide) (fun z => ?_) (fun z => ?_)
  · replace h := (if_pos z).symm.trans h
    refine aw_iconst (pc := 17) (v := (0 : Int32)) dX12_feed_17 (by decide) ?_
    refine aw_istore (pc := 18) [(6, .int (0 : Int32)), (0, .ref x0), (1, .int x1), (2, .int x2), (3, .int x3), (4, .int x4), (5, .int x5)] dX12_feed_18 (by decide) rfl ?_
    refine aw_sub [1, 2, 3, 4, 5, 6, 0] rfl ?_
    exact c_X12_feed_20  _ _ _ _ _ _ _ _ _ _ h
  · replace h := (if_neg z).symm.trans h
    refine aw_iconst (pc := 15) (v := (-1 : Int32)) dX12_feed_15 (by decide) ?_
    exact ow_iret (pc := 16) h dX12_feed_16 rfl
theorem c_X12_feed {G : ah_G}   (x0 : Nat) (x1 : Int32) (x2 : Int32) (x3 : Int32) (x4 : Int32) (x5 : Int32) (σ : ah_H) (r : Int32 × ah_H) (h : f_X12_feed  x0 x1 x2 x3 x4 x5 σ = some r) : AM G m_X12_feed 0 0 0 [.ref x0, .int x1, .int x2, .int x3, .int x4, .int x5] σ (ah_ri r) := aw_enter (by decide) (Nat.le_of_ble_eq_true rfl) (c_X12_feed_0 _ _ _ _ _ _ _ _ (op_ck_k h))
def f_X12_here_0   (x0 : Nat) (σ : ah_H) : Option (Int32 × ah_H) :=
  (op_gI 12 25 σ x0).bind fun v1 => (op_gI 12 24 σ x0).bind fun v2 => if v2 ≤ v1 then (some ((-1 : Int32), σ)) else ((op_gR 12 1 σ x0).bind fun v3 => (op_gI 12 25 σ x0).bind fun v4 => (op_aI σ v3 v4).bind fun v5 => some (v5, σ))
def f_X12_here  (x0 : Nat) (σ : ah_H) : Option (Int32 × ah_H) := op_ck 12 σ x0 (f_X12_here_0 x0 σ)
set_option maxRecDepth 100000 in
set_option maxHeartbeats 4000000 in
theorem c_X12_here_0 {G : ah_G}   : ∀ (x0 : Nat) (σ : ah_H) (r : Int32 × ah_H), f_X12_here_0   x0 σ = some r → AW G m_X12_here 0 0 0 0 [(0, .ref x0)] [] σ (ah_N G (ah_ri r)) := by
  intro x0 σ r h
  unfold f_X12_here_0 at h
  refine aw_aload_n (pc := 0) 0 dX12_here_0 rfl ?_
  obtain ⟨v1, e, h⟩ := op_bd h
  refine ow_gI (pc := 1) e dX12_here_1 fd_X12_159 rfl ?_
  refine aw_aload_n (pc := 4) 0 dX12_here_4 rfl ?_
  obtain ⟨v2, e, h⟩ := op_bd h
  refine ow_gI (pc := 5) e dX12_here_5 fd_X12_162 rfl ?_
  refine aw_icmp_ge (pc := 8) 23 dX12_here_8 (by decide) (fun z => ?_) (fun z => ?_)
  · replace h := (if_pos z).symm.trans h
    refine aw_iconst (pc := 23) (v := (-1 : Int32)) dX12_here_23 (by decide) ?_
    exact ow_iret (pc := 24) h dX12_here_24 rfl
  · replace h := (if_neg z).symm.trans h
    refine aw_aload_n (pc := 11) 0 dX12_here_11 rfl ?_
    obtain ⟨v3, e, h⟩ := op_bd h
    refine ow_gR (pc := 12) e dX12_here_12 fd_X12_9 rfl ?_
    refine aw_aload_n (pc := 15) 0 dX12_here_15 rfl ?_
    obtain ⟨v4, e, h⟩ := op_bd h
    refine ow_gI (pc := 16) e dX12_here_16 fd_X12_159 rfl ?_
    obtain ⟨v5, e, h⟩ := op_bd h
    refine ow_aI (pc := 19) e dX12_here_19 ?_
    refine aw_goto (pc := 20) 24 dX12_here_20 (by decide) ?_
    exact ow_iret (pc := 24) h dX12_here_24 rfl
theorem c_X12_here {G : ah_G}   (x0 : Nat) (σ : ah_H) (r : Int32 × ah_H) (h : f_X12_here  x0 σ = some r) : AM G m_X12_here 0 0 0 [.ref x0] σ (ah_ri r) := aw_enter (by decide) (Nat.le_of_ble_eq_true rfl) (c_X12_here_0 _ _ _ (op_ck_k h))
def f_X12_isSmall_0   (x0 : Int32) (σ : ah_H) : Option (Int32 × ah_H) :=
  if x0 < (97 : Int32) then ((op_rz (0 : Int32)).map fun q => (q, σ)) else (if (122 : Int32) < x0 then ((op_rz (0 : Int32)).map fun q => (q, σ)) else ((op_rz (1 : Int32)).map fun q => (q, σ)))
def f_X12_isSmall  (x0 : Int32) (σ : ah_H) : Option (Int32 × ah_H) := f_X12_isSmall_0 x0 σ
set_option maxRecDepth 100000 in
set_option maxHeartbeats 4000000 in
theorem c_X12_isSmall_0 {G : ah_G}   : ∀ (x0 : Int32) (σ : ah_H) (r : Int32 × ah_H), f_X12_isSmall_0   x0 σ = some r → AW G m_X12_isSmall 0 0 0 0 [(0, .int x0)] [] σ (ah_N G (ah_ri r)) := by
  intro x0 σ r h
  unfold f_X12_isSmall_0 at h
  refine aw_iload_n (pc := 0) 0 dX12_isSmall_0 rfl ?_
  refine aw_bipush (pc := 1) (v := (97 : Int32)) dX12_isSmall_1 (by decide) ?_
  refine aw_icmp_lt (pc := 3) 16 dX12_isSmall_3 (by decide) (fun z => ?_) (fun z => ?_)
  · replace h := (if_pos z).symm.trans h
    refine aw_iconst (pc := 16) (v := (0 : Int32)) dX12_isSmall_16 (by decide) ?_
    exact ow_zret (pc := 17) h dX12_isSmall_17 rfl
  · replace h := (if_neg z).symm.trans h
    refine aw_iload_n (pc := 6) 0 dX12_isSmall_6 rfl ?_
    refine aw_bipush (pc := 7) (v := (122 : Int32)) dX12_isSmall_7 (by decide) ?_
    refine aw_icmp_gt (pc := 9) 16 dX12_isSmall_9 (by decide) (fun z => ?_) (fun z => ?_)
    · replace h := (if_pos z).symm.trans h
      refine aw_iconst (pc := 16) (v := (0 : Int32)) dX12_isSmall_16 (by decide) ?_
      exact ow_zret (pc := 17) h dX12_isSmall_17 rfl
    · replace h := (if_neg z).symm.trans h
      refine aw_iconst (pc := 12) (v := (1 : Int32)) dX12_isSmall_12 (by decide) ?_
      refine aw_goto (pc := 13) 17 dX12_isSmall_13 (by decide) ?_
      exact ow_zret (pc := 17) h dX12_isSmall_17 rfl
theorem c_X12_isSmall {G : ah_G}   (x0 : Int32) (σ : ah_H) (r : Int32 × ah_H) (h : f_X12_isSmall  x0 σ = some r) : AM G m_X12_isSmall 0 0 0 [.int x0] σ (ah_ri r) := aw_enter (by decide) (Nat.le_of_ble_eq_true rfl) (c_X12_isSmall_0 _ _ _ h)
def f_X12_isDigit_0   (x0 : Int32) (σ : ah_H) : Option (Int32 × ah_H) :=
  if x0 < (48 : Int32) then ((op_rz (0 : Int32)).map fun q => (q, σ)) else (if (57 : Int32) < x0 then ((op_rz (0 : Int32)).map fun q => (q, σ)) else ((op_rz (1 : Int32)).map fun q => (q, σ)))
def f_X12_isDigit  (x0 : Int32) (σ : ah_H) : Option (Int32 × ah_H) := f_X12_isDigit_0 x0 σ
set_option maxRecDepth 100000 in
set_option maxHeartbeats 4000000 in
theorem c_X12_isDigit_0 {G : ah_G}   : ∀ (x0 : Int32) (σ : ah_H) (r : Int32 × ah_H), f_X12_isDigit_0   x0 σ = some r → AW G m_X12_isDigit 0 0 0 0 [(0, .int x0)] [] σ (ah_N G (ah_ri r)) := by
  intro x0 σ r h
  unfold f_X12_isDigit_0 at h
  refine aw_iload_n (pc := 0) 0 dX12_isDigit_0 rfl ?_
  refine aw_bipush (pc := 1) (v := (48 : Int32)) dX12_isDigit_1 (by decide) ?_
  refine aw_icmp_lt (pc := 3) 16 dX12_isDigit_3 (by decide) (fun z => ?_) (fun z => ?_)
  · replace h := (if_pos z).symm.trans h
    refine aw_iconst (pc := 16) (v := (0 : Int32)) dX12_isDigit_16 (by decide) ?_
    exact ow_zret (pc := 17) h dX12_isDigit_17 rfl
  · replace h := (if_neg z).symm.trans h
    refine aw_iload_n (pc := 6) 0 dX12_isDigit_6 rfl ?_
    refine aw_bipush (pc := 7) (v := (57 : Int32)) dX12_isDigit_7 (by decide) ?_
    refine aw_icmp_gt (pc := 9) 16 dX12_isDigit_9 (by decide) (fun z => ?_) (fun z => ?_)
    · replace h := (if_pos z).symm.trans h
      refine aw_iconst (pc := 16) (v := (0 : Int32)) dX12_isDigit_16 (by decide) ?_
      exact ow_zret (pc := 17) h dX12_isDigit_17 rfl
    · replace h := (if_neg z).symm.trans h
      refine aw_iconst (pc := 12) (v := (1 : Int32)) dX12_isDigit_12 (by decide) ?_
      refine aw_goto (pc := 13) 17 dX12_isDigit_13 (by decide) ?_
      exact ow_zret (pc := 17) h dX12_isDigit_17 rfl
theorem c_X12_isDigit {G : ah_G}   (x0 : Int32) (σ : ah_H) (r : Int32 × ah_H) (h : f_X12_isDigit  x0 σ = some r) : AM G m_X12_isDigit 0 0 0 [.int x0] σ (ah_ri r) := aw_enter (by decide) (Nat.le_of_ble_eq_true rfl) (c_X12_isDigit_0 _ _ _ h)
def f_X12_name_53  (K7 : Nat → Int32 → ah_H → Option (ah_H)) (x0 : Nat) (x1 : Int32) (s0 : Nat) (s1 : Int32) (s2 : Int32) (σ : ah_H) : Option (ah_H) :=
  (op_pI 12 28 σ s0 (s1 ||| s2)).bind fun σ1 => K7 x0 (x1 + (1 : Int32)) σ1
def f_X12_name_7_b  (K7 : Nat → Int32 → ah_H → Option (ah_H)) (x0 : Nat) (x1 : Int32) (σ : ah_H) : Option (ah_H) :=
  if (6 : Int32) ≤ x1 then (some σ) else ((op_gI 12 28 σ x0).bind fun v1 => (op_gI 12 26 σ x0).bind fun v2 => (op_gI 12 25 σ x0).bind fun v3 => if v3 ≤ (v2 + x1) then (f_X12_name_53 K7 x0 x1 x0 (v1 <<< ((5 : Int32) &&& 31)) (0 : Int32) σ) else ((op_gR 12 1 σ x0).bind fun v4 => (op_gI 12 26 σ x0).bind fun v5 => (op_aI σ v4 (v5 + x1)).bind fun v6 => f_X12_name_53 K7 x0 x1 x0 (v1 <<< ((5 : Int32) &&& 31)) ((v6 - (97 : Int32)) + (1 : Int32)) σ))
def f_X12_name_7   : Nat → Nat → Int32 → ah_H → Option (ah_H)
  | 0, _, _, _ => none
  | n + 1, x0, x1, σ => f_X12_name_7_b (f_X12_name_7 n) x0 x1 σ
def f_X12_name_0   (x0 : Nat) (σ : ah_H) : Option (ah_H) :=
  (op_pI 12 28 σ x0 (0 : Int32)).bind fun σ1 => f_X12_name_7 5000 x0 (0 : Int32) σ1
def f_X12_name  (x0 : Nat) (σ : ah_H) : Option (ah_H) := op_ck 12 σ x0 (f_X12_name_0 x0 σ)
set_option maxRecDepth 100000 in
set_option maxHeartbeats 4000000 in
theorem c_X12_name_53 {G : ah_G}  (K7 : Nat → Int32 → ah_H → Option (ah_H)) (hK7 : ∀ (x0 : Nat) (x1 : Int32) (σ : ah_H) (r : ah_H), K7 x0 x1 σ = some r → AW G m_X12_name 0 0 0 7 [(0, .ref x0), (1, .int x1)] [] σ (ah_N G (ah_rv r))) : ∀ (x0 : Nat) (x1 : Int32) (s0 : Nat) (s1 : Int32) (s2 : Int32) (σ : ah_H) (r : ah_H), f_X12_name_53  K7 x0 x1 s0 s1 s2 σ = some r → AW G m_X12_name 0 0 0 53 [(0, .ref x0), (1, .int x1)] [.int s2, .int s1, .ref s0] σ (ah_N G (ah_rv r)) := by
  intro x0 x1 s0 s1 s2 σ r h
  unfold f_X12_name_53 at h
  refine aw_ior (pc := 53) dX12_name_53 ?_
  obtain ⟨σ1, e, h⟩ := op_bd h
  refine ow_pI (pc := 54) e dX12_name_54 fd_X12_182 ?_
  refine aw_iinc (pc := 57) 1 [(1, .int (x1 + (1 : Int32))), (0, .ref x0)] (x1 + (1 : Int32)) dX12_name_57 rfl rfl (by decide) rfl ?_
  refine aw_goto (pc := 60) 7 dX12_name_60 (by decide) ?_
  refine aw_sub [1, 0] rfl ?_
  exact hK7 _ _ _ _ h
set_option maxRecDepth 100000 in
set_option maxHeartbeats 4000000 in
theorem c_X12_name_7_b {G : ah_G}  (K7 : Nat → Int32 → ah_H → Option (ah_H)) (hK7 : ∀ (x0 : Nat) (x1 : Int32) (σ : ah_H) (r : ah_H), K7 x0 x1 σ = some r → AW G m_X12_name 0 0 0 7 [(0, .ref x0), (1, .int x1)] [] σ (ah_N G (ah_rv r))) : ∀ (x0 : Nat) (x1 : Int32) (σ : ah_H) (r : ah_H), f_X12_name_7_b  K7 x0 x1 σ = some r → AW G m_X12_name 0 0 0 7 [(0, .ref x0), (1, .int x1)] [] σ (ah_N G (ah_rv r)) := by
  intro x0 x1 σ r h
  unfold f_X12_name_7_b at h
  refine aw_iload_n (pc := 7) 1 dX12_name_7 rfl ?_
  refine aw_bipush (pc := 8) (v := (6 : Int32)) dX12_name_8 (by decide) ?_
  refine aw_icmp_ge (pc := 10) 63 dX12_name_10 (by decide) (fun z => ?_) (fun z => ?_)
  · replace h := (if_pos z).symm.trans h
    exact ow_vret (pc := 63) h dX12_name_63 rfl
  · replace h := (if_neg z).symm.trans h
    refine aw_aload_n (pc := 13) 0 dX12_name_13 rfl ?_
    refine aw_aload_n (pc := 14) 0 dX12_name_14 rfl ?_
    obtain ⟨v1, e, h⟩ := op_bd h
    refine ow_gI (pc := 15) e dX12_name_15 fd_X12_182 rfl ?_
    refine aw_iconst (pc := 18) (v := (5 : Int32)) dX12_name_18 (by decide) ?_
    refine aw_ishl (pc := 19) dX12_name_19 ?_
    refine aw_aload_n (pc := 20) 0 dX12_name_20 rfl ?_
    obtain ⟨v2, e, h⟩ := op_bd h
    refine ow_gI (pc := 21) e dX12_name_21 fd_X12_169 rfl ?_
    refine aw_iload_n (pc := 24) 1 dX12_name_24 rfl ?_
    refine aw_iadd (pc := 25) dX12_name_25 ?_
    refine aw_aload_n (pc := 26) 0 dX12_name_26 rfl ?_
    obtain ⟨v3, e, h⟩ := op_bd h
    refine ow_gI (pc := 27) e dX12_name_27 fd_X12_159 rfl ?_
    refine aw_icmp_ge (pc := 30) 52 dX12_name_30 (by decide) (fun z => ?_) (fun z => ?_)
    · replace h := (if_pos z).symm.trans h
      refine aw_iconst (pc := 52) (v := (0 : Int32)) dX12_name_52 (by decide) ?_
      exact c_X12_name_53 K7 hK7 _ _ _ _ _ _ _ h
    · replace h := (if_neg z).symm.trans h
      refine aw_aload_n (pc := 33) 0 dX12_name_33 rfl ?_
      obtain ⟨v4, e, h⟩ := op_bd h
      refine ow_gR (pc := 34) e dX12_name_34 fd_X12_9 rfl ?_
      refine aw_aload_n (pc := 37) 0 dX12_name_37 rfl ?_
      obtain ⟨v5, e, h⟩ := op_bd h
      refine ow_gI (pc := 38) e dX12_name_38 fd_X12_169 rfl ?_
      refine aw_iload_n (pc := 41) 1 dX12_name_41 rfl ?_
      refine aw_iadd (pc := 42) dX12_name_42 ?_
      obtain ⟨v6, e, h⟩ := op_bd h
      refine ow_aI (pc := 43) e dX12_name_43 ?_
      refine aw_bipush (pc := 44) (v := (97 : Int32)) dX12_name_44 (by decide) ?_
      refine aw_isub (pc := 46) dX12_name_46 ?_
      refine aw_iconst (pc := 47) (v := (1 : Int32)) dX12_name_47 (by decide) ?_
      refine aw_iadd (pc := 48) dX12_name_48 ?_
      refine aw_goto (pc := 49) 53 dX12_name_49 (by decide) ?_
      exact c_X12_name_53 K7 hK7 _ _ _ _ _ _ _ h
theorem c_X12_name_7 {G : ah_G}   : ∀ (n : Nat) (x0 : Nat) (x1 : Int32) (σ : ah_H) (r : ah_H), f_X12_name_7   n x0 x1 σ = some r → AW G m_X12_name 0 0 0 7 [(0, .ref x0), (1, .int x1)] [] σ (ah_N G (ah_rv r)) := by
  intro n
  induction n with
  | zero => intro x0 x1 σ r h; cases h
  | succ n ih => intro x0 x1 σ r h; exact c_X12_name_7_b   _ ih x0 x1 σ r h
set_option maxRecDepth 100000 in
set_option maxHeartbeats 4000000 in
theorem c_X12_name_0 {G : ah_G}   : ∀ (x0 : Nat) (σ : ah_H) (r : ah_H), f_X12_name_0   x0 σ = some r → AW G m_X12_name 0 0 0 0 [(0, .ref x0)] [] σ (ah_N G (ah_rv r)) := by
  intro x0 σ r h
  unfold f_X12_name_0 at h
  refine aw_aload_n (pc := 0) 0 dX12_name_0 rfl ?_
  refine aw_iconst (pc := 1) (v := (0 : Int32)) dX12_name_1 (by decide) ?_
  obtain ⟨σ1, e, h⟩ := op_bd h
  refine ow_pI (pc := 2) e dX12_name_2 fd_X12_182 ?_
  refine aw_iconst (pc := 5) (v := (0 : Int32)) dX12_name_5 (by decide) ?_
  refine aw_istore_n (pc := 6) [(1, .int (0 : Int32)), (0, .ref x0)] dX12_name_6 rfl (by decide) rfl ?_
  refine aw_sub [1, 0] rfl ?_
  exact c_X12_name_7  _ _ _ _ _ h
theorem c_X12_name {G : ah_G}   (x0 : Nat) (σ : ah_H) (r : ah_H) (h : f_X12_name  x0 σ = some r) : AM G m_X12_name 0 0 0 [.ref x0] σ (ah_rv r) := aw_enter (by decide) (Nat.le_of_ble_eq_true rfl) (c_X12_name_0 _ _ _ (op_ck_k h))
def f_X12_sign_150   (x0 : Nat) (σ : ah_H) : Option (ah_H) :=
  (op_gI 12 28 σ x0).bind fun v1 => if v1 < (256 : Int32) then (some σ) else ((op_gI 12 25 σ x0).bind fun v2 => (op_pI 12 25 σ x0 (v2 + (1 : Int32))).bind fun σ3 => some σ3)
def f_X12_sign_128   (x0 : Nat) (x1 : Int32) (σ : ah_H) : Option (ah_H) :=
  if x1 = (62 : Int32) then ((f_X12_here x0 σ).bind fun r1 => if r1.1 = (61 : Int32) then ((op_pI 12 28 r1.2 x0 (258 : Int32)).bind fun σ2 => f_X12_sign_150 x0 σ2) else (f_X12_sign_150 x0 r1.2)) else (f_X12_sign_150 x0 σ)
def f_X12_sign_106   (x0 : Nat) (x1 : Int32) (σ : ah_H) : Option (ah_H) :=
  if x1 = (60 : Int32) then ((f_X12_here x0 σ).bind fun r1 => if r1.1 = (62 : Int32) then ((op_pI 12 28 r1.2 x0 (257 : Int32)).bind fun σ2 => f_X12_sign_128 x0 x1 σ2) else (f_X12_sign_128 x0 x1 r1.2)) else (f_X12_sign_128 x0 x1 σ)
def f_X12_sign_76   (x0 : Nat) (x1 : Int32) (s0 : Nat) (s1 : Int32) (σ : ah_H) : Option (ah_H) :=
  (op_pI 12 27 σ s0 s1).bind fun σ1 => (op_pI 12 28 σ1 x0 x1).bind fun σ2 => if x1 = (60 : Int32) then ((f_X12_here x0 σ2).bind fun r3 => if r3.1 = (61 : Int32) then ((op_pI 12 28 r3.2 x0 (256 : Int32)).bind fun σ4 => f_X12_sign_106 x0 x1 σ4) else (f_X12_sign_106 x0 x1 r3.2)) else (f_X12_sign_106 x0 x1 σ2)
def f_X12_sign_71   (x0 : Nat) (x1 : Int32) (s0 : Nat) (σ : ah_H) : Option (ah_H) :=
  f_X12_sign_76 x0 x1 s0 (3 : Int32) σ
def f_X12_sign_0   (x0 : Nat) (x1 : Int32) (σ : ah_H) : Option (ah_H) :=
  (op_gI 12 25 σ x0).bind fun v1 => (op_pI 12 25 σ x0 (v1 + (1 : Int32))).bind fun σ2 => if x1 = (59 : Int32) then (f_X12_sign_71 x0 x1 x0 σ2) else (if x1 = (40 : Int32) then (f_X12_sign_71 x0 x1 x0 σ2) else (if x1 = (41 : Int32) then (f_X12_sign_71 x0 x1 x0 σ2) else (if x1 = (43 : Int32) then (f_X12_sign_71 x0 x1 x0 σ2) else (if x1 = (45 : Int32) then (f_X12_sign_71 x0 x1 x0 σ2) else (if x1 = (42 : Int32) then (f_X12_sign_71 x0 x1 x0 σ2) else (if x1 = (47 : Int32) then (f_X12_sign_71 x0 x1 x0 σ2) else (if x1 = (60 : Int32) then (f_X12_sign_71 x0 x1 x0 σ2) else (if x1 = (61 : Int32) then (f_X12_sign_71 x0 x1 x0 σ2) else (if x1 = (62 : Int32) then (f_X12_sign_71 x0 x1 x0 σ2) else (f_X12_sign_76 x0 x1 x0 (5 : Int32) σ2))))))))))
def f_X12_sign  (x0 : Nat) (x1 : Int32) (σ : ah_H) : Option (ah_H) := op_ck 12 σ x0 (f_X12_sign_0 x0 x1 σ)
set_option maxRecDepth 100000 in
set_option maxHeartbeats 4000000 in
theorem c_X12_sign_150 {G : ah_G}   : ∀ (x0 : Nat) (σ : ah_H) (r : ah_H), f_X12_sign_150   x0 σ = some r → AW G m_X12_sign 1 0 0 150 [(0, .ref x0)] [] σ (ah_N G (ah_rv r)) := by
  intro x0 σ r h
  unfold f_X12_sign_150 at h
  refine aw_aload_n (pc := 150) 0 dX12_sign_150 rfl ?_
  obtain ⟨v1, e, h⟩ := op_bd h
  refine ow_gI (pc := 151) e dX12_sign_151 fd_X12_182 rfl ?_
  refine aw_sipush (pc := 154) (v := (256 : Int32)) dX12_sign_154 (by decide) ?_
  refine aw_icmp_lt (pc := 157) 170 dX12_sign_157 (by decide) (fun z => ?_) (fun z => ?_)
  · replace h := (if_pos z).symm.trans h
    exact ow_vret (pc := 170) h dX12_sign_170 rfl
  · replace h := (if_neg z).symm.trans h
    refine aw_aload_n (pc := 160) 0 dX12_sign_160 rfl ?_
    refine aw_dup (pc := 161) dX12_sign_161 rfl ?_
    obtain ⟨v2, e, h⟩ := op_bd h
    refine ow_gI (pc := 162) e dX12_sign_162 fd_X12_159 rfl ?_
    refine aw_iconst (pc := 165) (v := (1 : Int32)) dX12_sign_165 (by decide) ?_
    refine aw_iadd (pc := 166) dX12_sign_166 ?_
    obtain ⟨σ3, e, h⟩ := op_bd h
    refine ow_pI (pc := 167) e dX12_sign_167 fd_X12_159 ?_
    exact ow_vret (pc := 170) h dX12_sign_170 rfl
set_option maxRecDepth 100000 in
set_option maxHeartbeats 4000000 in
theorem c_X12_sign_128 {G : ah_G}   : ∀ (x0 : Nat) (x1 : Int32) (σ : ah_H) (r : ah_H), f_X12_sign_128   x0 x1 σ = some r → AW G m_X12_sign 1 0 0 128 [(0, .ref x0), (1, .int x1)] [] σ (ah_N G (ah_rv r)) := by
  intro x0 x1 σ r h
  unfold f_X12_sign_128 at h
  refine aw_iload_n (pc := 128) 1 dX12_sign_128 rfl ?_
  refine aw_bipush (pc := 129) (v := (62 : Int32)) dX12_sign_129 (by decide) ?_
  refine aw_icmp_ne (pc := 131) 150 dX12_sign_131 (by decide) (fun z => ?_) (fun z => ?_)
  · replace h := (if_neg z).symm.trans h
    refine aw_sub [0] rfl ?_
    exact c_X12_sign_150  _ _ _ h
  · replace h := (if_pos z).symm.trans h
    refine aw_aload_n (pc := 134) 0 dX12_sign_134 rfl ?_
    obtain ⟨r1, e, h⟩ := op_bd h
    refine ow_cVi (pc := 135) [] ((c_X12_here _ _ _ e).mono (by decide)) (op_ck_sh e) rfl dX12_sign_135 cw_X12_165 rfl (Nat.le_of_ble_eq_true rfl) ?_
    refine aw_bipush (pc := 138) (v := (61 : Int32)) dX12_sign_138 (by decide) ?_
    refine aw_icmp_ne (pc := 140) 150 dX12_sign_140 (by decide) (fun z => ?_) (fun z => ?_)
    · replace h := (if_neg z).symm.trans h
      refine aw_sub [0] rfl ?_
      exact c_X12_sign_150  _ _ _ h
    · replace h := (if_pos z).symm.trans h
      refine aw_aload_n (pc := 143) 0 dX12_sign_143 rfl ?_
      refine aw_sipush (pc := 144) (v := (258 : Int32)) dX12_sign_144 (by decide) ?_
      obtain ⟨σ2, e, h⟩ := op_bd h
      refine ow_pI (pc := 147) e dX12_sign_147 fd_X12_182 ?_
      refine aw_sub [0] rfl ?_
      exact c_X12_sign_150  _ _ _ h
set_option maxRecDepth 100000 in
set_option maxHeartbeats 4000000 in
theorem c_X12_sign_106 {G : ah_G}   : ∀ (x0 : Nat) (x1 : Int32) (σ : ah_H) (r : ah_H), f_X12_sign_106   x0 x1 σ = some r → AW G m_X12_sign 1 0 0 106 [(0, .ref x0), (1, .int x1)] [] σ (ah_N G (ah_rv r)) := by
  intro x0 x1 σ r h
  unfold f_X12_sign_106 at h
  refine aw_iload_n (pc := 106) 1 dX12_sign_106 rfl ?_
  refine aw_bipush (pc := 107) (v := (60 : Int32)) dX12_sign_107 (by decide) ?_
  refine aw_icmp_ne (pc := 109) 128 dX12_sign_109 (by decide) (fun z => ?_) (fun z => ?_)
  · replace h := (if_neg z).symm.trans h
    exact c_X12_sign_128  _ _ _ _ h
  · replace h := (if_pos z).symm.trans h
    refine aw_aload_n (pc := 112) 0 dX12_sign_112 rfl ?_
    obtain ⟨r1, e, h⟩ := op_bd h
    refine ow_cVi (pc := 113) [] ((c_X12_here _ _ _ e).mono (by decide)) (op_ck_sh e) rfl dX12_sign_113 cw_X12_165 rfl (Nat.le_of_ble_eq_true rfl) ?_
    refine aw_bipush (pc := 116) (v := (62 : Int32)) dX12_sign_116 (by decide) ?_
    refine aw_icmp_ne (pc := 118) 128 dX12_sign_118 (by decide) (fun z => ?_) (fun z => ?_)
    · replace h := (if_neg z).symm.trans h
      exact c_X12_sign_128  _ _ _ _ h
    · replace h := (if_pos z).symm.trans h
      refine aw_aload_n (pc := 121) 0 dX12_sign_121 rfl ?_
      refine aw_sipush (pc := 122) (v := (257 : Int32)) dX12_sign_122 (by decide) ?_
      obtain ⟨σ2, e, h⟩ := op_bd h
      refine ow_pI (pc := 125) e dX12_sign_125 fd_X12_182 ?_
      exact c_X12_sign_128  _ _ _ _ h
set_option maxRecDepth 100000 in
set_option maxHeartbeats 4000000 in
theorem c_X12_sign_76 {G : ah_G}   : ∀ (x0 : Nat) (x1 : Int32) (s0 : Nat) (s1 : Int32) (σ : ah_H) (r : ah_H), f_X12_sign_76   x0 x1 s0 s1 σ = some r → AW G m_X12_sign 1 0 0 76 [(0, .ref x0), (1, .int x1)] [.int s1, .ref s0] σ (ah_N G (ah_rv r)) := by
  intro x0 x1 s0 s1 σ r h
  unfold f_X12_sign_76 at h
  obtain ⟨σ1, e, h⟩ := op_bd h
  refine ow_pI (pc := 76) e dX12_sign_76 fd_X12_172 ?_
  refine aw_aload_n (pc := 79) 0 dX12_sign_79 rfl ?_
  refine aw_iload_n (pc := 80) 1 dX12_sign_80 rfl ?_
  obtain ⟨σ2, e, h⟩ := op_bd h
  refine ow_pI (pc := 81) e dX12_sign_81 fd_X12_182 ?_
  refine aw_iload_n (pc := 84) 1 dX12_sign_84 rfl ?_
  refine aw_bipush (pc := 85) (v := (60 : Int32)) dX12_sign_85 (by decide) ?_
  refine aw_icmp_ne (pc := 87) 106 dX12_sign_87 (by decide) (fun z => ?_) (fun z => ?_)
  · replace h := (if_neg z).symm.trans h
    exact c_X12_sign_106  _ _ _ _ h
  · replace h := (if_pos z).symm.trans h
    refine aw_aload_n (pc := 90) 0 dX12_sign_90 rfl ?_
    obtain ⟨r3, e, h⟩ := op_bd h
    refine ow_cVi (pc := 91) [] ((c_X12_here _ _ _ e).mono (by decide)) (op_ck_sh e) rfl dX12_sign_91 cw_X12_165 rfl (Nat.le_of_ble_eq_true rfl) ?_
    refine aw_bipush (pc := 94) (v := (61 : Int32)) dX12_sign_94 (by decide) ?_
    refine aw_icmp_ne (pc := 96) 106 dX12_sign_96 (by decide) (fun z => ?_) (fun z => ?_)
    · replace h := (if_neg z).symm.trans h
      exact c_X12_sign_106  _ _ _ _ h
    · replace h := (if_pos z).symm.trans h
      refine aw_aload_n (pc := 99) 0 dX12_sign_99 rfl ?_
      refine aw_sipush (pc := 100) (v := (256 : Int32)) dX12_sign_100 (by decide) ?_
      obtain ⟨σ4, e, h⟩ := op_bd h
      refine ow_pI (pc := 103) e dX12_sign_103 fd_X12_182 ?_
      exact c_X12_sign_106  _ _ _ _ h
set_option maxRecDepth 100000 in
set_option maxHeartbeats 4000000 in
theorem c_X12_sign_71 {G : ah_G}   : ∀ (x0 : Nat) (x1 : Int32) (s0 : Nat) (σ : ah_H) (r : ah_H), f_X12_sign_71   x0 x1 s0 σ = some r → AW G m_X12_sign 1 0 0 71 [(0, .ref x0), (1, .int x1)] [.ref s0] σ (ah_N G (ah_rv r)) := by
  intro x0 x1 s0 σ r h
  unfold f_X12_sign_71 at h
  refine aw_iconst (pc := 71) (v := (3 : Int32)) dX12_sign_71 (by decide) ?_
  refine aw_goto (pc := 72) 76 dX12_sign_72 (by decide) ?_
  exact c_X12_sign_76  _ _ _ _ _ _ h
set_option maxRecDepth 100000 in
set_option maxHeartbeats 4000000 in
theorem c_X12_sign_0 {G : ah_G}   : ∀ (x0 : Nat) (x1 : Int32) (σ : ah_H) (r : ah_H), f_X12_sign_0   x0 x1 σ = some r → AW G m_X12_sign 1 0 0 0 [(0, .ref x0), (1, .int x1)] [] σ (ah_N G (ah_rv r)) := by
  intro x0 x1 σ r h
  unfold f_X12_sign_0 at h
  refine aw_aload_n (pc := 0) 0 dX12_sign_0 rfl ?_
  refine aw_dup (pc := 1) dX12_sign_1 rfl ?_
  obtain ⟨v1, e, h⟩ := op_bd h
  refine ow_gI (pc := 2) e dX12_sign_2 fd_X12_159 rfl ?_
  refine aw_iconst (pc := 5) (v := (1 : Int32)) dX12_sign_5 (by decide) ?_
  refine aw_iadd (pc := 6) dX12_sign_6 ?_
  obtain ⟨σ2, e, h⟩ := op_bd h
  refine ow_pI (pc := 7) e dX12_sign_7 fd_X12_159 ?_
  refine aw_aload_n (pc := 10) 0 dX12_sign_10 rfl ?_
  refine aw_iload_n (pc := 11) 1 dX12_sign_11 rfl ?_
  refine aw_bipush (pc := 12) (v := (59 : Int32)) dX12_sign_12 (by decide) ?_
  refine aw_icmp_eq (pc := 14) 71 dX12_sign_14 (by decide) (fun z => ?_) (fun z => ?_)
  · replace h := (if_pos z).symm.trans h
    exact c_X12_sign_71  _ _ _ _ _ h
  · replace h := (if_neg z).symm.trans h
    refine aw_iload_n (pc := 17) 1 dX12_sign_17 rfl ?_
    refine aw_bipush (pc := 18) (v := (40 : Int32)) dX12_sign_18 (by decide) ?_
    refine aw_icmp_eq (pc := 20) 71 dX12_sign_20 (by decide) (fun z => ?_) (fun z => ?_)
    · replace h := (if_pos z).symm.trans h
      exact c_X12_sign_71  _ _ _ _ _ h
    · replace h := (if_neg z).symm.trans h
      refine aw_iload_n (pc := 23) 1 dX12_sign_23 rfl ?_
      refine aw_bipush (pc := 24) (v := (41 : Int32)) dX12_sign_24 (by decide) ?_
      refine aw_icmp_eq (pc := 26) 71 dX12_sign_26 (by decide) (fun z => ?_) (fun z => ?_)
      · replace h := (if_pos z).symm.trans h
        exact c_X12_sign_71  _ _ _ _ _ h
      · replace h := (if_neg z).symm.trans h
        refine aw_iload_n (pc := 29) 1 dX12_sign_29 rfl ?_
        refine aw_bipush (pc := 30) (v := (43 : Int32)) dX12_sign_30 (by decide) ?_
        refine aw_icmp_eq (pc := 32) 71 dX12_sign_32 (by decide) (fun z => ?_) (fun z => ?_)
        · replace h := (if_pos z).symm.trans h
          exact c_X12_sign_71  _ _ _ _ _ h
        · replace h := (if_neg z).symm.trans h
          refine aw_iload_n (pc := 35) 1 dX12_sign_35 rfl ?_
          refine aw_bipush (pc := 36) (v := (45 : Int32)) dX12_sign_36 (by decide) ?_
          refine aw_icmp_eq (pc := 38) 71 dX12_sign_38 (by decide) (fun z => ?_) (fun z => ?_)
          · replace h := (if_pos z).symm.trans h
            exact c_X12_sign_71  _ _ _ _ _ h
          · replace h := (if_neg z).symm.trans h
            refine aw_iload_n (pc := 41) 1 dX12_sign_41 rfl ?_
            refine aw_bipush (pc := 42) (v := (42 : Int32)) dX12_sign_42 (by decide) ?_
            refine aw_icmp_eq (pc := 44) 71 dX12_sign_44 (by decide) (fun z => ?_) (fun z => ?_)
            · replace h := (if_pos z).symm.trans h
              exact c_X12_sign_71  _ _ _ _ _ h
            · replace h := (if_neg z).symm.trans h
              refine aw_iload_n (pc := 47) 1 dX12_sign_47 rfl ?_
              refine aw_bipush (pc := 48) (v := (47 : Int32)) dX12_sign_48 (by decide) ?_
              refine aw_icmp_eq (pc := 50) 71 dX12_sign_50 (by decide) (fun z => ?_) (fun z => ?_)
              · replace h := (if_pos z).symm.trans h
                exact c_X12_sign_71  _ _ _ _ _ h
              · replace h := (if_neg z).symm.trans h
                refine aw_iload_n (pc := 53) 1 dX12_sign_53 rfl ?_
                refine aw_bipush (pc := 54) (v := (60 : Int32)) dX12_sign_54 (by decide) ?_
                refine aw_icmp_eq (pc := 56) 71 dX12_sign_56 (by decide) (fun z => ?_) (fun z => ?_)
                · replace h := (if_pos z).symm.trans h
                  exact c_X12_sign_71  _ _ _ _ _ h
                · replace h := (if_neg z).symm.trans h
                  refine aw_iload_n (pc := 59) 1 dX12_sign_59 rfl ?_
                  refine aw_bipush (pc := 60) (v := (61 : Int32)) dX12_sign_60 (by decide) ?_
                  refine aw_icmp_eq (pc := 62) 71 dX12_sign_62 (by decide) (fun z => ?_) (fun z => ?_)
                  · replace h := (if_pos z).symm.trans h
                    exact c_X12_sign_71  _ _ _ _ _ h
                  · replace h := (if_neg z).symm.trans h
                    refine aw_iload_n (pc := 65) 1 dX12_sign_65 rfl ?_
                    refine aw_bipush (pc := 66) (v := (62 : Int32)) dX12_sign_66 (by decide) ?_
                    refine aw_icmp_ne (pc := 68) 75 dX12_sign_68 (by decide) (fun z => ?_) (fun z => ?_)
                    · replace h := (if_neg z).symm.trans h
                      refine aw_iconst (pc := 75) (v := (5 : Int32)) dX12_sign_75 (by decide) ?_
                      exact c_X12_sign_76  _ _ _ _ _ _ h
                    · replace h := (if_pos z).symm.trans h
                      exact c_X12_sign_71  _ _ _ _ _ h
theorem c_X12_sign {G : ah_G}   (x0 : Nat) (x1 : Int32) (σ : ah_H) (r : ah_H) (h : f_X12_sign  x0 x1 σ = some r) : AM G m_X12_sign 1 0 0 [.ref x0, .int x1] σ (ah_rv r) := aw_enter (by decide) (Nat.le_of_ble_eq_true rfl) (c_X12_sign_0 _ _ _ _ (op_ck_k h))
def f_X12_word_114  (K4 : Nat → Int32 → Int32 → ah_H → Option (Int32 × ah_H)) (x0 : Nat) (x1 : Int32) (x2 : Int32) (σ : ah_H) : Option (Int32 × ah_H) :=
  K4 x0 (x1 + (1 : Int32)) (x2 + (1 : Int32)) σ
def f_X12_word_97_b  (K4 : Nat → Int32 → Int32 → ah_H → Option (Int32 × ah_H)) (K97 : Nat → Int32 → Int32 → ah_H → Option (Int32 × ah_H)) (x0 : Nat) (x1 : Int32) (x2 : Int32) (σ : ah_H) : Option (Int32 × ah_H) :=
  (op_tch 1000002 x2).bind fun v1 => if v1 = (32 : Int32) then (f_X12_word_114 K4 x0 x1 x2 σ) else (K97 x0 x1 (x2 + (1 : Int32)) σ)
def f_X12_word_97  (K4 : Nat → Int32 → Int32 → ah_H → Option (Int32 × ah_H)) : Nat → Nat → Int32 → Int32 → ah_H → Option (Int32 × ah_H)
  | 0, _, _, _, _ => none
  | n + 1, x0, x1, x2, σ => f_X12_word_97_b K4 (f_X12_word_97 K4 n) x0 x1 x2 σ
def f_X12_word_69  (K4 : Nat → Int32 → Int32 → ah_H → Option (Int32 × ah_H)) (x0 : Nat) (x1 : Int32) (x2 : Int32) (x3 : Int32) (σ : ah_H) : Option (Int32 × ah_H) :=
  (op_tch 1000002 (x2 + x3)).bind fun v1 => if v1 = (32 : Int32) then ((op_gI 12 26 σ x0).bind fun v2 => (op_gI 12 25 σ x0).bind fun v3 => if (v2 + x3) = v3 then (some (x1, σ)) else (f_X12_word_97 K4 5000 x0 x1 x2 σ)) else (f_X12_word_97 K4 5000 x0 x1 x2 σ)
def f_X12_word_15_b  (K4 : Nat → Int32 → Int32 → ah_H → Option (Int32 × ah_H)) (K15 : Nat → Int32 → Int32 → Int32 → ah_H → Option (Int32 × ah_H)) (x0 : Nat) (x1 : Int32) (x2 : Int32) (x3 : Int32) (σ : ah_H) : Option (Int32 × ah_H) :=
  (op_tch 1000002 (x2 + x3)).bind fun v1 => if v1 = (32 : Int32) then (f_X12_word_69 K4 x0 x1 x2 x3 σ) else ((op_gI 12 26 σ x0).bind fun v2 => (op_gI 12 25 σ x0).bind fun v3 => if v3 ≤ (v2 + x3) then (f_X12_word_69 K4 x0 x1 x2 x3 σ) else ((op_gR 12 1 σ x0).bind fun v4 => (op_gI 12 26 σ x0).bind fun v5 => (op_aI σ v4 (v5 + x3)).bind fun v6 => (op_tch 1000002 (x2 + x3)).bind fun v7 => if v6 = v7 then (K15 x0 x1 x2 (x3 + (1 : Int32)) σ) else (f_X12_word_69 K4 x0 x1 x2 x3 σ)))
def f_X12_word_15  (K4 : Nat → Int32 → Int32 → ah_H → Option (Int32 × ah_H)) : Nat → Nat → Int32 → Int32 → Int32 → ah_H → Option (Int32 × ah_H)
  | 0, _, _, _, _, _ => none
  | n + 1, x0, x1, x2, x3, σ => f_X12_word_15_b K4 (f_X12_word_15 K4 n) x0 x1 x2 x3 σ
def f_X12_word_4_b  (K4 : Nat → Int32 → Int32 → ah_H → Option (Int32 × ah_H)) (x0 : Nat) (x1 : Int32) (x2 : Int32) (σ : ah_H) : Option (Int32 × ah_H) :=
  (op_tlen 1000002).bind fun v1 => if v1 ≤ x2 then (some ((-1 : Int32), σ)) else (f_X12_word_15 K4 5000 x0 x1 x2 (0 : Int32) σ)
def f_X12_word_4   : Nat → Nat → Int32 → Int32 → ah_H → Option (Int32 × ah_H)
  | 0, _, _, _, _ => none
  | n + 1, x0, x1, x2, σ => f_X12_word_4_b (f_X12_word_4 n) x0 x1 x2 σ
def f_X12_word_0   (x0 : Nat) (σ : ah_H) : Option (Int32 × ah_H) :=
  f_X12_word_4 5000 x0 (0 : Int32) (0 : Int32) σ
def f_X12_word  (x0 : Nat) (σ : ah_H) : Option (Int32 × ah_H) := op_ck 12 σ x0 (f_X12_word_0 x0 σ)
set_option maxRecDepth 100000 in
set_option maxHeartbeats 4000000 in
theorem c_X12_word_114 {G : ah_G}  (K4 : Nat → Int32 → Int32 → ah_H → Option (Int32 × ah_H)) (hK4 : ∀ (x0 : Nat) (x1 : Int32) (x2 : Int32) (σ : ah_H) (r : Int32 × ah_H), K4 x0 x1 x2 σ = some r → AW G m_X12_word 4 0 0 4 [(0, .ref x0), (1, .int x1), (2, .int x2)] [] σ (ah_N G (ah_ri r))) : ∀ (x0 : Nat) (x1 : Int32) (x2 : Int32) (σ : ah_H) (r : Int32 × ah_H), f_X12_word_114  K4 x0 x1 x2 σ = some r → AW G m_X12_word 4 0 0 114 [(0, .ref x0), (1, .int x1), (2, .int x2)] [] σ (ah_N G (ah_ri r)) := by
  intro x0 x1 x2 σ r h
  unfold f_X12_word_114 at h
  refine aw_iinc (pc := 114) 2 [(2, .int (x2 + (1 : Int32))), (0, .ref x0), (1, .int x1)] (x2 + (1 : Int32)) dX12_word_114 rfl rfl (by decide) rfl ?_
  refine aw_iinc (pc := 117) 2 [(1, .int (x1 + (1 : Int32))), (2, .int (x2 + (1 : Int32))), (0, .ref x0)] (x1 + (1 : Int32)) dX12_word_117 rfl rfl (by decide) rfl ?_
  refine aw_goto (pc := 120) 4 dX12_word_120 (by decide) ?_
  refine aw_sub [2, 0, 1] rfl ?_
  exact hK4 _ _ _ _ _ h
set_option maxRecDepth 100000 in
set_option maxHeartbeats 4000000 in
theorem c_X12_word_97_b {G : ah_G}  (K4 : Nat → Int32 → Int32 → ah_H → Option (Int32 × ah_H)) (hK4 : ∀ (x0 : Nat) (x1 : Int32) (x2 : Int32) (σ : ah_H) (r : Int32 × ah_H), K4 x0 x1 x2 σ = some r → AW G m_X12_word 4 0 0 4 [(0, .ref x0), (1, .int x1), (2, .int x2)] [] σ (ah_N G (ah_ri r))) (K97 : Nat → Int32 → Int32 → ah_H → Option (Int32 × ah_H)) (hK97 : ∀ (x0 : Nat) (x1 : Int32) (x2 : Int32) (σ : ah_H) (r : Int32 × ah_H), K97 x0 x1 x2 σ = some r → AW G m_X12_word 4 0 0 97 [(0, .ref x0), (1, .int x1), (2, .int x2)] [] σ (ah_N G (ah_ri r))) : ∀ (x0 : Nat) (x1 : Int32) (x2 : Int32) (σ : ah_H) (r : Int32 × ah_H), f_X12_word_97_b  K4 K97 x0 x1 x2 σ = some r → AW G m_X12_word 4 0 0 97 [(0, .ref x0), (1, .int x1), (2, .int x2)] [] σ (ah_N G (ah_ri r)) := by
  intro x0 x1 x2 σ r h
  unfold f_X12_word_97_b at h
  refine aw_ldcS (pc := 97) (i := 2) (by decide) dX12_word_97 rfl rfl ?_
  refine aw_iload_n (pc := 99) 2 dX12_word_99 rfl ?_
  obtain ⟨v1, e, h⟩ := op_bd h
  refine ow_tch (pc := 100) e dX12_word_100 tw_X12_201 (Nat.le_of_ble_eq_true rfl) ?_
  refine aw_bipush (pc := 103) (v := (32 : Int32)) dX12_word_103 (by decide) ?_
  refine aw_icmp_eq (pc := 105) 114 dX12_word_105 (by decide) (fun z => ?_) (fun z => ?_)
  · replace h := (if_pos z).symm.trans h
    exact c_X12_word_114 K4 hK4 _ _ _ _ _ h
  · replace h := (if_neg z).symm.trans h
    refine aw_iinc (pc := 108) 2 [(2, .int (x2 + (1 : Int32))), (0, .ref x0), (1, .int x1)] (x2 + (1 : Int32)) dX12_word_108 rfl rfl (by decide) rfl ?_
    refine aw_goto (pc := 111) 97 dX12_word_111 (by decide) ?_
    refine aw_sub [1, 2, 0] rfl ?_
    exact hK97 _ _ _ _ _ h
theorem c_X12_word_97 {G : ah_G}  (K4 : Nat → Int32 → Int32 → ah_H → Option (Int32 × ah_H)) (hK4 : ∀ (x0 : Nat) (x1 : Int32) (x2 : Int32) (σ : ah_H) (r : Int32 × ah_H), K4 x0 x1 x2 σ = some r → AW G m_X12_word 4 0 0 4 [(0, .ref x0), (1, .int x1), (2, .int x2)] [] σ (ah_N G (ah_ri r))) : ∀ (n : Nat) (x0 : Nat) (x1 : Int32) (x2 : Int32) (σ : ah_H) (r : Int32 × ah_H), f_X12_word_97  K4 n x0 x1 x2 σ = some r → AW G m_X12_word 4 0 0 97 [(0, .ref x0), (1, .int x1), (2, .int x2)] [] σ (ah_N G (ah_ri r)) := by
  intro n
  induction n with
  | zero => intro x0 x1 x2 σ r h; cases h
  | succ n ih => intro x0 x1 x2 σ r h; exact c_X12_word_97_b  K4 hK4 _ ih x0 x1 x2 σ r h
set_option maxRecDepth 100000 in
set_option maxHeartbeats 4000000 in
theorem c_X12_word_69 {G : ah_G}  (K4 : Nat → Int32 → Int32 → ah_H → Option (Int32 × ah_H)) (hK4 : ∀ (x0 : Nat) (x1 : Int32) (x2 : Int32) (σ : ah_H) (r : Int32 × ah_H), K4 x0 x1 x2 σ = some r → AW G m_X12_word 4 0 0 4 [(0, .ref x0), (1, .int x1), (2, .int x2)] [] σ (ah_N G (ah_ri r))) : ∀ (x0 : Nat) (x1 : Int32) (x2 : Int32) (x3 : Int32) (σ : ah_H) (r : Int32 × ah_H), f_X12_word_69  K4 x0 x1 x2 x3 σ = some r → AW G m_X12_word 4 0 0 69 [(0, .ref x0), (1, .int x1), (2, .int x2), (3, .int x3)] [] σ (ah_N G (ah_ri r)) := by
  intro x0 x1 x2 x3 σ r h
  unfold f_X12_word_69 at h
  refine aw_ldcS (pc := 69) (i := 2) (by decide) dX12_word_69 rfl rfl ?_
  refine aw_iload_n (pc := 71) 2 dX12_word_71 rfl ?_
  refine aw_iload_n (pc := 72) 3 dX12_word_72 rfl ?_
  refine aw_iadd (pc := 73) dX12_word_73 ?_
  obtain ⟨v1, e, h⟩ := op_bd h
  refine ow_tch (pc := 74) e dX12_word_74 tw_X12_201 (Nat.le_of_ble_eq_true rfl) ?_
  refine aw_bipush (pc := 77) (v := (32 : Int32)) dX12_word_77 (by decide) ?_
  refine aw_icmp_ne (pc := 79) 97 dX12_word_79 (by decide) (fun z => ?_) (fun z => ?_)
  · replace h := (if_neg z).symm.trans h
    refine aw_sub [0, 1, 2] rfl ?_
    exact c_X12_word_97 K4 hK4 _ _ _ _ _ _ h
  · replace h := (if_pos z).symm.trans h
    refine aw_aload_n (pc := 82) 0 dX12_word_82 rfl ?_
    obtain ⟨v2, e, h⟩ := op_bd h
    refine ow_gI (pc := 83) e dX12_word_83 fd_X12_169 rfl ?_
    refine aw_iload_n (pc := 86) 3 dX12_word_86 rfl ?_
    refine aw_iadd (pc := 87) dX12_word_87 ?_
    refine aw_aload_n (pc := 88) 0 dX12_word_88 rfl ?_
    obtain ⟨v3, e, h⟩ := op_bd h
    refine ow_gI (pc := 89) e dX12_word_89 fd_X12_159 rfl ?_
    refine aw_icmp_ne (pc := 92) 97 dX12_word_92 (by decide) (fun z => ?_) (fun z => ?_)
    · replace h := (if_neg z).symm.trans h
      refine aw_sub [0, 1, 2] rfl ?_
      exact c_X12_word_97 K4 hK4 _ _ _ _ _ _ h
    · replace h := (if_pos z).symm.trans h
      refine aw_iload_n (pc := 95) 1 dX12_word_95 rfl ?_
      exact ow_iret (pc := 96) h dX12_word_96 rfl
set_option maxRecDepth 100000 in
set_option maxHeartbeats 4000000 in
theorem c_X12_word_15_b {G : ah_G}  (K4 : Nat → Int32 → Int32 → ah_H → Option (Int32 × ah_H)) (hK4 : ∀ (x0 : Nat) (x1 : Int32) (x2 : Int32) (σ : ah_H) (r : Int32 × ah_H), K4 x0 x1 x2 σ = some r → AW G m_X12_word 4 0 0 4 [(0, .ref x0), (1, .int x1), (2, .int x2)] [] σ (ah_N G (ah_ri r))) (K15 : Nat → Int32 → Int32 → Int32 → ah_H → Option (Int32 × ah_H)) (hK15 : ∀ (x0 : Nat) (x1 : Int32) (x2 : Int32) (x3 : Int32) (σ : ah_H) (r : Int32 × ah_H), K15 x0 x1 x2 x3 σ = some r → AW G m_X12_word 4 0 0 15 [(0, .ref x0), (1, .int x1), (2, .int x2), (3, .int x3)] [] σ (ah_N G (ah_ri r))) : ∀ (x0 : Nat) (x1 : Int32) (x2 : Int32) (x3 : Int32) (σ : ah_H) (r : Int32 × ah_H), f_X12_word_15_b  K4 K15 x0 x1 x2 x3 σ = some r → AW G m_X12_word 4 0 0 15 [(0, .ref x0), (1, .int x1), (2, .int x2), (3, .int x3)] [] σ (ah_N G (ah_ri r)) := by
  intro x0 x1 x2 x3 σ r h
  unfold f_X12_word_15_b at h
  refine aw_ldcS (pc := 15) (i := 2) (by decide) dX12_word_15 rfl rfl ?_
  refine aw_iload_n (pc := 17) 2 dX12_word_17 rfl ?_
  refine aw_iload_n (pc := 18) 3 dX12_word_18 rfl ?_
  refine aw_iadd (pc := 19) dX12_word_19 ?_
  obtain ⟨v1, e, h⟩ := op_bd h
  refine ow_tch (pc := 20) e dX12_word_20 tw_X12_201 (Nat.le_of_ble_eq_true rfl) ?_
  refine aw_bipush (pc := 23) (v := (32 : Int32)) dX12_word_23 (by decide) ?_
  refine aw_icmp_eq (pc := 25) 69 dX12_word_25 (by decide) (fun z => ?_) (fun z => ?_)
  · replace h := (if_pos z).symm.trans h
    exact c_X12_word_69 K4 hK4 _ _ _ _ _ _ h
  · replace h := (if_neg z).symm.trans h
    refine aw_aload_n (pc := 28) 0 dX12_word_28 rfl ?_
    obtain ⟨v2, e, h⟩ := op_bd h
    refine ow_gI (pc := 29) e dX12_word_29 fd_X12_169 rfl ?_
    refine aw_iload_n (pc := 32) 3 dX12_word_32 rfl ?_
    refine aw_iadd (pc := 33) dX12_word_33 ?_
    refine aw_aload_n (pc := 34) 0 dX12_word_34 rfl ?_
    obtain ⟨v3, e, h⟩ := op_bd h
    refine ow_gI (pc := 35) e dX12_word_35 fd_X12_159 rfl ?_
    refine aw_icmp_ge (pc := 38) 69 dX12_word_38 (by decide) (fun z => ?_) (fun z => ?_)
    · replace h := (if_pos z).symm.trans h
      exact c_X12_word_69 K4 hK4 _ _ _ _ _ _ h
    · replace h := (if_neg z).symm.trans h
      refine aw_aload_n (pc := 41) 0 dX12_word_41 rfl ?_
      obtain ⟨v4, e, h⟩ := op_bd h
      refine ow_gR (pc := 42) e dX12_word_42 fd_X12_9 rfl ?_
      refine aw_aload_n (pc := 45) 0 dX12_word_45 rfl ?_
      obtain ⟨v5, e, h⟩ := op_bd h
      refine ow_gI (pc := 46) e dX12_word_46 fd_X12_169 rfl ?_
      refine aw_iload_n (pc := 49) 3 dX12_word_49 rfl ?_
      refine aw_iadd (pc := 50) dX12_word_50 ?_
      obtain ⟨v6, e, h⟩ := op_bd h
      refine ow_aI (pc := 51) e dX12_word_51 ?_
      refine aw_ldcS (pc := 52) (i := 2) (by decide) dX12_word_52 rfl rfl ?_
      refine aw_iload_n (pc := 54) 2 dX12_word_54 rfl ?_
      refine aw_iload_n (pc := 55) 3 dX12_word_55 rfl ?_
      refine aw_iadd (pc := 56) dX12_word_56 ?_
      obtain ⟨v7, e, h⟩ := op_bd h
      refine ow_tch (pc := 57) e dX12_word_57 tw_X12_201 (Nat.le_of_ble_eq_true rfl) ?_
      refine aw_icmp_ne (pc := 60) 69 dX12_word_60 (by decide) (fun z => ?_) (fun z => ?_)
      · replace h := (if_neg z).symm.trans h
        exact c_X12_word_69 K4 hK4 _ _ _ _ _ _ h
      · replace h := (if_pos z).symm.trans h
        refine aw_iinc (pc := 63) 3 [(3, .int (x3 + (1 : Int32))), (0, .ref x0), (1, .int x1), (2, .int x2)] (x3 + (1 : Int32)) dX12_word_63 rfl rfl (by decide) rfl ?_
        refine aw_goto (pc := 66) 15 dX12_word_66 (by decide) ?_
        refine aw_sub [1, 2, 3, 0] rfl ?_
        exact hK15 _ _ _ _ _ _ h
theorem c_X12_word_15 {G : ah_G}  (K4 : Nat → Int32 → Int32 → ah_H → Option (Int32 × ah_H)) (hK4 : ∀ (x0 : Nat) (x1 : Int32) (x2 : Int32) (σ : ah_H) (r : Int32 × ah_H), K4 x0 x1 x2 σ = some r → AW G m_X12_word 4 0 0 4 [(0, .ref x0), (1, .int x1), (2, .int x2)] [] σ (ah_N G (ah_ri r))) : ∀ (n : Nat) (x0 : Nat) (x1 : Int32) (x2 : Int32) (x3 : Int32) (σ : ah_H) (r : Int32 × ah_H), f_X12_word_15  K4 n x0 x1 x2 x3 σ = some r → AW G m_X12_word 4 0 0 15 [(0, .ref x0), (1, .int x1), (2, .int x2), (3, .int x3)] [] σ (ah_N G (ah_ri r)) := by
  intro n
  induction n with
  | zero => intro x0 x1 x2 x3 σ r h; cases h
  | succ n ih => intro x0 x1 x2 x3 σ r h; exact c_X12_word_15_b  K4 hK4 _ ih x0 x1 x2 x3 σ r h
set_option maxRecDepth 100000 in
set_option maxHeartbeats 4000000 in
theorem c_X12_word_4_b {G : ah_G}  (K4 : Nat → Int32 → Int32 → ah_H → Option (Int32 × ah_H)) (hK4 : ∀ (x0 : Nat) (x1 : Int32) (x2 : Int32) (σ : ah_H) (r : Int32 × ah_H), K4 x0 x1 x2 σ = some r → AW G m_X12_word 4 0 0 4 [(0, .ref x0), (1, .int x1), (2, .int x2)] [] σ (ah_N G (ah_ri r))) : ∀ (x0 : Nat) (x1 : Int32) (x2 : Int32) (σ : ah_H) (r : Int32 × ah_H), f_X12_word_4_b  K4 x0 x1 x2 σ = some r → AW G m_X12_word 4 0 0 4 [(0, .ref x0), (1, .int x1), (2, .int x2)] [] σ (ah_N G (ah_ri r)) := by
  intro x0 x1 x2 σ r h
  unfold f_X12_word_4_b at h
  refine aw_iload_n (pc := 4) 2 dX12_word_4 rfl ?_
  refine aw_ldcS (pc := 5) (i := 2) (by decide) dX12_word_5 rfl rfl ?_
  obtain ⟨v1, e, h⟩ := op_bd h
  refine ow_tlen (pc := 7) e dX12_word_7 tw_X12_197 (Nat.le_of_ble_eq_true rfl) ?_
  refine aw_icmp_ge (pc := 10) 123 dX12_word_10 (by decide) (fun z => ?_) (fun z => ?_)
  · replace h := (if_pos z).symm.trans h
    refine aw_iconst (pc := 123) (v := (-1 : Int32)) dX12_word_123 (by decide) ?_
    exact ow_iret (pc := 124) h dX12_word_124 rfl
  · replace h := (if_neg z).symm.trans h
    refine aw_iconst (pc := 13) (v := (0 : Int32)) dX12_word_13 (by decide) ?_
    refine aw_istore_n (pc := 14) [(3, .int (0 : Int32)), (0, .ref x0), (1, .int x1), (2, .int x2)] dX12_word_14 rfl (by decide) rfl ?_
    refine aw_sub [1, 2, 3, 0] rfl ?_
    exact c_X12_word_15 K4 hK4 _ _ _ _ _ _ _ h
theorem c_X12_word_4 {G : ah_G}   : ∀ (n : Nat) (x0 : Nat) (x1 : Int32) (x2 : Int32) (σ : ah_H) (r : Int32 × ah_H), f_X12_word_4   n x0 x1 x2 σ = some r → AW G m_X12_word 4 0 0 4 [(0, .ref x0), (1, .int x1), (2, .int x2)] [] σ (ah_N G (ah_ri r)) := by
  intro n
  induction n with
  | zero => intro x0 x1 x2 σ r h; cases h
  | succ n ih => intro x0 x1 x2 σ r h; exact c_X12_word_4_b   _ ih x0 x1 x2 σ r h
set_option maxRecDepth 100000 in
set_option maxHeartbeats 4000000 in
theorem c_X12_word_0 {G : ah_G}   : ∀ (x0 : Nat) (σ : ah_H) (r : Int32 × ah_H), f_X12_word_0   x0 σ = some r → AW G m_X12_word 4 0 0 0 [(0, .ref x0)] [] σ (ah_N G (ah_ri r)) := by
  intro x0 σ r h
  unfold f_X12_word_0 at h
  refine aw_iconst (pc := 0) (v := (0 : Int32)) dX12_word_0 (by decide) ?_
  refine aw_istore_n (pc := 1) [(1, .int (0 : Int32)), (0, .ref x0)] dX12_word_1 rfl (by decide) rfl ?_
  refine aw_iconst (pc := 2) (v := (0 : Int32)) dX12_word_2 (by decide) ?_
  refine aw_istore_n (pc := 3) [(2, .int (0 : Int32)), (1, .int (0 : Int32)), (0, .ref x0)] dX12_word_3 rfl (by decide) rfl ?_
  refine aw_sub [2, 1, 0] rfl ?_
  exact c_X12_word_4  _ _ _ _ _ _ h
theorem c_X12_word {G : ah_G}   (x0 : Nat) (σ : ah_H) (r : Int32 × ah_H) (h : f_X12_word  x0 σ = some r) : AM G m_X12_word 4 0 0 [.ref x0] σ (ah_ri r) := aw_enter (by decide) (Nat.le_of_ble_eq_true rfl) (c_X12_word_0 _ _ _ (op_ck_k h))
def f_X12_token_18  (K0 : Nat → ah_H → Option (ah_H)) (x0 : Nat) (σ : ah_H) : Option (ah_H) :=
  (op_gI 12 25 σ x0).bind fun v1 => (op_pI 12 25 σ x0 (v1 + (1 : Int32))).bind fun σ2 => K0 x0 σ2
def f_X12_token_127   (x0 : Nat) (s0 : Nat) (s1 : Int32) (σ : ah_H) : Option (ah_H) :=
  (op_pI 12 27 σ s0 s1).bind fun σ1 => (op_gI 12 27 σ1 x0).bind fun v2 => if v2 = (1 : Int32) then ((f_X12_name x0 σ1).bind fun r3 => some r3) else (some σ1)
def f_X12_token_87   (x0 : Nat) (σ : ah_H) : Option (ah_H) :=
  (f_X12_word x0 σ).bind fun r1 => (op_pI 12 28 r1.2 x0 r1.1).bind fun σ2 => (op_gI 12 28 σ2 x0).bind fun v3 => if v3 = (-1 : Int32) then ((op_gI 12 25 σ2 x0).bind fun v4 => (op_gI 12 26 σ2 x0).bind fun v5 => if (v4 - v5) ≤ (6 : Int32) then (f_X12_token_127 x0 x0 (1 : Int32) σ2) else (f_X12_token_127 x0 x0 (5 : Int32) σ2)) else (f_X12_token_127 x0 x0 (0 : Int32) σ2)
def f_X12_token_64_b  (K64 : Nat → ah_H → Option (ah_H)) (x0 : Nat) (σ : ah_H) : Option (ah_H) :=
  (f_X12_here x0 σ).bind fun r1 => (f_X12_isSmall r1.1 r1.2).bind fun r2 => if r2.1 = 0 then (f_X12_token_87 x0 r2.2) else ((op_gI 12 25 r2.2 x0).bind fun v3 => (op_pI 12 25 r2.2 x0 (v3 + (1 : Int32))).bind fun σ4 => K64 x0 σ4)
def f_X12_token_64   : Nat → Nat → ah_H → Option (ah_H)
  | 0, _, _ => none
  | n + 1, x0, σ => f_X12_token_64_b (f_X12_token_64 n) x0 σ
def f_X12_token_205  (K162 : Nat → ah_H → Option (ah_H)) (x0 : Nat) (s0 : Nat) (s1 : Int32) (σ : ah_H) : Option (ah_H) :=
  (op_pI 12 28 σ s0 s1).bind fun σ1 => (op_gI 12 25 σ1 x0).bind fun v2 => (op_pI 12 25 σ1 x0 (v2 + (1 : Int32))).bind fun σ3 => K162 x0 σ3
def f_X12_token_162_b  (K162 : Nat → ah_H → Option (ah_H)) (x0 : Nat) (σ : ah_H) : Option (ah_H) :=
  (f_X12_here x0 σ).bind fun r1 => (f_X12_isDigit r1.1 r1.2).bind fun r2 => if r2.1 = 0 then (some r2.2) else ((op_gI 12 28 r2.2 x0).bind fun v3 => if v3 ≤ (9999 : Int32) then ((op_gI 12 28 r2.2 x0).bind fun v4 => (f_X12_here x0 r2.2).bind fun r5 => f_X12_token_205 K162 x0 x0 ((((10 : Int32) * v4) + r5.1) - (48 : Int32)) r5.2) else ((op_gI 12 28 r2.2 x0).bind fun v6 => f_X12_token_205 K162 x0 x0 v6 r2.2))
def f_X12_token_162   : Nat → Nat → ah_H → Option (ah_H)
  | 0, _, _ => none
  | n + 1, x0, σ => f_X12_token_162_b (f_X12_token_162 n) x0 σ
def f_X12_token_31   (x0 : Nat) (σ : ah_H) : Option (ah_H) :=
  (op_gI 12 25 σ x0).bind fun v1 => (op_pI 12 26 σ x0 v1).bind fun σ2 => (f_X12_here x0 σ2).bind fun r3 => if r3.1 = (-1 : Int32) then ((op_pI 12 27 r3.2 x0 (4 : Int32)).bind fun σ9 => some σ9) else ((f_X12_isSmall r3.1 r3.2).bind fun r4 => if r4.1 = 0 then ((f_X12_isDigit r3.1 r4.2).bind fun r5 => if r5.1 = 0 then ((f_X12_sign x0 r3.1 r5.2).bind fun r6 => some r6) else ((op_pI 12 27 r5.2 x0 (2 : Int32)).bind fun σ7 => (op_pI 12 28 σ7 x0 (0 : Int32)).bind fun σ8 => f_X12_token_162 5000 x0 σ8)) else (f_X12_token_64 5000 x0 r4.2))
def f_X12_token_0_b  (K0 : Nat → ah_H → Option (ah_H)) (x0 : Nat) (σ : ah_H) : Option (ah_H) :=
  (f_X12_here x0 σ).bind fun r1 => if r1.1 = (10 : Int32) then (f_X12_token_18 K0 x0 r1.2) else ((f_X12_here x0 r1.2).bind fun r2 => if r2.1 = (32 : Int32) then (f_X12_token_18 K0 x0 r2.2) else (f_X12_token_31 x0 r2.2))
def f_X12_token_0   : Nat → Nat → ah_H → Option (ah_H)
  | 0, _, _ => none
  | n + 1, x0, σ => f_X12_token_0_b (f_X12_token_0 n) x0 σ
def f_X12_token  (x0 : Nat) (σ : ah_H) : Option (ah_H) := op_ck 12 σ x0 (f_X12_token_0 5000 x0 σ)
set_option maxRecDepth 100000 in
set_option maxHeartbeats 4000000 in
theorem c_X12_token_18 {G : ah_G}  (K0 : Nat → ah_H → Option (ah_H)) (hK0 : ∀ (x0 : Nat) (σ : ah_H) (r : ah_H), K0 x0 σ = some r → AW G m_X12_token 5 0 0 0 [(0, .ref x0)] [] σ (ah_N G (ah_rv r))) : ∀ (x0 : Nat) (σ : ah_H) (r : ah_H), f_X12_token_18  K0 x0 σ = some r → AW G m_X12_token 5 0 0 18 [(0, .ref x0)] [] σ (ah_N G (ah_rv r)) := by
  intro x0 σ r h
  unfold f_X12_token_18 at h
  refine aw_aload_n (pc := 18) 0 dX12_token_18 rfl ?_
  refine aw_dup (pc := 19) dX12_token_19 rfl ?_
  obtain ⟨v1, e, h⟩ := op_bd h
  refine ow_gI (pc := 20) e dX12_token_20 fd_X12_159 rfl ?_
  refine aw_iconst (pc := 23) (v := (1 : Int32)) dX12_token_23 (by decide) ?_
  refine aw_iadd (pc := 24) dX12_token_24 ?_
  obtain ⟨σ2, e, h⟩ := op_bd h
  refine ow_pI (pc := 25) e dX12_token_25 fd_X12_159 ?_
  refine aw_goto (pc := 28) 0 dX12_token_28 (by decide) ?_
  exact hK0 _ _ _ h
set_option maxRecDepth 100000 in
set_option maxHeartbeats 4000000 in
theorem c_X12_token_127 {G : ah_G}   : ∀ (x0 : Nat) (s0 : Nat) (s1 : Int32) (σ : ah_H) (r : ah_H), f_X12_token_127   x0 s0 s1 σ = some r → AW G m_X12_token 5 0 0 127 [(0, .ref x0)] [.int s1, .ref s0] σ (ah_N G (ah_rv r)) := by
  intro x0 s0 s1 σ r h
  unfold f_X12_token_127 at h
  obtain ⟨σ1, e, h⟩ := op_bd h
  refine ow_pI (pc := 127) e dX12_token_127 fd_X12_172 ?_
  refine aw_aload_n (pc := 130) 0 dX12_token_130 rfl ?_
  obtain ⟨v2, e, h⟩ := op_bd h
  refine ow_gI (pc := 131) e dX12_token_131 fd_X12_172 rfl ?_
  refine aw_iconst (pc := 134) (v := (1 : Int32)) dX12_token_134 (by decide) ?_
  refine aw_icmp_ne (pc := 135) 226 dX12_token_135 (by decide) (fun z => ?_) (fun z => ?_)
  · replace h := (if_neg z).symm.trans h
    exact ow_vret (pc := 226) h dX12_token_226 rfl
  · replace h := (if_pos z).symm.trans h
    refine aw_aload_n (pc := 138) 0 dX12_token_138 rfl ?_
    obtain ⟨r3, e, h⟩ := op_bd h
    refine ow_cVv (pc := 139) [] ((c_X12_name _ _ _ e).mono (by decide)) (op_ck_sh e) rfl dX12_token_139 cw_X12_185 rfl (Nat.le_of_ble_eq_true rfl) ?_
    refine aw_goto (pc := 142) 226 dX12_token_142 (by decide) ?_
    exact ow_vret (pc := 226) h dX12_token_226 rfl
set_option maxRecDepth 100000 in
set_option maxHeartbeats 4000000 in
theorem c_X12_token_87 {G : ah_G}   : ∀ (x0 : Nat) (σ : ah_H) (r : ah_H), f_X12_token_87   x0 σ = some r → AW G m_X12_token 5 0 0 87 [(0, .ref x0)] [] σ (ah_N G (ah_rv r)) := by
  intro x0 σ r h
  unfold f_X12_token_87 at h
  refine aw_aload_n (pc := 87) 0 dX12_token_87 rfl ?_
  refine aw_aload_n (pc := 88) 0 dX12_token_88 rfl ?_
  obtain ⟨r1, e, h⟩ := op_bd h
  refine ow_cVi (pc := 89) [] ((c_X12_word _ _ _ e).mono (by decide)) (op_ck_sh e) rfl dX12_token_89 cw_X12_179 rfl (Nat.le_of_ble_eq_true rfl) ?_
  obtain ⟨σ2, e, h⟩ := op_bd h
  refine ow_pI (pc := 92) e dX12_token_92 fd_X12_182 ?_
  refine aw_aload_n (pc := 95) 0 dX12_token_95 rfl ?_
  refine aw_aload_n (pc := 96) 0 dX12_token_96 rfl ?_
  obtain ⟨v3, e, h⟩ := op_bd h
  refine ow_gI (pc := 97) e dX12_token_97 fd_X12_182 rfl ?_
  refine aw_iconst (pc := 100) (v := (-1 : Int32)) dX12_token_100 (by decide) ?_
  refine aw_icmp_eq (pc := 101) 108 dX12_token_101 (by decide) (fun z => ?_) (fun z => ?_)
  · replace h := (if_pos z).symm.trans h
    refine aw_aload_n (pc := 108) 0 dX12_token_108 rfl ?_
    obtain ⟨v4, e, h⟩ := op_bd h
    refine ow_gI (pc := 109) e dX12_token_109 fd_X12_159 rfl ?_
    refine aw_aload_n (pc := 112) 0 dX12_token_112 rfl ?_
    obtain ⟨v5, e, h⟩ := op_bd h
    refine ow_gI (pc := 113) e dX12_token_113 fd_X12_169 rfl ?_
    refine aw_isub (pc := 116) dX12_token_116 ?_
    refine aw_bipush (pc := 117) (v := (6 : Int32)) dX12_token_117 (by decide) ?_
    refine aw_icmp_le (pc := 119) 126 dX12_token_119 (by decide) (fun z => ?_) (fun z => ?_)
    · replace h := (if_pos z).symm.trans h
      refine aw_iconst (pc := 126) (v := (1 : Int32)) dX12_token_126 (by decide) ?_
      exact c_X12_token_127  _ _ _ _ _ h
    · replace h := (if_neg z).symm.trans h
      refine aw_iconst (pc := 122) (v := (5 : Int32)) dX12_token_122 (by decide) ?_
      refine aw_goto (pc := 123) 127 dX12_token_123 (by decide) ?_
      exact c_X12_token_127  _ _ _ _ _ h
  · replace h := (if_neg z).symm.trans h
    refine aw_iconst (pc := 104) (v := (0 : Int32)) dX12_token_104 (by decide) ?_
    refine aw_goto (pc := 105) 127 dX12_token_105 (by decide) ?_
    exact c_X12_token_127  _ _ _ _ _ h
set_option maxRecDepth 100000 in
set_option maxHeartbeats 4000000 in
theorem c_X12_token_64_b {G : ah_G}  (K64 : Nat → ah_H → Option (ah_H)) (hK64 : ∀ (x0 : Nat) (σ : ah_H) (r : ah_H), K64 x0 σ = some r → AW G m_X12_token 5 0 0 64 [(0, .ref x0)] [] σ (ah_N G (ah_rv r))) : ∀ (x0 : Nat) (σ : ah_H) (r : ah_H), f_X12_token_64_b  K64 x0 σ = some r → AW G m_X12_token 5 0 0 64 [(0, .ref x0)] [] σ (ah_N G (ah_rv r)) := by
  intro x0 σ r h
  unfold f_X12_token_64_b at h
  refine aw_aload_n (pc := 64) 0 dX12_token_64 rfl ?_
  obtain ⟨r1, e, h⟩ := op_bd h
  refine ow_cVi (pc := 65) [] ((c_X12_here _ _ _ e).mono (by decide)) (op_ck_sh e) rfl dX12_token_65 cw_X12_165 rfl (Nat.le_of_ble_eq_true rfl) ?_
  obtain ⟨r2, e, h⟩ := op_bd h
  refine ow_cSi (pc := 68) [.int r1.1] ((c_X12_isSmall _ _ _ e).mono (by decide)) rfl dX12_token_68 cw_X12_175 rfl (Nat.le_of_ble_eq_true rfl) ?_
  refine aw_if_eq (pc := 71) 87 dX12_token_71 (by decide) (fun z => ?_) (fun z => ?_)
  · replace h := (if_pos z).symm.trans h
    exact c_X12_token_87  _ _ _ h
  · replace h := (if_neg z).symm.trans h
    refine aw_aload_n (pc := 74) 0 dX12_token_74 rfl ?_
    refine aw_dup (pc := 75) dX12_token_75 rfl ?_
    obtain ⟨v3, e, h⟩ := op_bd h
    refine ow_gI (pc := 76) e dX12_token_76 fd_X12_159 rfl ?_
    refine aw_iconst (pc := 79) (v := (1 : Int32)) dX12_token_79 (by decide) ?_
    refine aw_iadd (pc := 80) dX12_token_80 ?_
    obtain ⟨σ4, e, h⟩ := op_bd h
    refine ow_pI (pc := 81) e dX12_token_81 fd_X12_159 ?_
    refine aw_goto (pc := 84) 64 dX12_token_84 (by decide) ?_
    exact hK64 _ _ _ h
theorem c_X12_token_64 {G : ah_G}   : ∀ (n : Nat) (x0 : Nat) (σ : ah_H) (r : ah_H), f_X12_token_64   n x0 σ = some r → AW G m_X12_token 5 0 0 64 [(0, .ref x0)] [] σ (ah_N G (ah_rv r)) := by
  intro n
  induction n with
  | zero => intro x0 σ r h; cases h
  | succ n ih => intro x0 σ r h; exact c_X12_token_64_b   _ ih x0 σ r h
set_option maxRecDepth 100000 in
set_option maxHeartbeats 4000000 in
theorem c_X12_token_205 {G : ah_G}  (K162 : Nat → ah_H → Option (ah_H)) (hK162 : ∀ (x0 : Nat) (σ : ah_H) (r : ah_H), K162 x0 σ = some r → AW G m_X12_token 5 0 0 162 [(0, .ref x0)] [] σ (ah_N G (ah_rv r))) : ∀ (x0 : Nat) (s0 : Nat) (s1 : Int32) (σ : ah_H) (r : ah_H), f_X12_token_205  K162 x0 s0 s1 σ = some r → AW G m_X12_token 5 0 0 205 [(0, .ref x0)] [.int s1, .ref s0] σ (ah_N G (ah_rv r)) := by
  intro x0 s0 s1 σ r h
  unfold f_X12_token_205 at h
  obtain ⟨σ1, e, h⟩ := op_bd h
  refine ow_pI (pc := 205) e dX12_token_205 fd_X12_182 ?_
  refine aw_aload_n (pc := 208) 0 dX12_token_208 rfl ?_
  refine aw_dup (pc := 209) dX12_token_209 rfl ?_
  obtain ⟨v2, e, h⟩ := op_bd h
  refine ow_gI (pc := 210) e dX12_token_210 fd_X12_159 rfl ?_
  refine aw_iconst (pc := 213) (v := (1 : Int32)) dX12_token_213 (by decide) ?_
  refine aw_iadd (pc := 214) dX12_token_214 ?_
  obtain ⟨σ3, e, h⟩ := op_bd h
  refine ow_pI (pc := 215) e dX12_token_215 fd_X12_159 ?_
  refine aw_goto (pc := 218) 162 dX12_token_218 (by decide) ?_
  exact hK162 _ _ _ h
set_option maxRecDepth 100000 in
set_option maxHeartbeats 4000000 in
theorem c_X12_token_162_b {G : ah_G}  (K162 : Nat → ah_H → Option (ah_H)) (hK162 : ∀ (x0 : Nat) (σ : ah_H) (r : ah_H), K162 x0 σ = some r → AW G m_X12_token 5 0 0 162 [(0, .ref x0)] [] σ (ah_N G (ah_rv r))) : ∀ (x0 : Nat) (σ : ah_H) (r : ah_H), f_X12_token_162_b  K162 x0 σ = some r → AW G m_X12_token 5 0 0 162 [(0, .ref x0)] [] σ (ah_N G (ah_rv r)) := by
  intro x0 σ r h
  unfold f_X12_token_162_b at h
  refine aw_aload_n (pc := 162) 0 dX12_token_162 rfl ?_
  obtain ⟨r1, e, h⟩ := op_bd h
  refine ow_cVi (pc := 163) [] ((c_X12_here _ _ _ e).mono (by decide)) (op_ck_sh e) rfl dX12_token_163 cw_X12_165 rfl (Nat.le_of_ble_eq_true rfl) ?_
  obtain ⟨r2, e, h⟩ := op_bd h
  refine ow_cSi (pc := 166) [.int r1.1] ((c_X12_isDigit _ _ _ e).mono (by decide)) rfl dX12_token_166 cw_X12_188 rfl (Nat.le_of_ble_eq_true rfl) ?_
  refine aw_if_eq (pc := 169) 226 dX12_token_169 (by decide) (fun z => ?_) (fun z => ?_)
  · replace h := (if_pos z).symm.trans h
    exact ow_vret (pc := 226) h dX12_token_226 rfl
  · replace h := (if_neg z).symm.trans h
    refine aw_aload_n (pc := 172) 0 dX12_token_172 rfl ?_
    refine aw_aload_n (pc := 173) 0 dX12_token_173 rfl ?_
    obtain ⟨v3, e, h⟩ := op_bd h
    refine ow_gI (pc := 174) e dX12_token_174 fd_X12_182 rfl ?_
    refine aw_sipush (pc := 177) (v := (9999 : Int32)) dX12_token_177 (by decide) ?_
    refine aw_icmp_le (pc := 180) 190 dX12_token_180 (by decide) (fun z => ?_) (fun z => ?_)
    · replace h := (if_pos z).symm.trans h
      refine aw_bipush (pc := 190) (v := (10 : Int32)) dX12_token_190 (by decide) ?_
      refine aw_aload_n (pc := 192) 0 dX12_token_192 rfl ?_
      obtain ⟨v4, e, h⟩ := op_bd h
      refine ow_gI (pc := 193) e dX12_token_193 fd_X12_182 rfl ?_
      refine aw_imul (pc := 196) dX12_token_196 ?_
      refine aw_aload_n (pc := 197) 0 dX12_token_197 rfl ?_
      obtain ⟨r5, e, h⟩ := op_bd h
      refine ow_cVi (pc := 198) [] ((c_X12_here _ _ _ e).mono (by decide)) (op_ck_sh e) rfl dX12_token_198 cw_X12_165 rfl (Nat.le_of_ble_eq_true rfl) ?_
      refine aw_iadd (pc := 201) dX12_token_201 ?_
      refine aw_bipush (pc := 202) (v := (48 : Int32)) dX12_token_202 (by decide) ?_
      refine aw_isub (pc := 204) dX12_token_204 ?_
      exact c_X12_token_205 K162 hK162 _ _ _ _ _ h
    · replace h := (if_neg z).symm.trans h
      refine aw_aload_n (pc := 183) 0 dX12_token_183 rfl ?_
      obtain ⟨v6, e, h⟩ := op_bd h
      refine ow_gI (pc := 184) e dX12_token_184 fd_X12_182 rfl ?_
      refine aw_goto (pc := 187) 205 dX12_token_187 (by decide) ?_
      exact c_X12_token_205 K162 hK162 _ _ _ _ _ h
theorem c_X12_token_162 {G : ah_G}   : ∀ (n : Nat) (x0 : Nat) (σ : ah_H) (r : ah_H), f_X12_token_162   n x0 σ = some r → AW G m_X12_token 5 0 0 162 [(0, .ref x0)] [] σ (ah_N G (ah_rv r)) := by
  intro n
  induction n with
  | zero => intro x0 σ r h; cases h
  | succ n ih => intro x0 σ r h; exact c_X12_token_162_b   _ ih x0 σ r h
set_option maxRecDepth 100000 in
set_option maxHeartbeats 4000000 in
theorem c_X12_token_31 {G : ah_G}   : ∀ (x0 : Nat) (σ : ah_H) (r : ah_H), f_X12_token_31   x0 σ = some r → AW G m_X12_token 5 0 0 31 [(0, .ref x0)] [] σ (ah_N G (ah_rv r)) := by
  intro x0 σ r h
  unfold f_X12_token_31 at h
  refine aw_aload_n (pc := 31) 0 dX12_token_31 rfl ?_
  refine aw_aload_n (pc := 32) 0 dX12_token_32 rfl ?_
  obtain ⟨v1, e, h⟩ := op_bd h
  refine ow_gI (pc := 33) e dX12_token_33 fd_X12_159 rfl ?_
  obtain ⟨σ2, e, h⟩ := op_bd h
  refine ow_pI (pc := 36) e dX12_token_36 fd_X12_169 ?_
  refine aw_aload_n (pc := 39) 0 dX12_token_39 rfl ?_
  obtain ⟨r3, e, h⟩ := op_bd h
  refine ow_cVi (pc := 40) [] ((c_X12_here _ _ _ e).mono (by decide)) (op_ck_sh e) rfl dX12_token_40 cw_X12_165 rfl (Nat.le_of_ble_eq_true rfl) ?_
  refine aw_istore_n (pc := 43) [(1, .int r3.1), (0, .ref x0)] dX12_token_43 rfl (by decide) rfl ?_
  refine aw_iload_n (pc := 44) 0 dX12_token_44 rfl ?_
  refine aw_iconst (pc := 45) (v := (-1 : Int32)) dX12_token_45 (by decide) ?_
  refine aw_icmp_ne (pc := 46) 57 dX12_token_46 (by decide) (fun z => ?_) (fun z => ?_)
  · replace h := (if_neg z).symm.trans h
    refine aw_iload_n (pc := 57) 0 dX12_token_57 rfl ?_
    obtain ⟨r4, e, h⟩ := op_bd h
    refine ow_cSi (pc := 58) [.int r3.1] ((c_X12_isSmall _ _ _ e).mono (by decide)) rfl dX12_token_58 cw_X12_175 rfl (Nat.le_of_ble_eq_true rfl) ?_
    refine aw_if_eq (pc := 61) 145 dX12_token_61 (by decide) (fun z => ?_) (fun z => ?_)
    · replace h := (if_pos z).symm.trans h
      refine aw_iload_n (pc := 145) 0 dX12_token_145 rfl ?_
      obtain ⟨r5, e, h⟩ := op_bd h
      refine ow_cSi (pc := 146) [.int r3.1] ((c_X12_isDigit _ _ _ e).mono (by decide)) rfl dX12_token_146 cw_X12_188 rfl (Nat.le_of_ble_eq_true rfl) ?_
      refine aw_if_eq (pc := 149) 221 dX12_token_149 (by decide) (fun z => ?_) (fun z => ?_)
      · replace h := (if_pos z).symm.trans h
        refine aw_aload_n (pc := 221) 1 dX12_token_221 rfl ?_
        refine aw_iload_n (pc := 222) 0 dX12_token_222 rfl ?_
        obtain ⟨r6, e, h⟩ := op_bd h
        refine ow_cVv (pc := 223) [.int r3.1] ((c_X12_sign _ _ _ _ e).mono (by decide)) (op_ck_sh e) rfl dX12_token_223 cw_X12_191 rfl (Nat.le_of_ble_eq_true rfl) ?_
        exact ow_vret (pc := 226) h dX12_token_226 rfl
      · replace h := (if_neg z).symm.trans h
        refine aw_aload_n (pc := 152) 1 dX12_token_152 rfl ?_
        refine aw_iconst (pc := 153) (v := (2 : Int32)) dX12_token_153 (by decide) ?_
        obtain ⟨σ7, e, h⟩ := op_bd h
        refine ow_pI (pc := 154) e dX12_token_154 fd_X12_172 ?_
        refine aw_aload_n (pc := 157) 1 dX12_token_157 rfl ?_
        refine aw_iconst (pc := 158) (v := (0 : Int32)) dX12_token_158 (by decide) ?_
        obtain ⟨σ8, e, h⟩ := op_bd h
        refine ow_pI (pc := 159) e dX12_token_159 fd_X12_182 ?_
        refine aw_sub [1] rfl ?_
        exact c_X12_token_162  _ _ _ _ h
    · replace h := (if_neg z).symm.trans h
      refine aw_sub [1] rfl ?_
      exact c_X12_token_64  _ _ _ _ h
  · replace h := (if_pos z).symm.trans h
    refine aw_aload_n (pc := 49) 1 dX12_token_49 rfl ?_
    refine aw_iconst (pc := 50) (v := (4 : Int32)) dX12_token_50 (by decide) ?_
    obtain ⟨σ9, e, h⟩ := op_bd h
    refine ow_pI (pc := 51) e dX12_token_51 fd_X12_172 ?_
    refine aw_goto (pc := 54) 226 dX12_token_54 (by decide) ?_
    exact ow_vret (pc := 226) h dX12_token_226 rfl
set_option maxRecDepth 100000 in
set_option maxHeartbeats 4000000 in
theorem c_X12_token_0_b {G : ah_G}  (K0 : Nat → ah_H → Option (ah_H)) (hK0 : ∀ (x0 : Nat) (σ : ah_H) (r : ah_H), K0 x0 σ = some r → AW G m_X12_token 5 0 0 0 [(0, .ref x0)] [] σ (ah_N G (ah_rv r))) : ∀ (x0 : Nat) (σ : ah_H) (r : ah_H), f_X12_token_0_b  K0 x0 σ = some r → AW G m_X12_token 5 0 0 0 [(0, .ref x0)] [] σ (ah_N G (ah_rv r)) := by
  intro x0 σ r h
  unfold f_X12_token_0_b at h
  refine aw_aload_n (pc := 0) 0 dX12_token_0 rfl ?_
  obtain ⟨r1, e, h⟩ := op_bd h
  refine ow_cVi (pc := 1) [] ((c_X12_here _ _ _ e).mono (by decide)) (op_ck_sh e) rfl dX12_token_1 cw_X12_165 rfl (Nat.le_of_ble_eq_true rfl) ?_
  refine aw_bipush (pc := 4) (v := (10 : Int32)) dX12_token_4 (by decide) ?_
  refine aw_icmp_eq (pc := 6) 18 dX12_token_6 (by decide) (fun z => ?_) (fun z => ?_)
  · replace h := (if_pos z).symm.trans h
    exact c_X12_token_18 K0 hK0 _ _ _ h
  · replace h := (if_neg z).symm.trans h
    refine aw_aload_n (pc := 9) 0 dX12_token_9 rfl ?_
    obtain ⟨r2, e, h⟩ := op_bd h
    refine ow_cVi (pc := 10) [] ((c_X12_here _ _ _ e).mono (by decide)) (op_ck_sh e) rfl dX12_token_10 cw_X12_165 rfl (Nat.le_of_ble_eq_true rfl) ?_
    refine aw_bipush (pc := 13) (v := (32 : Int32)) dX12_token_13 (by decide) ?_
    refine aw_icmp_ne (pc := 15) 31 dX12_token_15 (by decide) (fun z => ?_) (fun z => ?_)
    · replace h := (if_neg z).symm.trans h
      exact c_X12_token_31  _ _ _ h
    · replace h := (if_pos z).symm.trans h
      exact c_X12_token_18 K0 hK0 _ _ _ h
theorem c_X12_token_0 {G : ah_G}   : ∀ (n : Nat) (x0 : Nat) (σ : ah_H) (r : ah_H), f_X12_token_0   n x0 σ = some r → AW G m_X12_token 5 0 0 0 [(0, .ref x0)] [] σ (ah_N G (ah_rv r)) := by
  intro n
  induction n with
  | zero => intro x0 σ r h; cases h
  | succ n ih => intro x0 σ r h; exact c_X12_token_0_b   _ ih x0 σ r h
theorem c_X12_token {G : ah_G}   (x0 : Nat) (σ : ah_H) (r : ah_H) (h : f_X12_token  x0 σ = some r) : AM G m_X12_token 5 0 0 [.ref x0] σ (ah_rv r) := aw_enter (by decide) (Nat.le_of_ble_eq_true rfl) (c_X12_token_0 _ _ _ _ (op_ck_k h))
def f_X12_wrong_0   (x0 : Nat) (x1 : Int32) (σ : ah_H) : Option (ah_H) :=
  (op_gI 12 29 σ x0).bind fun v1 => if v1 = 0 then ((op_pI 12 29 σ x0 x1).bind fun σ2 => (op_gI 12 26 σ2 x0).bind fun v3 => (op_pI 12 30 σ2 x0 v3).bind fun σ4 => some σ4) else (some σ)
def f_X12_wrong  (x0 : Nat) (x1 : Int32) (σ : ah_H) : Option (ah_H) := op_ck 12 σ x0 (f_X12_wrong_0 x0 x1 σ)
set_option maxRecDepth 100000 in
set_option maxHeartbeats 4000000 in
theorem c_X12_wrong_0 {G : ah_G}   : ∀ (x0 : Nat) (x1 : Int32) (σ : ah_H) (r : ah_H), f_X12_wrong_0   x0 x1 σ = some r → AW G m_X12_wrong 0 0 0 0 [(0, .ref x0), (1, .int x1)] [] σ (ah_N G (ah_rv r)) := by
  intro x0 x1 σ r h
  unfold f_X12_wrong_0 at h
  refine aw_aload_n (pc := 0) 0 dX12_wrong_0 rfl ?_
  obtain ⟨v1, e, h⟩ := op_bd h
  refine ow_gI (pc := 1) e dX12_wrong_1 fd_X12_205 rfl ?_
  refine aw_if_eq (pc := 4) 8 dX12_wrong_4 (by decide) (fun z => ?_) (fun z => ?_)
  · replace h := (if_pos z).symm.trans h
    refine aw_aload_n (pc := 8) 0 dX12_wrong_8 rfl ?_
    refine aw_iload_n (pc := 9) 1 dX12_wrong_9 rfl ?_
    obtain ⟨σ2, e, h⟩ := op_bd h
    refine ow_pI (pc := 10) e dX12_wrong_10 fd_X12_205 ?_
    refine aw_aload_n (pc := 13) 0 dX12_wrong_13 rfl ?_
    refine aw_aload_n (pc := 14) 0 dX12_wrong_14 rfl ?_
    obtain ⟨v3, e, h⟩ := op_bd h
    refine ow_gI (pc := 15) e dX12_wrong_15 fd_X12_169 rfl ?_
    obtain ⟨σ4, e, h⟩ := op_bd h
    refine ow_pI (pc := 18) e dX12_wrong_18 fd_X12_208 ?_
    exact ow_vret (pc := 21) h dX12_wrong_21 rfl
  · replace h := (if_neg z).symm.trans h
    exact ow_vret (pc := 7) h dX12_wrong_7 rfl
theorem c_X12_wrong {G : ah_G}   (x0 : Nat) (x1 : Int32) (σ : ah_H) (r : ah_H) (h : f_X12_wrong  x0 x1 σ = some r) : AM G m_X12_wrong 0 0 0 [.ref x0, .int x1] σ (ah_rv r) := aw_enter (by decide) (Nat.le_of_ble_eq_true rfl) (c_X12_wrong_0 _ _ _ _ (op_ck_k h))
def f_X12_isWord_0   (x0 : Nat) (x1 : Int32) (σ : ah_H) : Option (Int32 × ah_H) :=
  (op_gI 12 29 σ x0).bind fun v1 => if v1 = 0 then ((op_gI 12 27 σ x0).bind fun v2 => if v2 = 0 then ((op_gI 12 28 σ x0).bind fun v3 => if v3 = x1 then ((op_rz (1 : Int32)).map fun q => (q, σ)) else ((op_rz (0 : Int32)).map fun q => (q, σ))) else ((op_rz (0 : Int32)).map fun q => (q, σ))) else ((op_rz (0 : Int32)).map fun q => (q, σ))
def f_X12_isWord  (x0 : Nat) (x1 : Int32) (σ : ah_H) : Option (Int32 × ah_H) := op_ck 12 σ x0 (f_X12_isWord_0 x0 x1 σ)
set_option maxRecDepth 100000 in
set_option maxHeartbeats 4000000 in
theorem c_X12_isWord_0 {G : ah_G}   : ∀ (x0 : Nat) (x1 : Int32) (σ : ah_H) (r : Int32 × ah_H), f_X12_isWord_0   x0 x1 σ = some r → AW G m_X12_isWord 0 0 0 0 [(0, .ref x0), (1, .int x1)] [] σ (ah_N G (ah_ri r)) := by
  intro x0 x1 σ r h
  unfold f_X12_isWord_0 at h
  refine aw_aload_n (pc := 0) 0 dX12_isWord_0 rfl ?_
  obtain ⟨v1, e, h⟩ := op_bd h
  refine ow_gI (pc := 1) e dX12_isWord_1 fd_X12_205 rfl ?_
  refine aw_if_ne (pc := 4) 26 dX12_isWord_4 (by decide) (fun z => ?_) (fun z => ?_)
  · replace h := (if_neg z).symm.trans h
    refine aw_iconst (pc := 26) (v := (0 : Int32)) dX12_isWord_26 (by decide) ?_
    exact ow_zret (pc := 27) h dX12_isWord_27 rfl
  · replace h := (if_pos z).symm.trans h
    refine aw_aload_n (pc := 7) 0 dX12_isWord_7 rfl ?_
    obtain ⟨v2, e, h⟩ := op_bd h
    refine ow_gI (pc := 8) e dX12_isWord_8 fd_X12_172 rfl ?_
    refine aw_if_ne (pc := 11) 26 dX12_isWord_11 (by decide) (fun z => ?_) (fun z => ?_)
    · replace h := (if_neg z).symm.trans h
      refine aw_iconst (pc := 26) (v := (0 : Int32)) dX12_isWord_26 (by decide) ?_
      exact ow_zret (pc := 27) h dX12_isWord_27 rfl
    · replace h := (if_pos z).symm.trans h
      refine aw_aload_n (pc := 14) 0 dX12_isWord_14 rfl ?_
      obtain ⟨v3, e, h⟩ := op_bd h
      refine ow_gI (pc := 15) e dX12_isWord_15 fd_X12_182 rfl ?_
      refine aw_iload_n (pc := 18) 1 dX12_isWord_18 rfl ?_
      refine aw_icmp_ne (pc := 19) 26 dX12_isWord_19 (by decide) (fun z => ?_) (fun z => ?_)
      · replace h := (if_neg z).symm.trans h
        refine aw_iconst (pc := 26) (v := (0 : Int32)) dX12_isWord_26 (by decide) ?_
        exact ow_zret (pc := 27) h dX12_isWord_27 rfl
      · replace h := (if_pos z).symm.trans h
        refine aw_iconst (pc := 22) (v := (1 : Int32)) dX12_isWord_22 (by decide) ?_
        refine aw_goto (pc := 23) 27 dX12_isWord_23 (by decide) ?_
        exact ow_zret (pc := 27) h dX12_isWord_27 rfl
theorem c_X12_isWord {G : ah_G}   (x0 : Nat) (x1 : Int32) (σ : ah_H) (r : Int32 × ah_H) (h : f_X12_isWord  x0 x1 σ = some r) : AM G m_X12_isWord 0 0 0 [.ref x0, .int x1] σ (ah_ri r) := aw_enter (by decide) (Nat.le_of_ble_eq_true rfl) (c_X12_isWord_0 _ _ _ _ (op_ck_k h))
def f_X12_isSign_0   (x0 : Nat) (x1 : Int32) (σ : ah_H) : Option (Int32 × ah_H) :=
  (op_gI 12 29 σ x0).bind fun v1 => if v1 = 0 then ((op_gI 12 27 σ x0).bind fun v2 => if v2 = (3 : Int32) then ((op_gI 12 28 σ x0).bind fun v3 => if v3 = x1 then ((op_rz (1 : Int32)).map fun q => (q, σ)) else ((op_rz (0 : Int32)).map fun q => (q, σ))) else ((op_rz (0 : Int32)).map fun q => (q, σ))) else ((op_rz (0 : Int32)).map fun q => (q, σ))
def f_X12_isSign  (x0 : Nat) (x1 : Int32) (σ : ah_H) : Option (Int32 × ah_H) := op_ck 12 σ x0 (f_X12_isSign_0 x0 x1 σ)
set_option maxRecDepth 100000 in
set_option maxHeartbeats 4000000 in
theorem c_X12_isSign_0 {G : ah_G}   : ∀ (x0 : Nat) (x1 : Int32) (σ : ah_H) (r : Int32 × ah_H), f_X12_isSign_0   x0 x1 σ = some r → AW G m_X12_isSign 0 0 0 0 [(0, .ref x0), (1, .int x1)] [] σ (ah_N G (ah_ri r)) := by
  intro x0 x1 σ r h
  unfold f_X12_isSign_0 at h
  refine aw_aload_n (pc := 0) 0 dX12_isSign_0 rfl ?_
  obtain ⟨v1, e, h⟩ := op_bd h
  refine ow_gI (pc := 1) e dX12_isSign_1 fd_X12_205 rfl ?_
  refine aw_if_ne (pc := 4) 27 dX12_isSign_4 (by decide) (fun z => ?_) (fun z => ?_)
  · replace h := (if_neg z).symm.trans h
    refine aw_iconst (pc := 27) (v := (0 : Int32)) dX12_isSign_27 (by decide) ?_
    exact ow_zret (pc := 28) h dX12_isSign_28 rfl
  · replace h := (if_pos z).symm.trans h
    refine aw_aload_n (pc := 7) 0 dX12_isSign_7 rfl ?_
    obtain ⟨v2, e, h⟩ := op_bd h
    refine ow_gI (pc := 8) e dX12_isSign_8 fd_X12_172 rfl ?_
    refine aw_iconst (pc := 11) (v := (3 : Int32)) dX12_isSign_11 (by decide) ?_
    refine aw_icmp_ne (pc := 12) 27 dX12_isSign_12 (by decide) (fun z => ?_) (fun z => ?_)
    · replace h := (if_neg z).symm.trans h
      refine aw_iconst (pc := 27) (v := (0 : Int32)) dX12_isSign_27 (by decide) ?_
      exact ow_zret (pc := 28) h dX12_isSign_28 rfl
    · replace h := (if_pos z).symm.trans h
      refine aw_aload_n (pc := 15) 0 dX12_isSign_15 rfl ?_
      obtain ⟨v3, e, h⟩ := op_bd h
      refine ow_gI (pc := 16) e dX12_isSign_16 fd_X12_182 rfl ?_
      refine aw_iload_n (pc := 19) 1 dX12_isSign_19 rfl ?_
      refine aw_icmp_ne (pc := 20) 27 dX12_isSign_20 (by decide) (fun z => ?_) (fun z => ?_)
      · replace h := (if_neg z).symm.trans h
        refine aw_iconst (pc := 27) (v := (0 : Int32)) dX12_isSign_27 (by decide) ?_
        exact ow_zret (pc := 28) h dX12_isSign_28 rfl
      · replace h := (if_pos z).symm.trans h
        refine aw_iconst (pc := 23) (v := (1 : Int32)) dX12_isSign_23 (by decide) ?_
        refine aw_goto (pc := 24) 28 dX12_isSign_24 (by decide) ?_
        exact ow_zret (pc := 28) h dX12_isSign_28 rfl
theorem c_X12_isSign {G : ah_G}   (x0 : Nat) (x1 : Int32) (σ : ah_H) (r : Int32 × ah_H) (h : f_X12_isSign  x0 x1 σ = some r) : AM G m_X12_isSign 0 0 0 [.ref x0, .int x1] σ (ah_ri r) := aw_enter (by decide) (Nat.le_of_ble_eq_true rfl) (c_X12_isSign_0 _ _ _ _ (op_ck_k h))
def f_X12_goOn_0   (x0 : Nat) (σ : ah_H) : Option (ah_H) :=
  (op_gI 12 29 σ x0).bind fun v1 => if v1 = 0 then ((f_X12_token x0 σ).bind fun r2 => some r2) else (some σ)
def f_X12_goOn  (x0 : Nat) (σ : ah_H) : Option (ah_H) := op_ck 12 σ x0 (f_X12_goOn_0 x0 σ)
set_option maxRecDepth 100000 in
set_option maxHeartbeats 4000000 in
theorem c_X12_goOn_0 {G : ah_G}   : ∀ (x0 : Nat) (σ : ah_H) (r : ah_H), f_X12_goOn_0   x0 σ = some r → AW G m_X12_goOn 6 0 0 0 [(0, .ref x0)] [] σ (ah_N G (ah_rv r)) := by
  intro x0 σ r h
  unfold f_X12_goOn_0 at h
  refine aw_aload_n (pc := 0) 0 dX12_goOn_0 rfl ?_
  obtain ⟨v1, e, h⟩ := op_bd h
  refine ow_gI (pc := 1) e dX12_goOn_1 fd_X12_205 rfl ?_
  refine aw_if_ne (pc := 4) 11 dX12_goOn_4 (by decide) (fun z => ?_) (fun z => ?_)
  · replace h := (if_neg z).symm.trans h
    exact ow_vret (pc := 11) h dX12_goOn_11 rfl
  · replace h := (if_pos z).symm.trans h
    refine aw_aload_n (pc := 7) 0 dX12_goOn_7 rfl ?_
    obtain ⟨r2, e, h⟩ := op_bd h
    refine ow_cVv (pc := 8) [] ((c_X12_token _ _ _ e).mono (by decide)) (op_ck_sh e) rfl dX12_goOn_8 cw_X12_211 rfl (Nat.le_of_ble_eq_true rfl) ?_
    exact ow_vret (pc := 11) h dX12_goOn_11 rfl
theorem c_X12_goOn {G : ah_G}   (x0 : Nat) (σ : ah_H) (r : ah_H) (h : f_X12_goOn  x0 σ = some r) : AM G m_X12_goOn 6 0 0 [.ref x0] σ (ah_rv r) := aw_enter (by decide) (Nat.le_of_ble_eq_true rfl) (c_X12_goOn_0 _ _ _ (op_ck_k h))
def f_X12_numeral_46   (x0 : Nat) (x1 : Int32) (σ : ah_H) : Option (Int32 × ah_H) :=
  (op_gI 12 29 σ x0).bind fun v1 => if v1 = 0 then ((op_gI 12 28 σ x0).bind fun v2 => (f_X12_token x0 σ).bind fun r3 => some (v2, r3)) else (some (x1, σ))
def f_X12_numeral_41   (x0 : Nat) (x1 : Int32) (σ : ah_H) : Option (Int32 × ah_H) :=
  (f_X12_wrong x0 (2 : Int32) σ).bind fun r1 => f_X12_numeral_46 x0 x1 r1
def f_X12_numeral_0   (x0 : Nat) (x1 : Int32) (x2 : Int32) (σ : ah_H) : Option (Int32 × ah_H) :=
  (op_gI 12 29 σ x0).bind fun v1 => if v1 = 0 then ((op_gI 12 27 σ x0).bind fun v2 => if v2 = (2 : Int32) then ((op_gI 12 28 σ x0).bind fun v3 => if v3 < x1 then (f_X12_numeral_41 x0 x1 σ) else ((op_gI 12 28 σ x0).bind fun v4 => if v4 ≤ x2 then (f_X12_numeral_46 x0 x1 σ) else (f_X12_numeral_41 x0 x1 σ))) else ((f_X12_wrong x0 (1 : Int32) σ).bind fun r5 => f_X12_numeral_46 x0 x1 r5)) else (some (x1, σ))
def f_X12_numeral  (x0 : Nat) (x1 : Int32) (x2 : Int32) (σ : ah_H) : Option (Int32 × ah_H) := op_ck 12 σ x0 (f_X12_numeral_0 x0 x1 x2 σ)
set_option maxRecDepth 100000 in
set_option maxHeartbeats 4000000 in
theorem c_X12_numeral_46 {G : ah_G}   : ∀ (x0 : Nat) (x1 : Int32) (σ : ah_H) (r : Int32 × ah_H), f_X12_numeral_46   x0 x1 σ = some r → AW G m_X12_numeral 6 0 0 46 [(0, .ref x0), (1, .int x1)] [] σ (ah_N G (ah_ri r)) := by
  intro x0 x1 σ r h
  unfold f_X12_numeral_46 at h
  refine aw_aload_n (pc := 46) 0 dX12_numeral_46 rfl ?_
  obtain ⟨v1, e, h⟩ := op_bd h
  refine ow_gI (pc := 47) e dX12_numeral_47 fd_X12_205 rfl ?_
  refine aw_if_eq (pc := 50) 55 dX12_numeral_50 (by decide) (fun z => ?_) (fun z => ?_)
  · replace h := (if_pos z).symm.trans h
    refine aw_aload_n (pc := 55) 0 dX12_numeral_55 rfl ?_
    obtain ⟨v2, e, h⟩ := op_bd h
    refine ow_gI (pc := 56) e dX12_numeral_56 fd_X12_182 rfl ?_
    refine aw_istore_n (pc := 59) [(3, .int v2), (0, .ref x0), (1, .int x1)] dX12_numeral_59 rfl (by decide) rfl ?_
    refine aw_aload_n (pc := 60) 1 dX12_numeral_60 rfl ?_
    obtain ⟨r3, e, h⟩ := op_bd h
    refine ow_cVv (pc := 61) [] ((c_X12_token _ _ _ e).mono (by decide)) (op_ck_sh e) rfl dX12_numeral_61 cw_X12_211 rfl (Nat.le_of_ble_eq_true rfl) ?_
    refine aw_iload_n (pc := 64) 0 dX12_numeral_64 rfl ?_
    exact ow_iret (pc := 65) h dX12_numeral_65 rfl
  · replace h := (if_neg z).symm.trans h
    refine aw_iload_n (pc := 53) 1 dX12_numeral_53 rfl ?_
    exact ow_iret (pc := 54) h dX12_numeral_54 rfl
set_option maxRecDepth 100000 in
set_option maxHeartbeats 4000000 in
theorem c_X12_numeral_41 {G : ah_G}   : ∀ (x0 : Nat) (x1 : Int32) (σ : ah_H) (r : Int32 × ah_H), f_X12_numeral_41   x0 x1 σ = some r → AW G m_X12_numeral 6 0 0 41 [(0, .ref x0), (1, .int x1)] [] σ (ah_N G (ah_ri r)) := by
  intro x0 x1 σ r h
  unfold f_X12_numeral_41 at h
  refine aw_aload_n (pc := 41) 0 dX12_numeral_41 rfl ?_
  refine aw_iconst (pc := 42) (v := (2 : Int32)) dX12_numeral_42 (by decide) ?_
  obtain ⟨r1, e, h⟩ := op_bd h
  refine ow_cVv (pc := 43) [.int (2 : Int32)] ((c_X12_wrong _ _ _ _ e).mono (by decide)) (op_ck_sh e) rfl dX12_numeral_43 cw_X12_214 rfl (Nat.le_of_ble_eq_true rfl) ?_
  exact c_X12_numeral_46  _ _ _ _ h
set_option maxRecDepth 100000 in
set_option maxHeartbeats 4000000 in
theorem c_X12_numeral_0 {G : ah_G}   : ∀ (x0 : Nat) (x1 : Int32) (x2 : Int32) (σ : ah_H) (r : Int32 × ah_H), f_X12_numeral_0   x0 x1 x2 σ = some r → AW G m_X12_numeral 6 0 0 0 [(0, .ref x0), (1, .int x1), (2, .int x2)] [] σ (ah_N G (ah_ri r)) := by
  intro x0 x1 x2 σ r h
  unfold f_X12_numeral_0 at h
  refine aw_aload_n (pc := 0) 0 dX12_numeral_0 rfl ?_
  obtain ⟨v1, e, h⟩ := op_bd h
  refine ow_gI (pc := 1) e dX12_numeral_1 fd_X12_205 rfl ?_
  refine aw_if_eq (pc := 4) 9 dX12_numeral_4 (by decide) (fun z => ?_) (fun z => ?_)
  · replace h := (if_pos z).symm.trans h
    refine aw_aload_n (pc := 9) 0 dX12_numeral_9 rfl ?_
    obtain ⟨v2, e, h⟩ := op_bd h
    refine ow_gI (pc := 10) e dX12_numeral_10 fd_X12_172 rfl ?_
    refine aw_iconst (pc := 13) (v := (2 : Int32)) dX12_numeral_13 (by decide) ?_
    refine aw_icmp_eq (pc := 14) 25 dX12_numeral_14 (by decide) (fun z => ?_) (fun z => ?_)
    · replace h := (if_pos z).symm.trans h
      refine aw_aload_n (pc := 25) 0 dX12_numeral_25 rfl ?_
      obtain ⟨v3, e, h⟩ := op_bd h
      refine ow_gI (pc := 26) e dX12_numeral_26 fd_X12_182 rfl ?_
      refine aw_iload_n (pc := 29) 1 dX12_numeral_29 rfl ?_
      refine aw_icmp_lt (pc := 30) 41 dX12_numeral_30 (by decide) (fun z => ?_) (fun z => ?_)
      · replace h := (if_pos z).symm.trans h
        refine aw_sub [0, 1] rfl ?_
        exact c_X12_numeral_41  _ _ _ _ h
      · replace h := (if_neg z).symm.trans h
        refine aw_aload_n (pc := 33) 0 dX12_numeral_33 rfl ?_
        obtain ⟨v4, e, h⟩ := op_bd h
        refine ow_gI (pc := 34) e dX12_numeral_34 fd_X12_182 rfl ?_
        refine aw_iload_n (pc := 37) 2 dX12_numeral_37 rfl ?_
        refine aw_icmp_le (pc := 38) 46 dX12_numeral_38 (by decide) (fun z => ?_) (fun z => ?_)
        · replace h := (if_pos z).symm.trans h
          refine aw_sub [0, 1] rfl ?_
          exact c_X12_numeral_46  _ _ _ _ h
        · replace h := (if_neg z).symm.trans h
          refine aw_sub [0, 1] rfl ?_
          exact c_X12_numeral_41  _ _ _ _ h
    · replace h := (if_neg z).symm.trans h
      refine aw_aload_n (pc := 17) 0 dX12_numeral_17 rfl ?_
      refine aw_iconst (pc := 18) (v := (1 : Int32)) dX12_numeral_18 (by decide) ?_
      obtain ⟨r5, e, h⟩ := op_bd h
      refine ow_cVv (pc := 19) [.int (1 : Int32)] ((c_X12_wrong _ _ _ _ e).mono (by decide)) (op_ck_sh e) rfl dX12_numeral_19 cw_X12_214 rfl (Nat.le_of_ble_eq_true rfl) ?_
      refine aw_goto (pc := 22) 46 dX12_numeral_22 (by decide) ?_
      refine aw_sub [0, 1] rfl ?_
      exact c_X12_numeral_46  _ _ _ _ h
  · replace h := (if_neg z).symm.trans h
    refine aw_iload_n (pc := 7) 1 dX12_numeral_7 rfl ?_
    exact ow_iret (pc := 8) h dX12_numeral_8 rfl
theorem c_X12_numeral {G : ah_G}   (x0 : Nat) (x1 : Int32) (x2 : Int32) (σ : ah_H) (r : Int32 × ah_H) (h : f_X12_numeral  x0 x1 x2 σ = some r) : AM G m_X12_numeral 6 0 0 [.ref x0, .int x1, .int x2] σ (ah_ri r) := aw_enter (by decide) (Nat.le_of_ble_eq_true rfl) (c_X12_numeral_0 _ _ _ _ _ (op_ck_k h))
def f_X12_found_3_b  (K3 : Nat → Int32 → Int32 → Int32 → Int32 → ah_H → Option (Int32 × ah_H)) (x0 : Nat) (x1 : Int32) (x2 : Int32) (x3 : Int32) (x4 : Int32) (σ : ah_H) : Option (Int32 × ah_H) :=
  if x2 ≤ x4 then (some ((-1 : Int32), σ)) else ((op_aI σ x0 (x1 + x4)).bind fun v1 => if v1 = x3 then (some (x4, σ)) else (K3 x0 x1 x2 x3 (x4 + (1 : Int32)) σ))
def f_X12_found_3   : Nat → Nat → Int32 → Int32 → Int32 → Int32 → ah_H → Option (Int32 × ah_H)
  | 0, _, _, _, _, _, _ => none
  | n + 1, x0, x1, x2, x3, x4, σ => f_X12_found_3_b (f_X12_found_3 n) x0 x1 x2 x3 x4 σ
def f_X12_found_0   (x0 : Nat) (x1 : Int32) (x2 : Int32) (x3 : Int32) (σ : ah_H) : Option (Int32 × ah_H) :=
  f_X12_found_3 5000 x0 x1 x2 x3 (0 : Int32) σ
def f_X12_found  (x0 : Nat) (x1 : Int32) (x2 : Int32) (x3 : Int32) (σ : ah_H) : Option (Int32 × ah_H) := f_X12_found_0 x0 x1 x2 x3 σ
set_option maxRecDepth 100000 in
set_option maxHeartbeats 4000000 in
theorem c_X12_found_3_b {G : ah_G}  (K3 : Nat → Int32 → Int32 → Int32 → Int32 → ah_H → Option (Int32 × ah_H)) (hK3 : ∀ (x0 : Nat) (x1 : Int32) (x2 : Int32) (x3 : Int32) (x4 : Int32) (σ : ah_H) (r : Int32 × ah_H), K3 x0 x1 x2 x3 x4 σ = some r → AW G m_X12_found 0 0 0 3 [(0, .ref x0), (1, .int x1), (2, .int x2), (3, .int x3), (4, .int x4)] [] σ (ah_N G (ah_ri r))) : ∀ (x0 : Nat) (x1 : Int32) (x2 : Int32) (x3 : Int32) (x4 : Int32) (σ : ah_H) (r : Int32 × ah_H), f_X12_found_3_b  K3 x0 x1 x2 x3 x4 σ = some r → AW G m_X12_found 0 0 0 3 [(0, .ref x0), (1, .int x1), (2, .int x2), (3, .int x3), (4, .int x4)] [] σ (ah_N G (ah_ri r)) := by
  intro x0 x1 x2 x3 x4 σ r h
  unfold f_X12_found_3_b at h
  refine aw_iload (pc := 3) 4 dX12_found_3 rfl ?_
  refine aw_iload_n (pc := 5) 2 dX12_found_5 rfl ?_
  refine aw_icmp_ge (pc := 6) 28 dX12_found_6 (by decide) (fun z => ?_) (fun z => ?_)
  · replace h := (if_pos z).symm.trans h
    refine aw_iconst (pc := 28) (v := (-1 : Int32)) dX12_found_28 (by decide) ?_
    exact ow_iret (pc := 29) h dX12_found_29 rfl
  · replace h := (if_neg z).symm.trans h
    refine aw_aload_n (pc := 9) 0 dX12_found_9 rfl ?_
    refine aw_iload_n (pc := 10) 1 dX12_found_10 rfl ?_
    refine aw_iload (pc := 11) 4 dX12_found_11 rfl ?_
    refine aw_iadd (pc := 13) dX12_found_13 ?_
    obtain ⟨v1, e, h⟩ := op_bd h
    refine ow_aI (pc := 14) e dX12_found_14 ?_
    refine aw_iload_n (pc := 15) 3 dX12_found_15 rfl ?_
    refine aw_icmp_ne (pc := 16) 22 dX12_found_16 (by decide) (fun z => ?_) (fun z => ?_)
    · replace h := (if_neg z).symm.trans h
      refine aw_iinc (pc := 22) 4 [(4, .int (x4 + (1 : Int32))), (0, .ref x0), (1, .int x1), (2, .int x2), (3, .int x3)] (x4 + (1 : Int32)) dX12_found_22 rfl rfl (by decide) rfl ?_
      refine aw_goto (pc := 25) 3 dX12_found_25 (by decide) ?_
      refine aw_sub [1, 2, 3, 4, 0] rfl ?_
      exact hK3 _ _ _ _ _ _ _ h
    · replace h := (if_pos z).symm.trans h
      refine aw_iload (pc := 19) 4 dX12_found_19 rfl ?_
      exact ow_iret (pc := 21) h dX12_found_21 rfl
theorem c_X12_found_3 {G : ah_G}   : ∀ (n : Nat) (x0 : Nat) (x1 : Int32) (x2 : Int32) (x3 : Int32) (x4 : Int32) (σ : ah_H) (r : Int32 × ah_H), f_X12_found_3   n x0 x1 x2 x3 x4 σ = some r → AW G m_X12_found 0 0 0 3 [(0, .ref x0), (1, .int x1), (2, .int x2), (3, .int x3), (4, .int x4)] [] σ (ah_N G (ah_ri r)) := by
  intro n
  induction n with
  | zero => intro x0 x1 x2 x3 x4 σ r h; cases h
  | succ n ih => intro x0 x1 x2 x3 x4 σ r h; exact c_X12_found_3_b   _ ih x0 x1 x2 x3 x4 σ r h
set_option maxRecDepth 100000 in
set_option maxHeartbeats 4000000 in
theorem c_X12_found_0 {G : ah_G}   : ∀ (x0 : Nat) (x1 : Int32) (x2 : Int32) (x3 : Int32) (σ : ah_H) (r : Int32 × ah_H), f_X12_found_0   x0 x1 x2 x3 σ = some r → AW G m_X12_found 0 0 0 0 [(0, .ref x0), (1, .int x1), (2, .int x2), (3, .int x3)] [] σ (ah_N G (ah_ri r)) := by
  intro x0 x1 x2 x3 σ r h
  unfold f_X12_found_0 at h
  refine aw_iconst (pc := 0) (v := (0 : Int32)) dX12_found_0 (by decide) ?_
  refine aw_istore (pc := 1) [(4, .int (0 : Int32)), (0, .ref x0), (1, .int x1), (2, .int x2), (3, .int x3)] dX12_found_1 (by decide) rfl ?_
  refine aw_sub [1, 2, 3, 4, 0] rfl ?_
  exact c_X12_found_3  _ _ _ _ _ _ _ _ h
theorem c_X12_found {G : ah_G}   (x0 : Nat) (x1 : Int32) (x2 : Int32) (x3 : Int32) (σ : ah_H) (r : Int32 × ah_H) (h : f_X12_found  x0 x1 x2 x3 σ = some r) : AM G m_X12_found 0 0 0 [.ref x0, .int x1, .int x2, .int x3] σ (ah_ri r) := aw_enter (by decide) (Nat.le_of_ble_eq_true rfl) (c_X12_found_0 _ _ _ _ _ _ h)
def f_X12_fresh_44   (x0 : Nat) (σ : ah_H) : Option (Int32 × ah_H) :=
  (op_gI 12 29 σ x0).bind fun v1 => if v1 = 0 then ((op_gI 12 28 σ x0).bind fun v2 => (f_X12_token x0 σ).bind fun r3 => some (v2, r3)) else (some ((0 : Int32), σ))
def f_X12_fresh_0   (x0 : Nat) (x1 : Nat) (x2 : Int32) (x3 : Int32) (σ : ah_H) : Option (Int32 × ah_H) :=
  (op_gI 12 29 σ x0).bind fun v1 => if v1 = 0 then ((op_gI 12 27 σ x0).bind fun v2 => if v2 = (1 : Int32) then ((op_gI 12 28 σ x0).bind fun v3 => (f_X12_found x1 x2 x3 v3 σ).bind fun r4 => if r4.1 = (-1 : Int32) then (f_X12_fresh_44 x0 r4.2) else ((f_X12_wrong x0 (3 : Int32) r4.2).bind fun r5 => f_X12_fresh_44 x0 r5)) else ((f_X12_wrong x0 (1 : Int32) σ).bind fun r6 => f_X12_fresh_44 x0 r6)) else (some ((0 : Int32), σ))
def f_X12_fresh  (x0 : Nat) (x1 : Nat) (x2 : Int32) (x3 : Int32) (σ : ah_H) : Option (Int32 × ah_H) := op_ck 12 σ x0 (f_X12_fresh_0 x0 x1 x2 x3 σ)
set_option maxRecDepth 100000 in
set_option maxHeartbeats 4000000 in
theorem c_X12_fresh_44 {G : ah_G}   : ∀ (x0 : Nat) (σ : ah_H) (r : Int32 × ah_H), f_X12_fresh_44   x0 σ = some r → AW G m_X12_fresh 6 0 0 44 [(0, .ref x0)] [] σ (ah_N G (ah_ri r)) := by
  intro x0 σ r h
  unfold f_X12_fresh_44 at h
  refine aw_aload_n (pc := 44) 0 dX12_fresh_44 rfl ?_
  obtain ⟨v1, e, h⟩ := op_bd h
  refine ow_gI (pc := 45) e dX12_fresh_45 fd_X12_205 rfl ?_
  refine aw_if_eq (pc := 48) 53 dX12_fresh_48 (by decide) (fun z => ?_) (fun z => ?_)
  · replace h := (if_pos z).symm.trans h
    refine aw_aload_n (pc := 53) 0 dX12_fresh_53 rfl ?_
    obtain ⟨v2, e, h⟩ := op_bd h
    refine ow_gI (pc := 54) e dX12_fresh_54 fd_X12_182 rfl ?_
    refine aw_istore (pc := 57) [(4, .int v2), (0, .ref x0)] dX12_fresh_57 (by decide) rfl ?_
    refine aw_aload_n (pc := 59) 1 dX12_fresh_59 rfl ?_
    obtain ⟨r3, e, h⟩ := op_bd h
    refine ow_cVv (pc := 60) [] ((c_X12_token _ _ _ e).mono (by decide)) (op_ck_sh e) rfl dX12_fresh_60 cw_X12_211 rfl (Nat.le_of_ble_eq_true rfl) ?_
    refine aw_iload (pc := 63) 0 dX12_fresh_63 rfl ?_
    exact ow_iret (pc := 65) h dX12_fresh_65 rfl
  · replace h := (if_neg z).symm.trans h
    refine aw_iconst (pc := 51) (v := (0 : Int32)) dX12_fresh_51 (by decide) ?_
    exact ow_iret (pc := 52) h dX12_fresh_52 rfl
set_option maxRecDepth 100000 in
set_option maxHeartbeats 4000000 in
theorem c_X12_fresh_0 {G : ah_G}   : ∀ (x0 : Nat) (x1 : Nat) (x2 : Int32) (x3 : Int32) (σ : ah_H) (r : Int32 × ah_H), f_X12_fresh_0   x0 x1 x2 x3 σ = some r → AW G m_X12_fresh 6 0 0 0 [(0, .ref x0), (1, .ref x1), (2, .int x2), (3, .int x3)] [] σ (ah_N G (ah_ri r)) := by
  intro x0 x1 x2 x3 σ r h
  unfold f_X12_fresh_0 at h
  refine aw_aload_n (pc := 0) 0 dX12_fresh_0 rfl ?_
  obtain ⟨v1, e, h⟩ := op_bd h
  refine ow_gI (pc := 1) e dX12_fresh_1 fd_X12_205 rfl ?_
  refine aw_if_eq (pc := 4) 9 dX12_fresh_4 (by decide) (fun z => ?_) (fun z => ?_)
  · replace h := (if_pos z).symm.trans h
    refine aw_aload_n (pc := 9) 0 dX12_fresh_9 rfl ?_
    obtain ⟨v2, e, h⟩ := op_bd h
    refine ow_gI (pc := 10) e dX12_fresh_10 fd_X12_172 rfl ?_
    refine aw_iconst (pc := 13) (v := (1 : Int32)) dX12_fresh_13 (by decide) ?_
    refine aw_icmp_eq (pc := 14) 25 dX12_fresh_14 (by decide) (fun z => ?_) (fun z => ?_)
    · replace h := (if_pos z).symm.trans h
      refine aw_aload_n (pc := 25) 1 dX12_fresh_25 rfl ?_
      refine aw_iload_n (pc := 26) 2 dX12_fresh_26 rfl ?_
      refine aw_iload_n (pc := 27) 3 dX12_fresh_27 rfl ?_
      refine aw_aload_n (pc := 28) 0 dX12_fresh_28 rfl ?_
      obtain ⟨v3, e, h⟩ := op_bd h
      refine ow_gI (pc := 29) e dX12_fresh_29 fd_X12_182 rfl ?_
      obtain ⟨r4, e, h⟩ := op_bd h
      refine ow_cSi (pc := 32) [.ref x1, .int x2, .int x3, .int v3] ((c_X12_found _ _ _ _ _ _ e).mono (by decide)) rfl dX12_fresh_32 cw_X12_217 rfl (Nat.le_of_ble_eq_true rfl) ?_
      refine aw_iconst (pc := 35) (v := (-1 : Int32)) dX12_fresh_35 (by decide) ?_
      refine aw_icmp_eq (pc := 36) 44 dX12_fresh_36 (by decide) (fun z => ?_) (fun z => ?_)
      · replace h := (if_pos z).symm.trans h
        refine aw_sub [0] rfl ?_
        exact c_X12_fresh_44  _ _ _ h
      · replace h := (if_neg z).symm.trans h
        refine aw_aload_n (pc := 39) 0 dX12_fresh_39 rfl ?_
        refine aw_iconst (pc := 40) (v := (3 : Int32)) dX12_fresh_40 (by decide) ?_
        obtain ⟨r5, e, h⟩ := op_bd h
        refine ow_cVv (pc := 41) [.int (3 : Int32)] ((c_X12_wrong _ _ _ _ e).mono (by decide)) (op_ck_sh e) rfl dX12_fresh_41 cw_X12_214 rfl (Nat.le_of_ble_eq_true rfl) ?_
        refine aw_sub [0] rfl ?_
        exact c_X12_fresh_44  _ _ _ h
    · replace h := (if_neg z).symm.trans h
      refine aw_aload_n (pc := 17) 0 dX12_fresh_17 rfl ?_
      refine aw_iconst (pc := 18) (v := (1 : Int32)) dX12_fresh_18 (by decide) ?_
      obtain ⟨r6, e, h⟩ := op_bd h
      refine ow_cVv (pc := 19) [.int (1 : Int32)] ((c_X12_wrong _ _ _ _ e).mono (by decide)) (op_ck_sh e) rfl dX12_fresh_19 cw_X12_214 rfl (Nat.le_of_ble_eq_true rfl) ?_
      refine aw_goto (pc := 22) 44 dX12_fresh_22 (by decide) ?_
      refine aw_sub [0] rfl ?_
      exact c_X12_fresh_44  _ _ _ h
  · replace h := (if_neg z).symm.trans h
    refine aw_iconst (pc := 7) (v := (0 : Int32)) dX12_fresh_7 (by decide) ?_
    exact ow_iret (pc := 8) h dX12_fresh_8 rfl
theorem c_X12_fresh {G : ah_G}   (x0 : Nat) (x1 : Nat) (x2 : Int32) (x3 : Int32) (σ : ah_H) (r : Int32 × ah_H) (h : f_X12_fresh  x0 x1 x2 x3 σ = some r) : AM G m_X12_fresh 6 0 0 [.ref x0, .ref x1, .int x2, .int x3] σ (ah_ri r) := aw_enter (by decide) (Nat.le_of_ble_eq_true rfl) (c_X12_fresh_0 _ _ _ _ _ _ (op_ck_k h))
def f_X12_fresher_0   (x0 : Nat) (x1 : Int32) (σ : ah_H) : Option (Int32 × ah_H) :=
  (op_gR 12 3 σ x0).bind fun v1 => (op_aI σ v1 ((12 : Int32) + x1)).bind fun v2 => some (v2, σ)
def f_X12_fresher  (x0 : Nat) (x1 : Int32) (σ : ah_H) : Option (Int32 × ah_H) := op_ck 12 σ x0 (f_X12_fresher_0 x0 x1 σ)
set_option maxRecDepth 100000 in
set_option maxHeartbeats 4000000 in
theorem c_X12_fresher_0 {G : ah_G}   : ∀ (x0 : Nat) (x1 : Int32) (σ : ah_H) (r : Int32 × ah_H), f_X12_fresher_0   x0 x1 σ = some r → AW G m_X12_fresher 0 0 0 0 [(0, .ref x0), (1, .int x1)] [] σ (ah_N G (ah_ri r)) := by
  intro x0 x1 σ r h
  unfold f_X12_fresher_0 at h
  refine aw_aload_n (pc := 0) 0 dX12_fresher_0 rfl ?_
  obtain ⟨v1, e, h⟩ := op_bd h
  refine ow_gR (pc := 1) e dX12_fresher_1 fd_X12_15 rfl ?_
  refine aw_bipush (pc := 4) (v := (12 : Int32)) dX12_fresher_4 (by decide) ?_
  refine aw_iload_n (pc := 6) 1 dX12_fresher_6 rfl ?_
  refine aw_iadd (pc := 7) dX12_fresher_7 ?_
  obtain ⟨v2, e, h⟩ := op_bd h
  refine ow_aI (pc := 8) e dX12_fresher_8 ?_
  exact ow_iret (pc := 9) h dX12_fresher_9 rfl
theorem c_X12_fresher {G : ah_G}   (x0 : Nat) (x1 : Int32) (σ : ah_H) (r : Int32 × ah_H) (h : f_X12_fresher  x0 x1 σ = some r) : AM G m_X12_fresher 0 0 0 [.ref x0, .int x1] σ (ah_ri r) := aw_enter (by decide) (Nat.le_of_ble_eq_true rfl) (c_X12_fresher_0 _ _ _ _ (op_ck_k h))
def f_X12_corner_52   (x0 : Nat) (σ : ah_H) : Option (Int32 × ah_H) :=
  (op_gI 12 29 σ x0).bind fun v1 => if v1 = 0 then ((op_gR 12 4 σ x0).bind fun v2 => (f_X12_fresher x0 (0 : Int32) σ).bind fun r3 => (op_gI 12 28 r3.2 x0).bind fun v4 => (f_X12_found v2 (7 : Int32) r3.1 v4 r3.2).bind fun r5 => some (r5.1, r5.2)) else (some ((0 : Int32), σ))
def f_X12_corner_0   (x0 : Nat) (σ : ah_H) : Option (Int32 × ah_H) :=
  (op_gI 12 29 σ x0).bind fun v1 => if v1 = 0 then ((op_gI 12 27 σ x0).bind fun v2 => if v2 = (1 : Int32) then ((op_gR 12 4 σ x0).bind fun v3 => (f_X12_fresher x0 (0 : Int32) σ).bind fun r4 => (op_gI 12 28 r4.2 x0).bind fun v5 => (f_X12_found v3 (7 : Int32) r4.1 v5 r4.2).bind fun r6 => if r6.1 = (-1 : Int32) then ((f_X12_wrong x0 (4 : Int32) r6.2).bind fun r7 => f_X12_corner_52 x0 r7) else (f_X12_corner_52 x0 r6.2)) else ((f_X12_wrong x0 (1 : Int32) σ).bind fun r8 => f_X12_corner_52 x0 r8)) else (some ((0 : Int32), σ))
def f_X12_corner  (x0 : Nat) (σ : ah_H) : Option (Int32 × ah_H) := op_ck 12 σ x0 (f_X12_corner_0 x0 σ)
set_option maxRecDepth 100000 in
set_option maxHeartbeats 4000000 in
theorem c_X12_corner_52 {G : ah_G}   : ∀ (x0 : Nat) (σ : ah_H) (r : Int32 × ah_H), f_X12_corner_52   x0 σ = some r → AW G m_X12_corner 1 0 0 52 [(0, .ref x0)] [] σ (ah_N G (ah_ri r)) := by
  intro x0 σ r h
  unfold f_X12_corner_52 at h
  refine aw_aload_n (pc := 52) 0 dX12_corner_52 rfl ?_
  obtain ⟨v1, e, h⟩ := op_bd h
  refine ow_gI (pc := 53) e dX12_corner_53 fd_X12_205 rfl ?_
  refine aw_if_eq (pc := 56) 63 dX12_corner_56 (by decide) (fun z => ?_) (fun z => ?_)
  · replace h := (if_pos z).symm.trans h
    refine aw_aload_n (pc := 63) 0 dX12_corner_63 rfl ?_
    obtain ⟨v2, e, h⟩ := op_bd h
    refine ow_gR (pc := 64) e dX12_corner_64 fd_X12_18 rfl ?_
    refine aw_bipush (pc := 67) (v := (7 : Int32)) dX12_corner_67 (by decide) ?_
    refine aw_aload_n (pc := 69) 0 dX12_corner_69 rfl ?_
    refine aw_iconst (pc := 70) (v := (0 : Int32)) dX12_corner_70 (by decide) ?_
    obtain ⟨r3, e, h⟩ := op_bd h
    refine ow_cVi (pc := 71) [.int (0 : Int32)] ((c_X12_fresher _ _ _ _ e).mono (by decide)) (op_ck_sh e) rfl dX12_corner_71 cw_X12_221 rfl (Nat.le_of_ble_eq_true rfl) ?_
    refine aw_aload_n (pc := 74) 0 dX12_corner_74 rfl ?_
    obtain ⟨v4, e, h⟩ := op_bd h
    refine ow_gI (pc := 75) e dX12_corner_75 fd_X12_182 rfl ?_
    obtain ⟨r5, e, h⟩ := op_bd h
    refine ow_cSi (pc := 78) [.ref v2, .int (7 : Int32), .int r3.1, .int v4] ((c_X12_found _ _ _ _ _ _ e).mono (by decide)) rfl dX12_corner_78 cw_X12_217 rfl (Nat.le_of_ble_eq_true rfl) ?_
    exact ow_iret (pc := 81) h dX12_corner_81 rfl
  · replace h := (if_neg z).symm.trans h
    refine aw_iconst (pc := 59) (v := (0 : Int32)) dX12_corner_59 (by decide) ?_
    refine aw_goto (pc := 60) 81 dX12_corner_60 (by decide) ?_
    exact ow_iret (pc := 81) h dX12_corner_81 rfl
set_option maxRecDepth 100000 in
set_option maxHeartbeats 4000000 in
theorem c_X12_corner_0 {G : ah_G}   : ∀ (x0 : Nat) (σ : ah_H) (r : Int32 × ah_H), f_X12_corner_0   x0 σ = some r → AW G m_X12_corner 1 0 0 0 [(0, .ref x0)] [] σ (ah_N G (ah_ri r)) := by
  intro x0 σ r h
  unfold f_X12_corner_0 at h
  refine aw_aload_n (pc := 0) 0 dX12_corner_0 rfl ?_
  obtain ⟨v1, e, h⟩ := op_bd h
  refine ow_gI (pc := 1) e dX12_corner_1 fd_X12_205 rfl ?_
  refine aw_if_eq (pc := 4) 9 dX12_corner_4 (by decide) (fun z => ?_) (fun z => ?_)
  · replace h := (if_pos z).symm.trans h
    refine aw_aload_n (pc := 9) 0 dX12_corner_9 rfl ?_
    obtain ⟨v2, e, h⟩ := op_bd h
    refine ow_gI (pc := 10) e dX12_corner_10 fd_X12_172 rfl ?_
    refine aw_iconst (pc := 13) (v := (1 : Int32)) dX12_corner_13 (by decide) ?_
    refine aw_icmp_eq (pc := 14) 25 dX12_corner_14 (by decide) (fun z => ?_) (fun z => ?_)
    · replace h := (if_pos z).symm.trans h
      refine aw_aload_n (pc := 25) 0 dX12_corner_25 rfl ?_
      obtain ⟨v3, e, h⟩ := op_bd h
      refine ow_gR (pc := 26) e dX12_corner_26 fd_X12_18 rfl ?_
      refine aw_bipush (pc := 29) (v := (7 : Int32)) dX12_corner_29 (by decide) ?_
      refine aw_aload_n (pc := 31) 0 dX12_corner_31 rfl ?_
      refine aw_iconst (pc := 32) (v := (0 : Int32)) dX12_corner_32 (by decide) ?_
      obtain ⟨r4, e, h⟩ := op_bd h
      refine ow_cVi (pc := 33) [.int (0 : Int32)] ((c_X12_fresher _ _ _ _ e).mono (by decide)) (op_ck_sh e) rfl dX12_corner_33 cw_X12_221 rfl (Nat.le_of_ble_eq_true rfl) ?_
      refine aw_aload_n (pc := 36) 0 dX12_corner_36 rfl ?_
      obtain ⟨v5, e, h⟩ := op_bd h
      refine ow_gI (pc := 37) e dX12_corner_37 fd_X12_182 rfl ?_
      obtain ⟨r6, e, h⟩ := op_bd h
      refine ow_cSi (pc := 40) [.ref v3, .int (7 : Int32), .int r4.1, .int v5] ((c_X12_found _ _ _ _ _ _ e).mono (by decide)) rfl dX12_corner_40 cw_X12_217 rfl (Nat.le_of_ble_eq_true rfl) ?_
      refine aw_iconst (pc := 43) (v := (-1 : Int32)) dX12_corner_43 (by decide) ?_
      refine aw_icmp_ne (pc := 44) 52 dX12_corner_44 (by decide) (fun z => ?_) (fun z => ?_)
      · replace h := (if_neg z).symm.trans h
        exact c_X12_corner_52  _ _ _ h
      · replace h := (if_pos z).symm.trans h
        refine aw_aload_n (pc := 47) 0 dX12_corner_47 rfl ?_
        refine aw_iconst (pc := 48) (v := (4 : Int32)) dX12_corner_48 (by decide) ?_
        obtain ⟨r7, e, h⟩ := op_bd h
        refine ow_cVv (pc := 49) [.int (4 : Int32)] ((c_X12_wrong _ _ _ _ e).mono (by decide)) (op_ck_sh e) rfl dX12_corner_49 cw_X12_214 rfl (Nat.le_of_ble_eq_true rfl) ?_
        exact c_X12_corner_52  _ _ _ h
    · replace h := (if_neg z).symm.trans h
      refine aw_aload_n (pc := 17) 0 dX12_corner_17 rfl ?_
      refine aw_iconst (pc := 18) (v := (1 : Int32)) dX12_corner_18 (by decide) ?_
      obtain ⟨r8, e, h⟩ := op_bd h
      refine ow_cVv (pc := 19) [.int (1 : Int32)] ((c_X12_wrong _ _ _ _ e).mono (by decide)) (op_ck_sh e) rfl dX12_corner_19 cw_X12_214 rfl (Nat.le_of_ble_eq_true rfl) ?_
      refine aw_goto (pc := 22) 52 dX12_corner_22 (by decide) ?_
      exact c_X12_corner_52  _ _ _ h
  · replace h := (if_neg z).symm.trans h
    refine aw_iconst (pc := 7) (v := (0 : Int32)) dX12_corner_7 (by decide) ?_
    exact ow_iret (pc := 8) h dX12_corner_8 rfl
theorem c_X12_corner {G : ah_G}   (x0 : Nat) (σ : ah_H) (r : Int32 × ah_H) (h : f_X12_corner  x0 σ = some r) : AM G m_X12_corner 1 0 0 [.ref x0] σ (ah_ri r) := aw_enter (by decide) (Nat.le_of_ble_eq_true rfl) (c_X12_corner_0 _ _ _ (op_ck_k h))
def f_X12_reads_0   (x0 : Nat) (x1 : Int32) (x2 : Int32) (σ : ah_H) : Option (ah_H) :=
  (op_gR 12 3 σ x0).bind fun v1 => (op_sI σ v1 ((12 : Int32) + x1) x2).bind fun σ2 => some σ2
def f_X12_reads  (x0 : Nat) (x1 : Int32) (x2 : Int32) (σ : ah_H) : Option (ah_H) := op_ck 12 σ x0 (f_X12_reads_0 x0 x1 x2 σ)
set_option maxRecDepth 100000 in
set_option maxHeartbeats 4000000 in
theorem c_X12_reads_0 {G : ah_G}   : ∀ (x0 : Nat) (x1 : Int32) (x2 : Int32) (σ : ah_H) (r : ah_H), f_X12_reads_0   x0 x1 x2 σ = some r → AW G m_X12_reads 0 0 0 0 [(0, .ref x0), (1, .int x1), (2, .int x2)] [] σ (ah_N G (ah_rv r)) := by
  intro x0 x1 x2 σ r h
  unfold f_X12_reads_0 at h
  refine aw_aload_n (pc := 0) 0 dX12_reads_0 rfl ?_
  obtain ⟨v1, e, h⟩ := op_bd h
  refine ow_gR (pc := 1) e dX12_reads_1 fd_X12_15 rfl ?_
  refine aw_bipush (pc := 4) (v := (12 : Int32)) dX12_reads_4 (by decide) ?_
  refine aw_iload_n (pc := 6) 1 dX12_reads_6 rfl ?_
  refine aw_iadd (pc := 7) dX12_reads_7 ?_
  refine aw_iload_n (pc := 8) 2 dX12_reads_8 rfl ?_
  obtain ⟨σ2, e, h⟩ := op_bd h
  refine ow_sI (pc := 9) e dX12_reads_9 ?_
  exact ow_vret (pc := 10) h dX12_reads_10 rfl
theorem c_X12_reads {G : ah_G}   (x0 : Nat) (x1 : Int32) (x2 : Int32) (σ : ah_H) (r : ah_H) (h : f_X12_reads  x0 x1 x2 σ = some r) : AM G m_X12_reads 0 0 0 [.ref x0, .int x1, .int x2] σ (ah_rv r) := aw_enter (by decide) (Nat.le_of_ble_eq_true rfl) (c_X12_reads_0 _ _ _ _ _ (op_ck_k h))
