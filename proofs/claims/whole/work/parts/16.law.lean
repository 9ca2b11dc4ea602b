def f_L_law_1219 (N : Nat) (xs : Nat → Int32) (K23 : Nat → Nat → Nat → Nat → Int32 → ah_H → Option (Int32 × ah_H)) (x0 : Nat) (x1 : Nat) (x2 : Nat) (x3 : Nat) (x4 : Int32) (σ : ah_H) : Option (Int32 × ah_H) :=
  K23 x0 x1 x2 x3 (x4 + (6 : Int32)) σ
def f_L_law_409 (N : Nat) (xs : Nat → Int32) (K23 : Nat → Nat → Nat → Nat → Int32 → ah_H → Option (Int32 × ah_H)) (x0 : Nat) (x1 : Nat) (x2 : Nat) (x3 : Nat) (x4 : Int32) (σ : ah_H) : Option (Int32 × ah_H) :=
  f_L_law_1219 N xs K23 x0 x1 x2 x3 x4 σ
def f_L_law_23_b (N : Nat) (xs : Nat → Int32) (K23 : Nat → Nat → Nat → Nat → Int32 → ah_H → Option (Int32 × ah_H)) (x0 : Nat) (x1 : Nat) (x2 : Nat) (x3 : Nat) (x4 : Int32) (σ : ah_H) : Option (Int32 × ah_H) :=
  (op_sn N x0).bind fun v1 => if (v1 - (6 : Int32)) < x4 then ((op_rz (1 : Int32)).map fun q => (q, σ)) else ((op_sx N xs x0 x4).bind fun v2 => if (v2 &&& (31 : Int32)) = (0 : Int32) then ((op_sx N xs x0 (x4 + (1 : Int32))).bind fun v3 => (op_sx N xs x0 (x4 + (2 : Int32))).bind fun v4 => (op_sx N xs x0 (x4 + (3 : Int32))).bind fun v5 => (op_sx N xs x0 (x4 + (4 : Int32))).bind fun v6 => (op_sx N xs x0 (x4 + (5 : Int32))).bind fun v7 => (f_X11_feed x1 v3 v4 v5 v6 v7 σ).bind fun r8 => (op_sx N xs x0 (x4 + (1 : Int32))).bind fun v9 => (op_sx N xs x0 (x4 + (2 : Int32))).bind fun v10 => (op_sx N xs x0 (x4 + (3 : Int32))).bind fun v11 => (op_sx N xs x0 (x4 + (4 : Int32))).bind fun v12 => (op_sx N xs x0 (x4 + (5 : Int32))).bind fun v13 => (f_X12_feed x2 v9 v10 v11 v12 v13 r8.2).bind fun r14 => if r8.1 = r14.1 then (f_L_law_1219 N xs K23 x0 x1 x2 x3 x4 r14.2) else ((op_rz (0 : Int32)).map fun q => (q, r14.2))) else (if (v2 &&& (31 : Int32)) = (1 : Int32) then ((op_sx N xs x0 (x4 + (1 : Int32))).bind fun v15 => (f_X11_text x1 v15 σ).bind fun r16 => (op_sx N xs x0 (x4 + (1 : Int32))).bind fun v17 => (f_X12_text x2 v17 r16.2).bind fun r18 => if r16.1 = r18.1 then (f_L_law_1219 N xs K23 x0 x1 x2 x3 x4 r18.2) else ((op_rz (0 : Int32)).map fun q => (q, r18.2))) else (if (v2 &&& (31 : Int32)) = (2 : Int32) then ((op_sx N xs x0 (x4 + (1 : Int32))).bind fun v19 => (f_X11_fault x1 v19 σ).bind fun r20 => (op_sx N xs x0 (x4 + (1 : Int32))).bind fun v21 => (f_X12_fault x2 v21 r20.2).bind fun r22 => if r20.1 = r22.1 then (f_L_law_1219 N xs K23 x0 x1 x2 x3 x4 r22.2) else ((op_rz (0 : Int32)).map fun q => (q, r22.2))) else (if (v2 &&& (31 : Int32)) = (3 : Int32) then ((op_sx N xs x0 (x4 + (1 : Int32))).bind fun v23 => (op_sx N xs x0 (x4 + (2 : Int32))).bind fun v24 => (f_X11_named x1 v23 v24 σ).bind fun r25 => (op_sx N xs x0 (x4 + (1 : Int32))).bind fun v26 => (op_sx N xs x0 (x4 + (2 : Int32))).bind fun v27 => (f_X12_named x2 v26 v27 r25.2).bind fun r28 => if r25.1 = r28.1 then (f_L_law_1219 N xs K23 x0 x1 x2 x3 x4 r28.2) else ((op_rz (0 : Int32)).map fun q => (q, r28.2))) else (if (v2 &&& (31 : Int32)) = (4 : Int32) then ((op_sx N xs x0 (x4 + (1 : Int32))).bind fun v29 => (op_sx N xs x0 (x4 + (2 : Int32))).bind fun v30 => (f_L_look x1 v29 v30 x3 σ).bind fun r31 => (op_sx N xs x0 (x4 + (1 : Int32))).bind fun v32 => (op_sx N xs x0 (x4 + (2 : Int32))).bind fun v33 => (f_X12_look x2 v32 v33 r31.2).bind fun r34 => (f_X12_thrown x2 r34.2).bind fun r35 => if r35.1 = r31.1 then (if r31.1 = 0 then ((op_aL r35.2 x3 (0 : Int32)).bind fun v36 => if (lg_cmp v36 (Int32.toInt64 r34.1)) = 0 then (f_L_law_409 N xs K23 x0 x1 x2 x3 x4 r35.2) else ((op_rz (0 : Int32)).map fun q => (q, r35.2))) else (f_L_law_409 N xs K23 x0 x1 x2 x3 x4 r35.2)) else ((op_rz (0 : Int32)).map fun q => (q, r35.2))) else (if (v2 &&& (31 : Int32)) = (5 : Int32) then ((op_sx N xs x0 (x4 + (1 : Int32))).bind fun v37 => (op_sx N xs x0 (x4 + (2 : Int32))).bind fun v38 => (f_X11_street x1 v37 v38 σ).bind fun r39 => (op_sx N xs x0 (x4 + (1 : Int32))).bind fun v40 => (op_sx N xs x0 (x4 + (2 : Int32))).bind fun v41 => (f_X12_street x2 v40 v41 r39.2).bind fun r42 => if r39.1 = r42.1 then (f_L_law_1219 N xs K23 x0 x1 x2 x3 x4 r42.2) else ((op_rz (0 : Int32)).map fun q => (q, r42.2))) else (if (v2 &&& (31 : Int32)) = (6 : Int32) then ((op_sx N xs x0 (x4 + (1 : Int32))).bind fun v43 => (op_sx N xs x0 (x4 + (2 : Int32))).bind fun v44 => (f_X11_pipe x1 v43 v44 σ).bind fun r45 => (op_sx N xs x0 (x4 + (1 : Int32))).bind fun v46 => (op_sx N xs x0 (x4 + (2 : Int32))).bind fun v47 => (f_X12_pipe x2 v46 v47 r45.2).bind fun r48 => if r45.1 = r48.1 then (f_L_law_1219 N xs K23 x0 x1 x2 x3 x4 r48.2) else ((op_rz (0 : Int32)).map fun q => (q, r48.2))) else (if (v2 &&& (31 : Int32)) = (7 : Int32) then ((op_sx N xs x0 (x4 + (1 : Int32))).bind fun v49 => (op_sx N xs x0 (x4 + (2 : Int32))).bind fun v50 => (op_sx N xs x0 (x4 + (3 : Int32))).bind fun v51 => (op_sx N xs x0 (x4 + (4 : Int32))).bind fun v52 => (op_sx N xs x0 (x4 + (5 : Int32))).bind fun v53 => (f_X11_lay x1 v49 v50 v51 v52 v53 σ).bind fun r54 => (op_sx N xs x0 (x4 + (1 : Int32))).bind fun v55 => (op_sx N xs x0 (x4 + (2 : Int32))).bind fun v56 => (op_sx N xs x0 (x4 + (3 : Int32))).bind fun v57 => (op_sx N xs x0 (x4 + (4 : Int32))).bind fun v58 => (op_sx N xs x0 (x4 + (5 : Int32))).bind fun v59 => (f_X12_lay x2 v55 v56 v57 v58 v59 r54.2).bind fun r60 => if r54.1 = r60.1 then (f_L_law_1219 N xs K23 x0 x1 x2 x3 x4 r60.2) else ((op_rz (0 : Int32)).map fun q => (q, r60.2))) else (if (v2 &&& (31 : Int32)) = (8 : Int32) then ((op_sx N xs x0 (x4 + (1 : Int32))).bind fun v61 => (f_X11_take x1 v61 σ).bind fun r62 => (op_sx N xs x0 (x4 + (1 : Int32))).bind fun v63 => (f_X12_take x2 v63 r62.2).bind fun r64 => if r62.1 = r64.1 then (f_L_law_1219 N xs K23 x0 x1 x2 x3 x4 r64.2) else ((op_rz (0 : Int32)).map fun q => (q, r64.2))) else (if (v2 &&& (31 : Int32)) = (9 : Int32) then ((op_sx N xs x0 (x4 + (1 : Int32))).bind fun v65 => (op_sx N xs x0 (x4 + (2 : Int32))).bind fun v66 => (f_X11_net x1 v65 v66 σ).bind fun r67 => (op_sx N xs x0 (x4 + (1 : Int32))).bind fun v68 => (op_sx N xs x0 (x4 + (2 : Int32))).bind fun v69 => (f_X12_net x2 v68 v69 r67.2).bind fun r70 => if r67.1 = r70.1 then (f_L_law_1219 N xs K23 x0 x1 x2 x3 x4 r70.2) else ((op_rz (0 : Int32)).map fun q => (q, r70.2))) else (if (v2 &&& (31 : Int32)) = (10 : Int32) then ((op_sx N xs x0 (x4 + (1 : Int32))).bind fun v71 => (f_X11_carries x1 v71 σ).bind fun r72 => (op_sx N xs x0 (x4 + (1 : Int32))).bind fun v73 => (f_X12_carries x2 v73 r72.2).bind fun r74 => if (lg_cmp r72.1 r74.1) = 0 then (f_L_law_1219 N xs K23 x0 x1 x2 x3 x4 r74.2) else ((op_rz (0 : Int32)).map fun q => (q, r74.2))) else (if (v2 &&& (31 : Int32)) = (11 : Int32) then ((op_sx N xs x0 (x4 + (1 : Int32))).bind fun v75 => (op_sx N xs x0 (x4 + (2 : Int32))).bind fun v76 => (f_X11_cost x1 v75 v76 σ).bind fun r77 => (op_sx N xs x0 (x4 + (1 : Int32))).bind fun v78 => (op_sx N xs x0 (x4 + (2 : Int32))).bind fun v79 => (f_X12_cost x2 v78 v79 r77.2).bind fun r80 => if (lg_cmp r77.1 r80.1) = 0 then (f_L_law_1219 N xs K23 x0 x1 x2 x3 x4 r80.2) else ((op_rz (0 : Int32)).map fun q => (q, r80.2))) else (if (v2 &&& (31 : Int32)) = (12 : Int32) then ((f_X11_all x1 σ).bind fun r81 => (f_X12_all x2 r81.2).bind fun r82 => if (lg_cmp r81.1 r82.1) = 0 then (f_L_law_1219 N xs K23 x0 x1 x2 x3 x4 r82.2) else ((op_rz (0 : Int32)).map fun q => (q, r82.2))) else (if (v2 &&& (31 : Int32)) = (13 : Int32) then ((op_sx N xs x0 (x4 + (1 : Int32))).bind fun v83 => (f_X11_broken x1 v83 σ).bind fun r84 => (op_sx N xs x0 (x4 + (1 : Int32))).bind fun v85 => (f_X12_broken x2 v85 r84.2).bind fun r86 => if r84.1 = r86.1 then (f_L_law_1219 N xs K23 x0 x1 x2 x3 x4 r86.2) else ((op_rz (0 : Int32)).map fun q => (q, r86.2))) else (if (v2 &&& (31 : Int32)) = (14 : Int32) then ((op_sx N xs x0 (x4 + (1 : Int32))).bind fun v87 => (f_X11_judged x1 v87 σ).bind fun r88 => (op_sx N xs x0 (x4 + (1 : Int32))).bind fun v89 => (f_X12_judged x2 v89 r88.2).bind fun r90 => if r88.1 = r90.1 then (f_L_law_1219 N xs K23 x0 x1 x2 x3 x4 r90.2) else ((op_rz (0 : Int32)).map fun q => (q, r90.2))) else (if (v2 &&& (31 : Int32)) = (15 : Int32) then ((op_sx N xs x0 (x4 + (1 : Int32))).bind fun v91 => (op_sx N xs x0 (x4 + (2 : Int32))).bind fun v92 => (op_sx N xs x0 (x4 + (3 : Int32))).bind fun v93 => (f_X11_flow x1 v91 v92 v93 σ).bind fun r94 => (op_sx N xs x0 (x4 + (1 : Int32))).bind fun v95 => (op_sx N xs x0 (x4 + (2 : Int32))).bind fun v96 => (op_sx N xs x0 (x4 + (3 : Int32))).bind fun v97 => (f_X12_flow x2 v95 v96 v97 r94.2).bind fun r98 => if (lg_cmp r94.1 r98.1) = 0 then (f_L_law_1219 N xs K23 x0 x1 x2 x3 x4 r98.2) else ((op_rz (0 : Int32)).map fun q => (q, r98.2))) else (if (v2 &&& (31 : Int32)) = (16 : Int32) then ((op_sx N xs x0 (x4 + (1 : Int32))).bind fun v99 => (op_sx N xs x0 (x4 + (2 : Int32))).bind fun v100 => (op_sx N xs x0 (x4 + (3 : Int32))).bind fun v101 => (f_X11_flooded x1 v99 v100 v101 σ).bind fun r102 => (op_sx N xs x0 (x4 + (1 : Int32))).bind fun v103 => (op_sx N xs x0 (x4 + (2 : Int32))).bind fun v104 => (op_sx N xs x0 (x4 + (3 : Int32))).bind fun v105 => (f_X12_flooded x2 v103 v104 v105 r102.2).bind fun r106 => if (lg_cmp r102.1 r106.1) = 0 then (f_L_law_1219 N xs K23 x0 x1 x2 x3 x4 r106.2) else ((op_rz (0 : Int32)).map fun q => (q, r106.2))) else (if (v2 &&& (31 : Int32)) = (17 : Int32) then ((op_sx N xs x0 (x4 + (1 : Int32))).bind fun v107 => (f_X11_floods x1 v107 σ).bind fun r108 => (op_sx N xs x0 (x4 + (1 : Int32))).bind fun v109 => (f_X12_floods x2 v109 r108.2).bind fun r110 => if (lg_cmp r108.1 r110.1) = 0 then (f_L_law_1219 N xs K23 x0 x1 x2 x3 x4 r110.2) else ((op_rz (0 : Int32)).map fun q => (q, r110.2))) else (if (v2 &&& (31 : Int32)) = (18 : Int32) then ((op_sx N xs x0 (x4 + (1 : Int32))).bind fun v111 => (op_sx N xs x0 (x4 + (2 : Int32))).bind fun v112 => (f_X11_worst x1 v111 v112 σ).bind fun r113 => (op_sx N xs x0 (x4 + (1 : Int32))).bind fun v114 => (op_sx N xs x0 (x4 + (2 : Int32))).bind fun v115 => (f_X12_worst x2 v114 v115 r113.2).bind fun r116 => if (lg_cmp r113.1 r116.1) = 0 then (f_L_law_1219 N xs K23 x0 x1 x2 x3 x4 r116.2) else ((op_rz (0 : Int32)).map fun q => (q, r116.2))) else (if (v2 &&& (31 : Int32)) = (19 : Int32) then ((op_sx N xs x0 (x4 + (1 : Int32))).bind fun v117 => (f_X11_burst x1 v117 σ).bind fun r118 => (op_sx N xs x0 (x4 + (1 : Int32))).bind fun v119 => (f_X12_burst x2 v119 r118.2).bind fun r120 => if r118.1 = r120.1 then (f_L_law_1219 N xs K23 x0 x1 x2 x3 x4 r120.2) else ((op_rz (0 : Int32)).map fun q => (q, r120.2))) else (if (v2 &&& (31 : Int32)) = (20 : Int32) then ((f_X11_bursts x1 σ).bind fun r121 => (f_X12_bursts x2 r121.2).bind fun r122 => if r121.1 = r122.1 then (f_L_law_1219 N xs K23 x0 x1 x2 x3 x4 r122.2) else ((op_rz (0 : Int32)).map fun q => (q, r122.2))) else (if (v2 &&& (31 : Int32)) = (21 : Int32) then ((op_sx N xs x0 (x4 + (1 : Int32))).bind fun v123 => (f_X11_cheapest x1 v123 σ).bind fun r124 => (op_sx N xs x0 (x4 + (1 : Int32))).bind fun v125 => (f_X12_cheapest x2 v125 r124.2).bind fun r126 => if (lg_cmp r124.1 r126.1) = 0 then (f_L_law_1219 N xs K23 x0 x1 x2 x3 x4 r126.2) else ((op_rz (0 : Int32)).map fun q => (q, r126.2))) else (if (v2 &&& (31 : Int32)) = (22 : Int32) then ((op_sx N xs x0 (x4 + (1 : Int32))).bind fun v127 => (f_X11_laid x1 v127 σ).bind fun r128 => (op_sx N xs x0 (x4 + (1 : Int32))).bind fun v129 => (f_X12_laid x2 v129 r128.2).bind fun r130 => if r128.1 = r130.1 then (f_L_law_1219 N xs K23 x0 x1 x2 x3 x4 r130.2) else ((op_rz (0 : Int32)).map fun q => (q, r130.2))) else (if (v2 &&& (31 : Int32)) = (23 : Int32) then ((op_sx N xs x0 (x4 + (1 : Int32))).bind fun v131 => (f_X11_tree x1 v131 σ).bind fun r132 => (op_sx N xs x0 (x4 + (1 : Int32))).bind fun v133 => (f_X12_tree x2 v133 r132.2).bind fun r134 => if (lg_cmp r132.1 r134.1) = 0 then (f_L_law_1219 N xs K23 x0 x1 x2 x3 x4 r134.2) else ((op_rz (0 : Int32)).map fun q => (q, r134.2))) else (if (v2 &&& (31 : Int32)) = (24 : Int32) then ((op_sx N xs x0 (x4 + (1 : Int32))).bind fun v135 => (op_sx N xs x0 (x4 + (2 : Int32))).bind fun v136 => (f_X11_without x1 v135 v136 σ).bind fun r137 => (op_sx N xs x0 (x4 + (1 : Int32))).bind fun v138 => (op_sx N xs x0 (x4 + (2 : Int32))).bind fun v139 => (f_X12_without x2 v138 v139 r137.2).bind fun r140 => if (lg_cmp r137.1 r140.1) = 0 then (f_L_law_1219 N xs K23 x0 x1 x2 x3 x4 r140.2) else ((op_rz (0 : Int32)).map fun q => (q, r140.2))) else (if (v2 &&& (31 : Int32)) = (25 : Int32) then ((op_sx N xs x0 (x4 + (1 : Int32))).bind fun v141 => (f_X11_stages x1 v141 σ).bind fun r142 => (op_sx N xs x0 (x4 + (1 : Int32))).bind fun v143 => (f_X12_stages x2 v143 r142.2).bind fun r144 => if (lg_cmp r142.1 r144.1) = 0 then (f_L_law_1219 N xs K23 x0 x1 x2 x3 x4 r144.2) else ((op_rz (0 : Int32)).map fun q => (q, r144.2))) else (if (v2 &&& (31 : Int32)) = (26 : Int32) then ((op_sx N xs x0 (x4 + (1 : Int32))).bind fun v145 => (op_sx N xs x0 (x4 + (2 : Int32))).bind fun v146 => (f_X11_stage x1 v145 v146 σ).bind fun r147 => (op_sx N xs x0 (x4 + (1 : Int32))).bind fun v148 => (op_sx N xs x0 (x4 + (2 : Int32))).bind fun v149 => (f_X12_stage x2 v148 v149 r147.2).bind fun r150 => if (lg_cmp r147.1 r150.1) = 0 then (f_L_law_1219 N xs K23 x0 x1 x2 x3 x4 r150.2) else ((op_rz (0 : Int32)).map fun q => (q, r150.2))) else (if (v2 &&& (31 : Int32)) = (27 : Int32) then ((op_sx N xs x0 (x4 + (1 : Int32))).bind fun v151 => (f_X11_first x1 v151 σ).bind fun r152 => (op_sx N xs x0 (x4 + (1 : Int32))).bind fun v153 => (f_X12_first x2 v153 r152.2).bind fun r154 => if r152.1 = r154.1 then (f_L_law_1219 N xs K23 x0 x1 x2 x3 x4 r154.2) else ((op_rz (0 : Int32)).map fun q => (q, r154.2))) else (if (v2 &&& (31 : Int32)) = (28 : Int32) then ((f_X11_undo x1 σ).bind fun r155 => (f_X12_undo x2 r155.2).bind fun r156 => if r155.1 = r156.1 then (f_L_law_1219 N xs K23 x0 x1 x2 x3 x4 r156.2) else ((op_rz (0 : Int32)).map fun q => (q, r156.2))) else (if (v2 &&& (31 : Int32)) = (29 : Int32) then ((f_X11_keep x1 σ).bind fun r157 => (f_X12_keep x2 r157.2).bind fun r158 => if r157.1 = r158.1 then (f_L_law_1219 N xs K23 x0 x1 x2 x3 x4 r158.2) else ((op_rz (0 : Int32)).map fun q => (q, r158.2))) else (if (v2 &&& (31 : Int32)) = (30 : Int32) then ((f_X11_back x1 σ).bind fun r159 => (f_X12_back x2 r159.2).bind fun r160 => if r159.1 = r160.1 then (f_L_law_1219 N xs K23 x0 x1 x2 x3 x4 r160.2) else ((op_rz (0 : Int32)).map fun q => (q, r160.2))) else (if (v2 &&& (31 : Int32)) = (31 : Int32) then ((op_sx N xs x0 (x4 + (1 : Int32))).bind fun v161 => (f_X11_count x1 v161 σ).bind fun r162 => (op_sx N xs x0 (x4 + (1 : Int32))).bind fun v163 => (f_X12_count x2 v163 r162.2).bind fun r164 => if r162.1 = r164.1 then (f_L_law_1219 N xs K23 x0 x1 x2 x3 x4 r164.2) else ((op_rz (0 : Int32)).map fun q => (q, r164.2))) else (f_L_law_1219 N xs K23 x0 x1 x2 x3 x4 σ)))))))))))))))))))))))))))))))))
def f_L_law_23 (N : Nat) (xs : Nat → Int32)  : Nat → Nat → Nat → Nat → Nat → Int32 → ah_H → Option (Int32 × ah_H)
  | 0, _, _, _, _, _, _ => none
  | n + 1, x0, x1, x2, x3, x4, σ => f_L_law_23_b N xs (f_L_law_23 N xs n) x0 x1 x2 x3 x4 σ
set_option maxRecDepth 100000 in
set_option maxHeartbeats 4000000 in
theorem c_L_law_1219 {G : ah_G} {n : Nat} (N : Nat) (xs : Nat → Int32) (hN : ah_sn G = N) (hx : ah_xs G = xs) (hne : ¬ ah_ex G) (K23 : Nat → Nat → Nat → Nat → Int32 → ah_H → Option (Int32 × ah_H)) (hK23 : ∀ (x0 : Nat) (x1 : Nat) (x2 : Nat) (x3 : Nat) (x4 : Int32) (σ : ah_H) (r : Int32 × ah_H), K23 x0 x1 x2 x3 x4 σ = some r → AW G m_L_law 210 n (6 * n) 23 [(0, .ref x0), (1, .ref x1), (2, .ref x2), (3, .ref x3), (4, .int x4)] [] σ (ah_NL G (ah_ri r))) : ∀ (x0 : Nat) (x1 : Nat) (x2 : Nat) (x3 : Nat) (x4 : Int32) (σ : ah_H) (r : Int32 × ah_H), f_L_law_1219 N xs K23 x0 x1 x2 x3 x4 σ = some r → AW G m_L_law 210 n (6 * n) 1219 [(0, .ref x0), (1, .ref x1), (2, .ref x2), (3, .ref x3), (4, .int x4)] [] σ (ah_NL G (ah_ri r)) := by
  intro x0 x1 x2 x3 x4 σ r h
  unfold f_L_law_1219 at h
  refine aw_iinc (pc := 1219) 4 [(4, .int (x4 + (6 : Int32))), (0, .ref x0), (1, .ref x1), (2, .ref x2), (3, .ref x3)] (x4 + (6 : Int32)) dL_law_1219 rfl rfl (by decide) rfl ?_
  refine aw_goto (pc := 1222) 23 dL_law_1222 (by decide) ?_
  refine aw_sub [1, 2, 3, 4, 0] rfl ?_
  refine aw_wide (kc := n) (ks := 6 * n) (by omega) (by omega) ?_
  exact hK23 _ _ _ _ _ _ _ h
set_option maxRecDepth 100000 in
set_option maxHeartbeats 4000000 in
theorem c_L_law_409 {G : ah_G} {n : Nat} (N : Nat) (xs : Nat → Int32) (hN : ah_sn G = N) (hx : ah_xs G = xs) (hne : ¬ ah_ex G) (K23 : Nat → Nat → Nat → Nat → Int32 → ah_H → Option (Int32 × ah_H)) (hK23 : ∀ (x0 : Nat) (x1 : Nat) (x2 : Nat) (x3 : Nat) (x4 : Int32) (σ : ah_H) (r : Int32 × ah_H), K23 x0 x1 x2 x3 x4 σ = some r → AW G m_L_law 210 n (6 * n) 23 [(0, .ref x0), (1, .ref x1), (2, .ref x2), (3, .ref x3), (4, .int x4)] [] σ (ah_NL G (ah_ri r))) : ∀ (x0 : Nat) (x1 : Nat) (x2 : Nat) (x3 : Nat) (x4 : Int32) (σ : ah_H) (r : Int32 × ah_H), f_L_law_409 N xs K23 x0 x1 x2 x3 x4 σ = some r → AW G m_L_law 210 n (6 * n) 409 [(0, .ref x0), (1, .ref x1), (2, .ref x2), (3, .ref x3), (4, .int x4)] [] σ (ah_NL G (ah_ri r)) := by
  intro x0 x1 x2 x3 x4 σ r h
  unfold f_L_law_409 at h
  refine aw_goto (pc := 409) 1219 dL_law_409 (by decide) ?_
  refine aw_wide (kc := n) (ks := 6 * n) (by omega) (by omega) ?_
  exact c_L_law_1219 N xs hN hx hne K23 hK23 _ _ _ _ _ _ _ h
set_option maxRecDepth 100000 in
set_option maxHeartbeats 4000000 in
theorem c_L_law_23_b {G : ah_G} {n : Nat} (N : Nat) (xs : Nat → Int32) (hN : ah_sn G = N) (hx : ah_xs G = xs) (hne : ¬ ah_ex G) (K23 : Nat → Nat → Nat → Nat → Int32 → ah_H → Option (Int32 × ah_H)) (hK23 : ∀ (x0 : Nat) (x1 : Nat) (x2 : Nat) (x3 : Nat) (x4 : Int32) (σ : ah_H) (r : Int32 × ah_H), K23 x0 x1 x2 x3 x4 σ = some r → AW G m_L_law 210 n (6 * n) 23 [(0, .ref x0), (1, .ref x1), (2, .ref x2), (3, .ref x3), (4, .int x4)] [] σ (ah_NL G (ah_ri r))) : ∀ (x0 : Nat) (x1 : Nat) (x2 : Nat) (x3 : Nat) (x4 : Int32) (σ : ah_H) (r : Int32 × ah_H), f_L_law_23_b N xs K23 x0 x1 x2 x3 x4 σ = some r → AW G m_L_law 210 (n + 1) (6 * n + 6) 23 [(0, .ref x0), (1, .ref x1), (2, .ref x2), (3, .ref x3), (4, .int x4)] [] σ (ah_NL G (ah_ri r)) := by
  intro x0 x1 x2 x3 x4 σ r h
  unfold f_L_law_23_b at h
  refine aw_iload (pc := 23) 4 dL_law_23 rfl ?_
  refine aw_aload_n (pc := 25) 0 dL_law_25 rfl ?_
  obtain ⟨v1, e, h⟩ := op_bd h
  refine ow_sn (pc := 26) hN e dL_law_26 ?_
  refine aw_bipush (pc := 27) (v := (6 : Int32)) dL_law_27 (by decide) ?_
  refine aw_isub (pc := 29) dL_law_29 ?_
  refine aw_icmp_gt (pc := 30) 1225 dL_law_30 (by decide) (fun z => ?_) (fun z => ?_)
  · replace h := (if_pos z).symm.trans h
    refine aw_iconst (pc := 1225) (v := (1 : Int32)) dL_law_1225 (by decide) ?_
    exact ah_nl (ow_zret (pc := 1226) h dL_law_1226 rfl)
  · replace h := (if_neg z).symm.trans h
    refine aw_aload_n (pc := 33) 0 dL_law_33 rfl ?_
    refine aw_iload (pc := 34) 4 dL_law_34 rfl ?_
    obtain ⟨v2, e, h⟩ := op_bd h
    refine ow_sx (pc := 36) hN hx e dL_law_36 ?_
    refine aw_bipush (pc := 37) (v := (31 : Int32)) dL_law_37 (by decide) ?_
    refine aw_iand (pc := 39) dL_law_39 ?_
    by_cases z0 : (v2 &&& (31 : Int32)) = (0 : Int32)
    · replace h := (if_pos z0).symm.trans h
      refine aw_tableIn (pc := 40) (off := 144) 184 dL_law_40 (by rw [z0]; decide) (by rw [z0]; decide) (by rw [z0]; decide) (by decide) ?_
      refine aw_aload_n (pc := 184) 1 dL_law_184 rfl ?_
      refine aw_aload_n (pc := 185) 0 dL_law_185 rfl ?_
      refine aw_iload (pc := 186) 4 dL_law_186 rfl ?_
      refine aw_iconst (pc := 188) (v := (1 : Int32)) dL_law_188 (by decide) ?_
      refine aw_iadd (pc := 189) dL_law_189 ?_
      obtain ⟨v3, e, h⟩ := op_bd h
      refine ow_sx (pc := 190) hN hx e dL_law_190 ?_
      refine aw_aload_n (pc := 191) 0 dL_law_191 rfl ?_
      refine aw_iload (pc := 192) 4 dL_law_192 rfl ?_
      refine aw_iconst (pc := 194) (v := (2 : Int32)) dL_law_194 (by decide) ?_
      refine aw_iadd (pc := 195) dL_law_195 ?_
      obtain ⟨v4, e, h⟩ := op_bd h
      refine ow_sx (pc := 196) hN hx e dL_law_196 ?_
      refine aw_aload_n (pc := 197) 0 dL_law_197 rfl ?_
      refine aw_iload (pc := 198) 4 dL_law_198 rfl ?_
      refine aw_iconst (pc := 200) (v := (3 : Int32)) dL_law_200 (by decide) ?_
      refine aw_iadd (pc := 201) dL_law_201 ?_
      obtain ⟨v5, e, h⟩ := op_bd h
      refine ow_sx (pc := 202) hN hx e dL_law_202 ?_
      refine aw_aload_n (pc := 203) 0 dL_law_203 rfl ?_
      refine aw_iload (pc := 204) 4 dL_law_204 rfl ?_
      refine aw_iconst (pc := 206) (v := (4 : Int32)) dL_law_206 (by decide) ?_
      refine aw_iadd (pc := 207) dL_law_207 ?_
      obtain ⟨v6, e, h⟩ := op_bd h
      refine ow_sx (pc := 208) hN hx e dL_law_208 ?_
      refine aw_aload_n (pc := 209) 0 dL_law_209 rfl ?_
      refine aw_iload (pc := 210) 4 dL_law_210 rfl ?_
      refine aw_iconst (pc := 212) (v := (5 : Int32)) dL_law_212 (by decide) ?_
      refine aw_iadd (pc := 213) dL_law_213 ?_
      obtain ⟨v7, e, h⟩ := op_bd h
      refine ow_sx (pc := 214) hN hx e dL_law_214 ?_
      obtain ⟨r8, e, h⟩ := op_bd h
      refine ow_cViK (pc := 215) [.int v3, .int v4, .int v5, .int v6, .int v7] ((c_X11_feed _ _ _ _ _ _ _ _ e).mono (by decide)) (op_ck_sh e) rfl dL_law_215 cw_L_21 rfl (Nat.le_of_ble_eq_true rfl) ?_
      refine aw_aload_n (pc := 218) 2 dL_law_218 rfl ?_
      refine aw_aload_n (pc := 219) 0 dL_law_219 rfl ?_
      refine aw_iload (pc := 220) 4 dL_law_220 rfl ?_
      refine aw_iconst (pc := 222) (v := (1 : Int32)) dL_law_222 (by decide) ?_
      refine aw_iadd (pc := 223) dL_law_223 ?_
      obtain ⟨v9, e, h⟩ := op_bd h
      refine ow_sx (pc := 224) hN hx e dL_law_224 ?_
      refine aw_aload_n (pc := 225) 0 dL_law_225 rfl ?_
      refine aw_iload (pc := 226) 4 dL_law_226 rfl ?_
      refine aw_iconst (pc := 228) (v := (2 : Int32)) dL_law_228 (by decide) ?_
      refine aw_iadd (pc := 229) dL_law_229 ?_
      obtain ⟨v10, e, h⟩ := op_bd h
      refine ow_sx (pc := 230) hN hx e dL_law_230 ?_
      refine aw_aload_n (pc := 231) 0 dL_law_231 rfl ?_
      refine aw_iload (pc := 232) 4 dL_law_232 rfl ?_
      refine aw_iconst (pc := 234) (v := (3 : Int32)) dL_law_234 (by decide) ?_
      refine aw_iadd (pc := 235) dL_law_235 ?_
      obtain ⟨v11, e, h⟩ := op_bd h
      refine ow_sx (pc := 236) hN hx e dL_law_236 ?_
      refine aw_aload_n (pc := 237) 0 dL_law_237 rfl ?_
      refine aw_iload (pc := 238) 4 dL_law_238 rfl ?_
      refine aw_iconst (pc := 240) (v := (4 : Int32)) dL_law_240 (by decide) ?_
      refine aw_iadd (pc := 241) dL_law_241 ?_
      obtain ⟨v12, e, h⟩ := op_bd h
      refine ow_sx (pc := 242) hN hx e dL_law_242 ?_
      refine aw_aload_n (pc := 243) 0 dL_law_243 rfl ?_
      refine aw_iload (pc := 244) 4 dL_law_244 rfl ?_
      refine aw_iconst (pc := 246) (v := (5 : Int32)) dL_law_246 (by decide) ?_
      refine aw_iadd (pc := 247) dL_law_247 ?_
      obtain ⟨v13, e, h⟩ := op_bd h
      refine ow_sx (pc := 248) hN hx e dL_law_248 ?_
      obtain ⟨r14, e, h⟩ := op_bd h
      refine ow_cViK (pc := 249) [.int v9, .int v10, .int v11, .int v12, .int v13] ((c_X12_feed _ _ _ _ _ _ _ _ e).mono (by decide)) (op_ck_sh e) rfl dL_law_249 cw_L_25 rfl (Nat.le_of_ble_eq_true rfl) ?_
      refine aw_icmp_eq (pc := 252) 1219 dL_law_252 (by decide) (fun z => ?_) (fun z => ?_)
      · replace h := (if_pos z).symm.trans h
        refine aw_wide (kc := n) (ks := 6 * n) (by omega) (by omega) ?_
        exact c_L_law_1219 N xs hN hx hne K23 hK23 _ _ _ _ _ _ _ h
      · replace h := (if_neg z).symm.trans h
        refine aw_iconst (pc := 255) (v := (0 : Int32)) dL_law_255 (by decide) ?_
        exact ah_nl (ow_zret (pc := 256) h dL_law_256 rfl)
    · replace h := (if_neg z0).symm.trans h
      by_cases z1 : (v2 &&& (31 : Int32)) = (1 : Int32)
      · replace h := (if_pos z1).symm.trans h
        refine aw_tableIn (pc := 40) (off := 217) 257 dL_law_40 (by rw [z1]; decide) (by rw [z1]; decide) (by rw [z1]; decide) (by decide) ?_
        refine aw_aload_n (pc := 257) 1 dL_law_257 rfl ?_
        refine aw_aload_n (pc := 258) 0 dL_law_258 rfl ?_
        refine aw_iload (pc := 259) 4 dL_law_259 rfl ?_
        refine aw_iconst (pc := 261) (v := (1 : Int32)) dL_law_261 (by decide) ?_
        refine aw_iadd (pc := 262) dL_law_262 ?_
        obtain ⟨v15, e, h⟩ := op_bd h
        refine ow_sx (pc := 263) hN hx e dL_law_263 ?_
        obtain ⟨r16, e, h⟩ := op_bd h
        refine ow_cViK (pc := 264) [.int v15] ((c_X11_text _ _ _ _ e).mono (by decide)) (op_ck_sh e) rfl dL_law_264 cw_L_26 rfl (Nat.le_of_ble_eq_true rfl) ?_
        refine aw_aload_n (pc := 267) 2 dL_law_267 rfl ?_
        refine aw_aload_n (pc := 268) 0 dL_law_268 rfl ?_
        refine aw_iload (pc := 269) 4 dL_law_269 rfl ?_
        refine aw_iconst (pc := 271) (v := (1 : Int32)) dL_law_271 (by decide) ?_
        refine aw_iadd (pc := 272) dL_law_272 ?_
        obtain ⟨v17, e, h⟩ := op_bd h
        refine ow_sx (pc := 273) hN hx e dL_law_273 ?_
        obtain ⟨r18, e, h⟩ := op_bd h
        refine ow_cViK (pc := 274) [.int v17] ((c_X12_text _ _ _ _ e).mono (by decide)) (op_ck_sh e) rfl dL_law_274 cw_L_30 rfl (Nat.le_of_ble_eq_true rfl) ?_
        refine aw_icmp_eq (pc := 277) 1219 dL_law_277 (by decide) (fun z => ?_) (fun z => ?_)
        · replace h := (if_pos z).symm.trans h
          refine aw_wide (kc := n) (ks := 6 * n) (by omega) (by omega) ?_
          exact c_L_law_1219 N xs hN hx hne K23 hK23 _ _ _ _ _ _ _ h
        · replace h := (if_neg z).symm.trans h
          refine aw_iconst (pc := 280) (v := (0 : Int32)) dL_law_280 (by decide) ?_
          exact ah_nl (ow_zret (pc := 281) h dL_law_281 rfl)
      · replace h := (if_neg z1).symm.trans h
        by_cases z2 : (v2 &&& (31 : Int32)) = (2 : Int32)
        · replace h := (if_pos z2).symm.trans h
          refine aw_tableIn (pc := 40) (off := 242) 282 dL_law_40 (by rw [z2]; decide) (by rw [z2]; decide) (by rw [z2]; decide) (by decide) ?_
          refine aw_aload_n (pc := 282) 1 dL_law_282 rfl ?_
          refine aw_aload_n (pc := 283) 0 dL_law_283 rfl ?_
          refine aw_iload (pc := 284) 4 dL_law_284 rfl ?_
          refine aw_iconst (pc := 286) (v := (1 : Int32)) dL_law_286 (by decide) ?_
          refine aw_iadd (pc := 287) dL_law_287 ?_
          obtain ⟨v19, e, h⟩ := op_bd h
          refine ow_sx (pc := 288) hN hx e dL_law_288 ?_
          obtain ⟨r20, e, h⟩ := op_bd h
          refine ow_cViK (pc := 289) [.int v19] ((c_X11_fault _ _ _ _ e).mono (by decide)) (op_ck_sh e) rfl dL_law_289 cw_L_31 rfl (Nat.le_of_ble_eq_true rfl) ?_
          refine aw_aload_n (pc := 292) 2 dL_law_292 rfl ?_
          refine aw_aload_n (pc := 293) 0 dL_law_293 rfl ?_
          refine aw_iload (pc := 294) 4 dL_law_294 rfl ?_
          refine aw_iconst (pc := 296) (v := (1 : Int32)) dL_law_296 (by decide) ?_
          refine aw_iadd (pc := 297) dL_law_297 ?_
          obtain ⟨v21, e, h⟩ := op_bd h
          refine ow_sx (pc := 298) hN hx e dL_law_298 ?_
          obtain ⟨r22, e, h⟩ := op_bd h
          refine ow_cViK (pc := 299) [.int v21] ((c_X12_fault _ _ _ _ e).mono (by decide)) (op_ck_sh e) rfl dL_law_299 cw_L_34 rfl (Nat.le_of_ble_eq_true rfl) ?_
          refine aw_icmp_eq (pc := 302) 1219 dL_law_302 (by decide) (fun z => ?_) (fun z => ?_)
          · replace h := (if_pos z).symm.trans h
            refine aw_wide (kc := n) (ks := 6 * n) (by omega) (by omega) ?_
            exact c_L_law_1219 N xs hN hx hne K23 hK23 _ _ _ _ _ _ _ h
          · replace h := (if_neg z).symm.trans h
            refine aw_iconst (pc := 305) (v := (0 : Int32)) dL_law_305 (by decide) ?_
            exact ah_nl (ow_zret (pc := 306) h dL_law_306 rfl)
        · replace h := (if_neg z2).symm.trans h
          by_cases z3 : (v2 &&& (31 : Int32)) = (3 : Int32)
          · replace h := (if_pos z3).symm.trans h
            refine aw_tableIn (pc := 40) (off := 267) 307 dL_law_40 (by rw [z3]; decide) (by rw [z3]; decide) (by rw [z3]; decide) (by decide) ?_
            refine aw_aload_n (pc := 307) 1 dL_law_307 rfl ?_
            refine aw_aload_n (pc := 308) 0 dL_law_308 rfl ?_
            refine aw_iload (pc := 309) 4 dL_law_309 rfl ?_
            refine aw_iconst (pc := 311) (v := (1 : Int32)) dL_law_311 (by decide) ?_
            refine aw_iadd (pc := 312) dL_law_312 ?_
            obtain ⟨v23, e, h⟩ := op_bd h
            refine ow_sx (pc := 313) hN hx e dL_law_313 ?_
            refine aw_aload_n (pc := 314) 0 dL_law_314 rfl ?_
            refine aw_iload (pc := 315) 4 dL_law_315 rfl ?_
            refine aw_iconst (pc := 317) (v := (2 : Int32)) dL_law_317 (by decide) ?_
            refine aw_iadd (pc := 318) dL_law_318 ?_
            obtain ⟨v24, e, h⟩ := op_bd h
            refine ow_sx (pc := 319) hN hx e dL_law_319 ?_
            obtain ⟨r25, e, h⟩ := op_bd h
            refine ow_cViK (pc := 320) [.int v23, .int v24] ((c_X11_named _ _ _ _ _ e).mono (by decide)) (op_ck_sh e) rfl dL_law_320 cw_L_35 rfl (Nat.le_of_ble_eq_true rfl) ?_
            refine aw_aload_n (pc := 323) 2 dL_law_323 rfl ?_
            refine aw_aload_n (pc := 324) 0 dL_law_324 rfl ?_
            refine aw_iload (pc := 325) 4 dL_law_325 rfl ?_
            refine aw_iconst (pc := 327) (v := (1 : Int32)) dL_law_327 (by decide) ?_
            refine aw_iadd (pc := 328) dL_law_328 ?_
            obtain ⟨v26, e, h⟩ := op_bd h
            refine ow_sx (pc := 329) hN hx e dL_law_329 ?_
            refine aw_aload_n (pc := 330) 0 dL_law_330 rfl ?_
            refine aw_iload (pc := 331) 4 dL_law_331 rfl ?_
            refine aw_iconst (pc := 333) (v := (2 : Int32)) dL_law_333 (by decide) ?_
            refine aw_iadd (pc := 334) dL_law_334 ?_
            obtain ⟨v27, e, h⟩ := op_bd h
            refine ow_sx (pc := 335) hN hx e dL_law_335 ?_
            obtain ⟨r28, e, h⟩ := op_bd h
            refine ow_cViK (pc := 336) [.int v26, .int v27] ((c_X12_named _ _ _ _ _ e).mono (by decide)) (op_ck_sh e) rfl dL_law_336 cw_L_38 rfl (Nat.le_of_ble_eq_true rfl) ?_
            refine aw_icmp_eq (pc := 339) 1219 dL_law_339 (by decide) (fun z => ?_) (fun z => ?_)
            · replace h := (if_pos z).symm.trans h
              refine aw_wide (kc := n) (ks := 6 * n) (by omega) (by omega) ?_
              exact c_L_law_1219 N xs hN hx hne K23 hK23 _ _ _ _ _ _ _ h
            · replace h := (if_neg z).symm.trans h
              refine aw_iconst (pc := 342) (v := (0 : Int32)) dL_law_342 (by decide) ?_
              exact ah_nl (ow_zret (pc := 343) h dL_law_343 rfl)
          · replace h := (if_neg z3).symm.trans h
            by_cases z4 : (v2 &&& (31 : Int32)) = (4 : Int32)
            · replace h := (if_pos z4).symm.trans h
              refine aw_tableIn (pc := 40) (off := 304) 344 dL_law_40 (by rw [z4]; decide) (by rw [z4]; decide) (by rw [z4]; decide) (by decide) ?_
              refine aw_aload_n (pc := 344) 1 dL_law_344 rfl ?_
              refine aw_aload_n (pc := 345) 0 dL_law_345 rfl ?_
              refine aw_iload (pc := 346) 4 dL_law_346 rfl ?_
              refine aw_iconst (pc := 348) (v := (1 : Int32)) dL_law_348 (by decide) ?_
              refine aw_iadd (pc := 349) dL_law_349 ?_
              obtain ⟨v29, e, h⟩ := op_bd h
              refine ow_sx (pc := 350) hN hx e dL_law_350 ?_
              refine aw_aload_n (pc := 351) 0 dL_law_351 rfl ?_
              refine aw_iload (pc := 352) 4 dL_law_352 rfl ?_
              refine aw_iconst (pc := 354) (v := (2 : Int32)) dL_law_354 (by decide) ?_
              refine aw_iadd (pc := 355) dL_law_355 ?_
              obtain ⟨v30, e, h⟩ := op_bd h
              refine ow_sx (pc := 356) hN hx e dL_law_356 ?_
              refine aw_aload_n (pc := 357) 3 dL_law_357 rfl ?_
              obtain ⟨r31, e, h⟩ := op_bd h
              refine ow_look (pc := 358) (kc := n) (ks := 6 * n) hne e rfl dL_law_358 (Nat.le_of_ble_eq_true rfl) ?_
              refine aw_istore (pc := 361) [(5, .int r31.1), (0, .ref x0), (1, .ref x1), (2, .ref x2), (3, .ref x3), (4, .int x4)] dL_law_361 (by decide) rfl ?_
              refine aw_aload_n (pc := 363) 3 dL_law_363 rfl ?_
              refine aw_aload_n (pc := 364) 1 dL_law_364 rfl ?_
              refine aw_iload (pc := 365) 5 dL_law_365 rfl ?_
              refine aw_iconst (pc := 367) (v := (1 : Int32)) dL_law_367 (by decide) ?_
              refine aw_iadd (pc := 368) dL_law_368 ?_
              obtain ⟨v32, e, h⟩ := op_bd h
              refine ow_sx (pc := 369) hN hx e dL_law_369 ?_
              refine aw_aload_n (pc := 370) 1 dL_law_370 rfl ?_
              refine aw_iload (pc := 371) 5 dL_law_371 rfl ?_
              refine aw_iconst (pc := 373) (v := (2 : Int32)) dL_law_373 (by decide) ?_
              refine aw_iadd (pc := 374) dL_law_374 ?_
              obtain ⟨v33, e, h⟩ := op_bd h
              refine ow_sx (pc := 375) hN hx e dL_law_375 ?_
              obtain ⟨r34, e, h⟩ := op_bd h
              refine ow_cViK (pc := 376) [.int v32, .int v33] ((c_X12_look _ _ _ _ _ e).mono (by decide)) (op_ck_sh e) rfl dL_law_376 cw_L_44 rfl (Nat.le_of_ble_eq_true rfl) ?_
              refine aw_istore (pc := 379) [(6, .int r34.1), (5, .int r31.1), (0, .ref x0), (1, .ref x1), (2, .ref x2), (3, .ref x3), (4, .int x4)] dL_law_379 (by decide) rfl ?_
              refine aw_aload_n (pc := 381) 4 dL_law_381 rfl ?_
              obtain ⟨r35, e, h⟩ := op_bd h
              refine ow_cViK (pc := 382) [] ((c_X12_thrown _ _ _ e).mono (by decide)) (op_ck_sh e) rfl dL_law_382 cw_L_45 rfl (Nat.le_of_ble_eq_true rfl) ?_
              refine aw_iload (pc := 385) 1 dL_law_385 rfl ?_
              refine aw_icmp_eq (pc := 387) 392 dL_law_387 (by decide) (fun z => ?_) (fun z => ?_)
              · replace h := (if_pos z).symm.trans h
                refine aw_iload (pc := 392) 1 dL_law_392 rfl ?_
                refine aw_if_ne (pc := 394) 409 dL_law_394 (by decide) (fun z => ?_) (fun z => ?_)
                · replace h := (if_neg z).symm.trans h
                  refine aw_sub [2, 3, 4, 5, 6] rfl ?_
                  refine aw_wide (kc := n) (ks := 6 * n) (by omega) (by omega) ?_
                  exact c_L_law_409 N xs hN hx hne K23 hK23 _ _ _ _ _ _ _ h
                · replace h := (if_pos z).symm.trans h
                  refine aw_aload_n (pc := 397) 5 dL_law_397 rfl ?_
                  refine aw_iconst (pc := 398) (v := (0 : Int32)) dL_law_398 (by decide) ?_
                  obtain ⟨v36, e, h⟩ := op_bd h
                  refine ow_aL (pc := 399) e dL_law_399 ?_
                  refine aw_iload (pc := 400) 0 dL_law_400 rfl ?_
                  refine aw_i2l (pc := 402) dL_law_402 ?_
                  refine aw_lcmp (pc := 403) dL_law_403 ?_
                  refine aw_if_eq (pc := 404) 409 dL_law_404 (by decide) (fun z => ?_) (fun z => ?_)
                  · replace h := (if_pos z).symm.trans h
                    refine aw_sub [2, 3, 4, 5, 6] rfl ?_
                    refine aw_wide (kc := n) (ks := 6 * n) (by omega) (by omega) ?_
                    exact c_L_law_409 N xs hN hx hne K23 hK23 _ _ _ _ _ _ _ h
                  · replace h := (if_neg z).symm.trans h
                    refine aw_iconst (pc := 407) (v := (0 : Int32)) dL_law_407 (by decide) ?_
                    exact ah_nl (ow_zret (pc := 408) h dL_law_408 rfl)
              · replace h := (if_neg z).symm.trans h
                refine aw_iconst (pc := 390) (v := (0 : Int32)) dL_law_390 (by decide) ?_
                exact ah_nl (ow_zret (pc := 391) h dL_law_391 rfl)
            · replace h := (if_neg z4).symm.trans h
              by_cases z5 : (v2 &&& (31 : Int32)) = (5 : Int32)
              · replace h := (if_pos z5).symm.trans h
                refine aw_tableIn (pc := 40) (off := 372) 412 dL_law_40 (by rw [z5]; decide) (by rw [z5]; decide) (by rw [z5]; decide) (by decide) ?_
                refine aw_aload_n (pc := 412) 1 dL_law_412 rfl ?_
                refine aw_aload_n (pc := 413) 0 dL_law_413 rfl ?_
                refine aw_iload (pc := 414) 4 dL_law_414 rfl ?_
                refine aw_iconst (pc := 416) (v := (1 : Int32)) dL_law_416 (by decide) ?_
                refine aw_iadd (pc := 417) dL_law_417 ?_
                obtain ⟨v37, e, h⟩ := op_bd h
                refine ow_sx (pc := 418) hN hx e dL_law_418 ?_
                refine aw_aload_n (pc := 419) 0 dL_law_419 rfl ?_
                refine aw_iload (pc := 420) 4 dL_law_420 rfl ?_
                refine aw_iconst (pc := 422) (v := (2 : Int32)) dL_law_422 (by decide) ?_
                refine aw_iadd (pc := 423) dL_law_423 ?_
                obtain ⟨v38, e, h⟩ := op_bd h
                refine ow_sx (pc := 424) hN hx e dL_law_424 ?_
                obtain ⟨r39, e, h⟩ := op_bd h
                refine ow_cViK (pc := 425) [.int v37, .int v38] ((c_X11_street _ _ _ _ _ e).mono (by decide)) (op_ck_sh e) rfl dL_law_425 cw_L_49 rfl (Nat.le_of_ble_eq_true rfl) ?_
                refine aw_aload_n (pc := 428) 2 dL_law_428 rfl ?_
                refine aw_aload_n (pc := 429) 0 dL_law_429 rfl ?_
                refine aw_iload (pc := 430) 4 dL_law_430 rfl ?_
                refine aw_iconst (pc := 432) (v := (1 : Int32)) dL_law_432 (by decide) ?_
                refine aw_iadd (pc := 433) dL_law_433 ?_
                obtain ⟨v40, e, h⟩ := op_bd h
                refine ow_sx (pc := 434) hN hx e dL_law_434 ?_
                refine aw_aload_n (pc := 435) 0 dL_law_435 rfl ?_
                refine aw_iload (pc := 436) 4 dL_law_436 rfl ?_
                refine aw_iconst (pc := 438) (v := (2 : Int32)) dL_law_438 (by decide) ?_
                refine aw_iadd (pc := 439) dL_law_439 ?_
                obtain ⟨v41, e, h⟩ := op_bd h
                refine ow_sx (pc := 440) hN hx e dL_law_440 ?_
                obtain ⟨r42, e, h⟩ := op_bd h
                refine ow_cViK (pc := 441) [.int v40, .int v41] ((c_X12_street _ _ _ _ _ e).mono (by decide)) (op_ck_sh e) rfl dL_law_441 cw_L_52 rfl (Nat.le_of_ble_eq_true rfl) ?_
                refine aw_icmp_eq (pc := 444) 1219 dL_law_444 (by decide) (fun z => ?_) (fun z => ?_)
                · replace h := (if_pos z).symm.trans h
                  refine aw_wide (kc := n) (ks := 6 * n) (by omega) (by omega) ?_
                  exact c_L_law_1219 N xs hN hx hne K23 hK23 _ _ _ _ _ _ _ h
                · replace h := (if_neg z).symm.trans h
                  refine aw_iconst (pc := 447) (v := (0 : Int32)) dL_law_447 (by decide) ?_
                  exact ah_nl (ow_zret (pc := 448) h dL_law_448 rfl)
              · replace h := (if_neg z5).symm.trans h
                by_cases z6 : (v2 &&& (31 : Int32)) = (6 : Int32)
                · replace h := (if_pos z6).symm.trans h
                  refine aw_tableIn (pc := 40) (off := 409) 449 dL_law_40 (by rw [z6]; decide) (by rw [z6]; decide) (by rw [z6]; decide) (by decide) ?_
                  refine aw_aload_n (pc := 449) 1 dL_law_449 rfl ?_
                  refine aw_aload_n (pc := 450) 0 dL_law_450 rfl ?_
                  refine aw_iload (pc := 451) 4 dL_law_451 rfl ?_
                  refine aw_iconst (pc := 453) (v := (1 : Int32)) dL_law_453 (by decide) ?_
                  refine aw_iadd (pc := 454) dL_law_454 ?_
                  obtain ⟨v43, e, h⟩ := op_bd h
                  refine ow_sx (pc := 455) hN hx e dL_law_455 ?_
                  refine aw_aload_n (pc := 456) 0 dL_law_456 rfl ?_
                  refine aw_iload (pc := 457) 4 dL_law_457 rfl ?_
                  refine aw_iconst (pc := 459) (v := (2 : Int32)) dL_law_459 (by decide) ?_
                  refine aw_iadd (pc := 460) dL_law_460 ?_
                  obtain ⟨v44, e, h⟩ := op_bd h
                  refine ow_sx (pc := 461) hN hx e dL_law_461 ?_
                  obtain ⟨r45, e, h⟩ := op_bd h
                  refine ow_cViK (pc := 462) [.int v43, .int v44] ((c_X11_pipe _ _ _ _ _ e).mono (by decide)) (op_ck_sh e) rfl dL_law_462 cw_L_53 rfl (Nat.le_of_ble_eq_true rfl) ?_
                  refine aw_aload_n (pc := 465) 2 dL_law_465 rfl ?_
                  refine aw_aload_n (pc := 466) 0 dL_law_466 rfl ?_
                  refine aw_iload (pc := 467) 4 dL_law_467 rfl ?_
                  refine aw_iconst (pc := 469) (v := (1 : Int32)) dL_law_469 (by decide) ?_
                  refine aw_iadd (pc := 470) dL_law_470 ?_
                  obtain ⟨v46, e, h⟩ := op_bd h
                  refine ow_sx (pc := 471) hN hx e dL_law_471 ?_
                  refine aw_aload_n (pc := 472) 0 dL_law_472 rfl ?_
                  refine aw_iload (pc := 473) 4 dL_law_473 rfl ?_
                  refine aw_iconst (pc := 475) (v := (2 : Int32)) dL_law_475 (by decide) ?_
                  refine aw_iadd (pc := 476) dL_law_476 ?_
                  obtain ⟨v47, e, h⟩ := op_bd h
                  refine ow_sx (pc := 477) hN hx e dL_law_477 ?_
                  obtain ⟨r48, e, h⟩ := op_bd h
                  refine ow_cViK (pc := 478) [.int v46, .int v47] ((c_X12_pipe _ _ _ _ _ e).mono (by decide)) (op_ck_sh e) rfl dL_law_478 cw_L_56 rfl (Nat.le_of_ble_eq_true rfl) ?_
                  refine aw_icmp_eq (pc := 481) 1219 dL_law_481 (by decide) (fun z => ?_) (fun z => ?_)
                  · replace h := (if_pos z).symm.trans h
                    refine aw_wide (kc := n) (ks := 6 * n) (by omega) (by omega) ?_
                    exact c_L_law_1219 N xs hN hx hne K23 hK23 _ _ _ _ _ _ _ h
                  · replace h := (if_neg z).symm.trans h
                    refine aw_iconst (pc := 484) (v := (0 : Int32)) dL_law_484 (by decide) ?_
                    exact ah_nl (ow_zret (pc := 485) h dL_law_485 rfl)
                · replace h := (if_neg z6).symm.trans h
                  by_cases z7 : (v2 &&& (31 : Int32)) = (7 : Int32)
                  · replace h := (if_pos z7).symm.trans h
                    refine aw_tableIn (pc := 40) (off := 446) 486 dL_law_40 (by rw [z7]; decide) (by rw [z7]; decide) (by rw [z7]; decide) (by decide) ?_
                    refine aw_aload_n (pc := 486) 1 dL_law_486 rfl ?_
                    refine aw_aload_n (pc := 487) 0 dL_law_487 rfl ?_
                    refine aw_iload (pc := 488) 4 dL_law_488 rfl ?_
                    refine aw_iconst (pc := 490) (v := (1 : Int32)) dL_law_490 (by decide) ?_
                    refine aw_iadd (pc := 491) dL_law_491 ?_
                    obtain ⟨v49, e, h⟩ := op_bd h
                    refine ow_sx (pc := 492) hN hx e dL_law_492 ?_
                    refine aw_aload_n (pc := 493) 0 dL_law_493 rfl ?_
                    refine aw_iload (pc := 494) 4 dL_law_494 rfl ?_
                    refine aw_iconst (pc := 496) (v := (2 : Int32)) dL_law_496 (by decide) ?_
                    refine aw_iadd (pc := 497) dL_law_497 ?_
                    obtain ⟨v50, e, h⟩ := op_bd h
                    refine ow_sx (pc := 498) hN hx e dL_law_498 ?_
                    refine aw_aload_n (pc := 499) 0 dL_law_499 rfl ?_
                    refine aw_iload (pc := 500) 4 dL_law_500 rfl ?_
                    refine aw_iconst (pc := 502) (v := (3 : Int32)) dL_law_502 (by decide) ?_
                    refine aw_iadd (pc := 503) dL_law_503 ?_
                    obtain ⟨v51, e, h⟩ := op_bd h
                    refine ow_sx (pc := 504) hN hx e dL_law_504 ?_
                    refine aw_aload_n (pc := 505) 0 dL_law_505 rfl ?_
                    refine aw_iload (pc := 506) 4 dL_law_506 rfl ?_
                    refine aw_iconst (pc := 508) (v := (4 : Int32)) dL_law_508 (by decide) ?_
                    refine aw_iadd (pc := 509) dL_law_509 ?_
                    obtain ⟨v52, e, h⟩ := op_bd h
                    refine ow_sx (pc := 510) hN hx e dL_law_510 ?_
                    refine aw_aload_n (pc := 511) 0 dL_law_511 rfl ?_
                    refine aw_iload (pc := 512) 4 dL_law_512 rfl ?_
                    refine aw_iconst (pc := 514) (v := (5 : Int32)) dL_law_514 (by decide) ?_
                    refine aw_iadd (pc := 515) dL_law_515 ?_
                    obtain ⟨v53, e, h⟩ := op_bd h
                    refine ow_sx (pc := 516) hN hx e dL_law_516 ?_
                    obtain ⟨r54, e, h⟩ := op_bd h
                    refine ow_cViK (pc := 517) [.int v49, .int v50, .int v51, .int v52, .int v53] ((c_X11_lay _ _ _ _ _ _ _ _ e).mono (by decide)) (op_ck_sh e) rfl dL_law_517 cw_L_57 rfl (Nat.le_of_ble_eq_true rfl) ?_
                    refine aw_aload_n (pc := 520) 2 dL_law_520 rfl ?_
                    refine aw_aload_n (pc := 521) 0 dL_law_521 rfl ?_
                    refine aw_iload (pc := 522) 4 dL_law_522 rfl ?_
                    refine aw_iconst (pc := 524) (v := (1 : Int32)) dL_law_524 (by decide) ?_
                    refine aw_iadd (pc := 525) dL_law_525 ?_
                    obtain ⟨v55, e, h⟩ := op_bd h
                    refine ow_sx (pc := 526) hN hx e dL_law_526 ?_
                    refine aw_aload_n (pc := 527) 0 dL_law_527 rfl ?_
                    refine aw_iload (pc := 528) 4 dL_law_528 rfl ?_
                    refine aw_iconst (pc := 530) (v := (2 : Int32)) dL_law_530 (by decide) ?_
                    refine aw_iadd (pc := 531) dL_law_531 ?_
                    obtain ⟨v56, e, h⟩ := op_bd h
                    refine ow_sx (pc := 532) hN hx e dL_law_532 ?_
                    refine aw_aload_n (pc := 533) 0 dL_law_533 rfl ?_
                    refine aw_iload (pc := 534) 4 dL_law_534 rfl ?_
                    refine aw_iconst (pc := 536) (v := (3 : Int32)) dL_law_536 (by decide) ?_
                    refine aw_iadd (pc := 537) dL_law_537 ?_
                    obtain ⟨v57, e, h⟩ := op_bd h
                    refine ow_sx (pc := 538) hN hx e dL_law_538 ?_
                    refine aw_aload_n (pc := 539) 0 dL_law_539 rfl ?_
                    refine aw_iload (pc := 540) 4 dL_law_540 rfl ?_
                    refine aw_iconst (pc := 542) (v := (4 : Int32)) dL_law_542 (by decide) ?_
                    refine aw_iadd (pc := 543) dL_law_543 ?_
                    obtain ⟨v58, e, h⟩ := op_bd h
                    refine ow_sx (pc := 544) hN hx e dL_law_544 ?_
                    refine aw_aload_n (pc := 545) 0 dL_law_545 rfl ?_
                    refine aw_iload (pc := 546) 4 dL_law_546 rfl ?_
                    refine aw_iconst (pc := 548) (v := (5 : Int32)) dL_law_548 (by decide) ?_
                    refine aw_iadd (pc := 549) dL_law_549 ?_
                    obtain ⟨v59, e, h⟩ := op_bd h
                    refine ow_sx (pc := 550) hN hx e dL_law_550 ?_
                    obtain ⟨r60, e, h⟩ := op_bd h
                    refine ow_cViK (pc := 551) [.int v55, .int v56, .int v57, .int v58, .int v59] ((c_X12_lay _ _ _ _ _ _ _ _ e).mono (by decide)) (op_ck_sh e) rfl dL_law_551 cw_L_61 rfl (Nat.le_of_ble_eq_true rfl) ?_
                    refine aw_icmp_eq (pc := 554) 1219 dL_law_554 (by decide) (fun z => ?_) (fun z => ?_)
                    · replace h := (if_pos z).symm.trans h
                      refine aw_wide (kc := n) (ks := 6 * n) (by omega) (by omega) ?_
                      exact c_L_law_1219 N xs hN hx hne K23 hK23 _ _ _ _ _ _ _ h
                    · replace h := (if_neg z).symm.trans h
                      refine aw_iconst (pc := 557) (v := (0 : Int32)) dL_law_557 (by decide) ?_
                      exact ah_nl (ow_zret (pc := 558) h dL_law_558 rfl)
                  · replace h := (if_neg z7).symm.trans h
                    by_cases z8 : (v2 &&& (31 : Int32)) = (8 : Int32)
                    · replace h := (if_pos z8).symm.trans h
                      refine aw_tableIn (pc := 40) (off := 519) 559 dL_law_40 (by rw [z8]; decide) (by rw [z8]; decide) (by rw [z8]; decide) (by decide) ?_
                      refine aw_aload_n (pc := 559) 1 dL_law_559 rfl ?_
                      refine aw_aload_n (pc := 560) 0 dL_law_560 rfl ?_
                      refine aw_iload (pc := 561) 4 dL_law_561 rfl ?_
                      refine aw_iconst (pc := 563) (v := (1 : Int32)) dL_law_563 (by decide) ?_
                      refine aw_iadd (pc := 564) dL_law_564 ?_
                      obtain ⟨v61, e, h⟩ := op_bd h
                      refine ow_sx (pc := 565) hN hx e dL_law_565 ?_
                      obtain ⟨r62, e, h⟩ := op_bd h
                      refine ow_cViK (pc := 566) [.int v61] ((c_X11_take _ _ _ _ e).mono (by decide)) (op_ck_sh e) rfl dL_law_566 cw_L_62 rfl (Nat.le_of_ble_eq_true rfl) ?_
                      refine aw_aload_n (pc := 569) 2 dL_law_569 rfl ?_
                      refine aw_aload_n (pc := 570) 0 dL_law_570 rfl ?_
                      refine aw_iload (pc := 571) 4 dL_law_571 rfl ?_
                      refine aw_iconst (pc := 573) (v := (1 : Int32)) dL_law_573 (by decide) ?_
                      refine aw_iadd (pc := 574) dL_law_574 ?_
                      obtain ⟨v63, e, h⟩ := op_bd h
                      refine ow_sx (pc := 575) hN hx e dL_law_575 ?_
                      obtain ⟨r64, e, h⟩ := op_bd h
                      refine ow_cViK (pc := 576) [.int v63] ((c_X12_take _ _ _ _ e).mono (by decide)) (op_ck_sh e) rfl dL_law_576 cw_L_66 rfl (Nat.le_of_ble_eq_true rfl) ?_
                      refine aw_icmp_eq (pc := 579) 1219 dL_law_579 (by decide) (fun z => ?_) (fun z => ?_)
                      · replace h := (if_pos z).symm.trans h
                        refine aw_wide (kc := n) (ks := 6 * n) (by omega) (by omega) ?_
                        exact c_L_law_1219 N xs hN hx hne K23 hK23 _ _ _ _ _ _ _ h
                      · replace h := (if_neg z).symm.trans h
                        refine aw_iconst (pc := 582) (v := (0 : Int32)) dL_law_582 (by decide) ?_
                        exact ah_nl (ow_zret (pc := 583) h dL_law_583 rfl)
                    · replace h := (if_neg z8).symm.trans h
                      by_cases z9 : (v2 &&& (31 : Int32)) = (9 : Int32)
                      · replace h := (if_pos z9).symm.trans h
                        refine aw_tableIn (pc := 40) (off := 544) 584 dL_law_40 (by rw [z9]; decide) (by rw [z9]; decide) (by rw [z9]; decide) (by decide) ?_
                        refine aw_aload_n (pc := 584) 1 dL_law_584 rfl ?_
                        refine aw_aload_n (pc := 585) 0 dL_law_585 rfl ?_
                        refine aw_iload (pc := 586) 4 dL_law_586 rfl ?_
                        refine aw_iconst (pc := 588) (v := (1 : Int32)) dL_law_588 (by decide) ?_
                        refine aw_iadd (pc := 589) dL_law_589 ?_
                        obtain ⟨v65, e, h⟩ := op_bd h
                        refine ow_sx (pc := 590) hN hx e dL_law_590 ?_
                        refine aw_aload_n (pc := 591) 0 dL_law_591 rfl ?_
                        refine aw_iload (pc := 592) 4 dL_law_592 rfl ?_
                        refine aw_iconst (pc := 594) (v := (2 : Int32)) dL_law_594 (by decide) ?_
                        refine aw_iadd (pc := 595) dL_law_595 ?_
                        obtain ⟨v66, e, h⟩ := op_bd h
                        refine ow_sx (pc := 596) hN hx e dL_law_596 ?_
                        obtain ⟨r67, e, h⟩ := op_bd h
                        refine ow_cViK (pc := 597) [.int v65, .int v66] ((c_X11_net _ _ _ _ _ e).mono (by decide)) (op_ck_sh e) rfl dL_law_597 cw_L_67 rfl (Nat.le_of_ble_eq_true rfl) ?_
                        refine aw_aload_n (pc := 600) 2 dL_law_600 rfl ?_
                        refine aw_aload_n (pc := 601) 0 dL_law_601 rfl ?_
                        refine aw_iload (pc := 602) 4 dL_law_602 rfl ?_
                        refine aw_iconst (pc := 604) (v := (1 : Int32)) dL_law_604 (by decide) ?_
                        refine aw_iadd (pc := 605) dL_law_605 ?_
                        obtain ⟨v68, e, h⟩ := op_bd h
                        refine ow_sx (pc := 606) hN hx e dL_law_606 ?_
                        refine aw_aload_n (pc := 607) 0 dL_law_607 rfl ?_
                        refine aw_iload (pc := 608) 4 dL_law_608 rfl ?_
                        refine aw_iconst (pc := 610) (v := (2 : Int32)) dL_law_610 (by decide) ?_
                        refine aw_iadd (pc := 611) dL_law_611 ?_
                        obtain ⟨v69, e, h⟩ := op_bd h
                        refine ow_sx (pc := 612) hN hx e dL_law_612 ?_
                        obtain ⟨r70, e, h⟩ := op_bd h
                        refine ow_cViK (pc := 613) [.int v68, .int v69] ((c_X12_net _ _ _ _ _ e).mono (by decide)) (op_ck_sh e) rfl dL_law_613 cw_L_70 rfl (Nat.le_of_ble_eq_true rfl) ?_
                        refine aw_icmp_eq (pc := 616) 1219 dL_law_616 (by decide) (fun z => ?_) (fun z => ?_)
                        · replace h := (if_pos z).symm.trans h
                          refine aw_wide (kc := n) (ks := 6 * n) (by omega) (by omega) ?_
                          exact c_L_law_1219 N xs hN hx hne K23 hK23 _ _ _ _ _ _ _ h
                        · replace h := (if_neg z).symm.trans h
                          refine aw_iconst (pc := 619) (v := (0 : Int32)) dL_law_619 (by decide) ?_
                          exact ah_nl (ow_zret (pc := 620) h dL_law_620 rfl)
                      · replace h := (if_neg z9).symm.trans h
                        by_cases z10 : (v2 &&& (31 : Int32)) = (10 : Int32)
                        · replace h := (if_pos z10).symm.trans h
                          refine aw_tableIn (pc := 40) (off := 581) 621 dL_law_40 (by rw [z10]; decide) (by rw [z10]; decide) (by rw [z10]; decide) (by decide) ?_
                          refine aw_aload_n (pc := 621) 1 dL_law_621 rfl ?_
                          refine aw_aload_n (pc := 622) 0 dL_law_622 rfl ?_
                          refine aw_iload (pc := 623) 4 dL_law_623 rfl ?_
                          refine aw_iconst (pc := 625) (v := (1 : Int32)) dL_law_625 (by decide) ?_
                          refine aw_iadd (pc := 626) dL_law_626 ?_
                          obtain ⟨v71, e, h⟩ := op_bd h
                          refine ow_sx (pc := 627) hN hx e dL_law_627 ?_
                          obtain ⟨r72, e, h⟩ := op_bd h
                          refine ow_cVlK (pc := 628) [.int v71] ((c_X11_carries _ _ _ _ e).mono (by decide)) (op_ck_sh e) rfl dL_law_628 cw_L_71 rfl (Nat.le_of_ble_eq_true rfl) ?_
                          refine aw_aload_n (pc := 631) 2 dL_law_631 rfl ?_
                          refine aw_aload_n (pc := 632) 0 dL_law_632 rfl ?_
                          refine aw_iload (pc := 633) 4 dL_law_633 rfl ?_
                          refine aw_iconst (pc := 635) (v := (1 : Int32)) dL_law_635 (by decide) ?_
                          refine aw_iadd (pc := 636) dL_law_636 ?_
                          obtain ⟨v73, e, h⟩ := op_bd h
                          refine ow_sx (pc := 637) hN hx e dL_law_637 ?_
                          obtain ⟨r74, e, h⟩ := op_bd h
                          refine ow_cVlK (pc := 638) [.int v73] ((c_X12_carries _ _ _ _ e).mono (by decide)) (op_ck_sh e) rfl dL_law_638 cw_L_75 rfl (Nat.le_of_ble_eq_true rfl) ?_
                          refine aw_lcmp (pc := 641) dL_law_641 ?_
                          refine aw_if_eq (pc := 642) 1219 dL_law_642 (by decide) (fun z => ?_) (fun z => ?_)
                          · replace h := (if_pos z).symm.trans h
                            refine aw_wide (kc := n) (ks := 6 * n) (by omega) (by omega) ?_
                            exact c_L_law_1219 N xs hN hx hne K23 hK23 _ _ _ _ _ _ _ h
                          · replace h := (if_neg z).symm.trans h
                            refine aw_iconst (pc := 645) (v := (0 : Int32)) dL_law_645 (by decide) ?_
                            exact ah_nl (ow_zret (pc := 646) h dL_law_646 rfl)
                        · replace h := (if_neg z10).symm.trans h
                          by_cases z11 : (v2 &&& (31 : Int32)) = (11 : Int32)
                          · replace h := (if_pos z11).symm.trans h
                            refine aw_tableIn (pc := 40) (off := 607) 647 dL_law_40 (by rw [z11]; decide) (by rw [z11]; decide) (by rw [z11]; decide) (by decide) ?_
                            refine aw_aload_n (pc := 647) 1 dL_law_647 rfl ?_
                            refine aw_aload_n (pc := 648) 0 dL_law_648 rfl ?_
                            refine aw_iload (pc := 649) 4 dL_law_649 rfl ?_
                            refine aw_iconst (pc := 651) (v := (1 : Int32)) dL_law_651 (by decide) ?_
                            refine aw_iadd (pc := 652) dL_law_652 ?_
                            obtain ⟨v75, e, h⟩ := op_bd h
                            refine ow_sx (pc := 653) hN hx e dL_law_653 ?_
                            refine aw_aload_n (pc := 654) 0 dL_law_654 rfl ?_
                            refine aw_iload (pc := 655) 4 dL_law_655 rfl ?_
                            refine aw_iconst (pc := 657) (v := (2 : Int32)) dL_law_657 (by decide) ?_
                            refine aw_iadd (pc := 658) dL_law_658 ?_
                            obtain ⟨v76, e, h⟩ := op_bd h
                            refine ow_sx (pc := 659) hN hx e dL_law_659 ?_
                            obtain ⟨r77, e, h⟩ := op_bd h
                            refine ow_cVlK (pc := 660) [.int v75, .int v76] ((c_X11_cost _ _ _ _ _ e).mono (by decide)) (op_ck_sh e) rfl dL_law_660 cw_L_76 rfl (Nat.le_of_ble_eq_true rfl) ?_
                            refine aw_aload_n (pc := 663) 2 dL_law_663 rfl ?_
                            refine aw_aload_n (pc := 664) 0 dL_law_664 rfl ?_
                            refine aw_iload (pc := 665) 4 dL_law_665 rfl ?_
                            refine aw_iconst (pc := 667) (v := (1 : Int32)) dL_law_667 (by decide) ?_
                            refine aw_iadd (pc := 668) dL_law_668 ?_
                            obtain ⟨v78, e, h⟩ := op_bd h
                            refine ow_sx (pc := 669) hN hx e dL_law_669 ?_
                            refine aw_aload_n (pc := 670) 0 dL_law_670 rfl ?_
                            refine aw_iload (pc := 671) 4 dL_law_671 rfl ?_
                            refine aw_iconst (pc := 673) (v := (2 : Int32)) dL_law_673 (by decide) ?_
                            refine aw_iadd (pc := 674) dL_law_674 ?_
                            obtain ⟨v79, e, h⟩ := op_bd h
                            refine ow_sx (pc := 675) hN hx e dL_law_675 ?_
                            obtain ⟨r80, e, h⟩ := op_bd h
                            refine ow_cVlK (pc := 676) [.int v78, .int v79] ((c_X12_cost _ _ _ _ _ e).mono (by decide)) (op_ck_sh e) rfl dL_law_676 cw_L_80 rfl (Nat.le_of_ble_eq_true rfl) ?_
                            refine aw_lcmp (pc := 679) dL_law_679 ?_
                            refine aw_if_eq (pc := 680) 1219 dL_law_680 (by decide) (fun z => ?_) (fun z => ?_)
                            · replace h := (if_pos z).symm.trans h
                              refine aw_wide (kc := n) (ks := 6 * n) (by omega) (by omega) ?_
                              exact c_L_law_1219 N xs hN hx hne K23 hK23 _ _ _ _ _ _ _ h
                            · replace h := (if_neg z).symm.trans h
                              refine aw_iconst (pc := 683) (v := (0 : Int32)) dL_law_683 (by decide) ?_
                              exact ah_nl (ow_zret (pc := 684) h dL_law_684 rfl)
                          · replace h := (if_neg z11).symm.trans h
                            by_cases z12 : (v2 &&& (31 : Int32)) = (12 : Int32)
                            · replace h := (if_pos z12).symm.trans h
                              refine aw_tableIn (pc := 40) (off := 645) 685 dL_law_40 (by rw [z12]; decide) (by rw [z12]; decide) (by rw [z12]; decide) (by decide) ?_
                              refine aw_aload_n (pc := 685) 1 dL_law_685 rfl ?_
                              obtain ⟨r81, e, h⟩ := op_bd h
                              refine ow_cVlK (pc := 686) [] ((c_X11_all _ _ _ e).mono (by decide)) (op_ck_sh e) rfl dL_law_686 cw_L_81 rfl (Nat.le_of_ble_eq_true rfl) ?_
                              refine aw_aload_n (pc := 689) 2 dL_law_689 rfl ?_
                              obtain ⟨r82, e, h⟩ := op_bd h
                              refine ow_cVlK (pc := 690) [] ((c_X12_all _ _ _ e).mono (by decide)) (op_ck_sh e) rfl dL_law_690 cw_L_85 rfl (Nat.le_of_ble_eq_true rfl) ?_
                              refine aw_lcmp (pc := 693) dL_law_693 ?_
                              refine aw_if_eq (pc := 694) 1219 dL_law_694 (by decide) (fun z => ?_) (fun z => ?_)
                              · replace h := (if_pos z).symm.trans h
                                refine aw_wide (kc := n) (ks := 6 * n) (by omega) (by omega) ?_
                                exact c_L_law_1219 N xs hN hx hne K23 hK23 _ _ _ _ _ _ _ h
                              · replace h := (if_neg z).symm.trans h
                                refine aw_iconst (pc := 697) (v := (0 : Int32)) dL_law_697 (by decide) ?_
                                exact ah_nl (ow_zret (pc := 698) h dL_law_698 rfl)
                            · replace h := (if_neg z12).symm.trans h
                              by_cases z13 : (v2 &&& (31 : Int32)) = (13 : Int32)
                              · replace h := (if_pos z13).symm.trans h
                                refine aw_tableIn (pc := 40) (off := 659) 699 dL_law_40 (by rw [z13]; decide) (by rw [z13]; decide) (by rw [z13]; decide) (by decide) ?_
                                refine aw_aload_n (pc := 699) 1 dL_law_699 rfl ?_
                                refine aw_aload_n (pc := 700) 0 dL_law_700 rfl ?_
                                refine aw_iload (pc := 701) 4 dL_law_701 rfl ?_
                                refine aw_iconst (pc := 703) (v := (1 : Int32)) dL_law_703 (by decide) ?_
                                refine aw_iadd (pc := 704) dL_law_704 ?_
                                obtain ⟨v83, e, h⟩ := op_bd h
                                refine ow_sx (pc := 705) hN hx e dL_law_705 ?_
                                obtain ⟨r84, e, h⟩ := op_bd h
                                refine ow_cViK (pc := 706) [.int v83] ((c_X11_broken _ _ _ _ e).mono (by decide)) (op_ck_sh e) rfl dL_law_706 cw_L_86 rfl (Nat.le_of_ble_eq_true rfl) ?_
                                refine aw_aload_n (pc := 709) 2 dL_law_709 rfl ?_
                                refine aw_aload_n (pc := 710) 0 dL_law_710 rfl ?_
                                refine aw_iload (pc := 711) 4 dL_law_711 rfl ?_
                                refine aw_iconst (pc := 713) (v := (1 : Int32)) dL_law_713 (by decide) ?_
                                refine aw_iadd (pc := 714) dL_law_714 ?_
                                obtain ⟨v85, e, h⟩ := op_bd h
                                refine ow_sx (pc := 715) hN hx e dL_law_715 ?_
                                obtain ⟨r86, e, h⟩ := op_bd h
                                refine ow_cViK (pc := 716) [.int v85] ((c_X12_broken _ _ _ _ e).mono (by decide)) (op_ck_sh e) rfl dL_law_716 cw_L_89 rfl (Nat.le_of_ble_eq_true rfl) ?_
                                refine aw_icmp_eq (pc := 719) 1219 dL_law_719 (by decide) (fun z => ?_) (fun z => ?_)
                                · replace h := (if_pos z).symm.trans h
                                  refine aw_wide (kc := n) (ks := 6 * n) (by omega) (by omega) ?_
                                  exact c_L_law_1219 N xs hN hx hne K23 hK23 _ _ _ _ _ _ _ h
                                · replace h := (if_neg z).symm.trans h
                                  refine aw_iconst (pc := 722) (v := (0 : Int32)) dL_law_722 (by decide) ?_
                                  exact ah_nl (ow_zret (pc := 723) h dL_law_723 rfl)
                              · replace h := (if_neg z13).symm.trans h
                                by_cases z14 : (v2 &&& (31 : Int32)) = (14 : Int32)
                                · replace h := (if_pos z14).symm.trans h
                                  refine aw_tableIn (pc := 40) (off := 684) 724 dL_law_40 (by rw [z14]; decide) (by rw [z14]; decide) (by rw [z14]; decide) (by decide) ?_
                                  refine aw_aload_n (pc := 724) 1 dL_law_724 rfl ?_
                                  refine aw_aload_n (pc := 725) 0 dL_law_725 rfl ?_
                                  refine aw_iload (pc := 726) 4 dL_law_726 rfl ?_
                                  refine aw_iconst (pc := 728) (v := (1 : Int32)) dL_law_728 (by decide) ?_
                                  refine aw_iadd (pc := 729) dL_law_729 ?_
                                  obtain ⟨v87, e, h⟩ := op_bd h
                                  refine ow_sx (pc := 730) hN hx e dL_law_730 ?_
                                  obtain ⟨r88, e, h⟩ := op_bd h
                                  refine ow_cViK (pc := 731) [.int v87] ((c_X11_judged _ _ _ _ e).mono (by decide)) (op_ck_sh e) rfl dL_law_731 cw_L_90 rfl (Nat.le_of_ble_eq_true rfl) ?_
                                  refine aw_aload_n (pc := 734) 2 dL_law_734 rfl ?_
                                  refine aw_aload_n (pc := 735) 0 dL_law_735 rfl ?_
                                  refine aw_iload (pc := 736) 4 dL_law_736 rfl ?_
                                  refine aw_iconst (pc := 738) (v := (1 : Int32)) dL_law_738 (by decide) ?_
                                  refine aw_iadd (pc := 739) dL_law_739 ?_
                                  obtain ⟨v89, e, h⟩ := op_bd h
                                  refine ow_sx (pc := 740) hN hx e dL_law_740 ?_
                                  obtain ⟨r90, e, h⟩ := op_bd h
                                  refine ow_cViK (pc := 741) [.int v89] ((c_X12_judged _ _ _ _ e).mono (by decide)) (op_ck_sh e) rfl dL_law_741 cw_L_93 rfl (Nat.le_of_ble_eq_true rfl) ?_
                                  refine aw_icmp_eq (pc := 744) 1219 dL_law_744 (by decide) (fun z => ?_) (fun z => ?_)
                                  · replace h := (if_pos z).symm.trans h
                                    refine aw_wide (kc := n) (ks := 6 * n) (by omega) (by omega) ?_
                                    exact c_L_law_1219 N xs hN hx hne K23 hK23 _ _ _ _ _ _ _ h
                                  · replace h := (if_neg z).symm.trans h
                                    refine aw_iconst (pc := 747) (v := (0 : Int32)) dL_law_747 (by decide) ?_
                                    exact ah_nl (ow_zret (pc := 748) h dL_law_748 rfl)
                                · replace h := (if_neg z14).symm.trans h
                                  by_cases z15 : (v2 &&& (31 : Int32)) = (15 : Int32)
                                  · replace h := (if_pos z15).symm.trans h
                                    refine aw_tableIn (pc := 40) (off := 709) 749 dL_law_40 (by rw [z15]; decide) (by rw [z15]; decide) (by rw [z15]; decide) (by decide) ?_
                                    refine aw_aload_n (pc := 749) 1 dL_law_749 rfl ?_
                                    refine aw_aload_n (pc := 750) 0 dL_law_750 rfl ?_
                                    refine aw_iload (pc := 751) 4 dL_law_751 rfl ?_
                                    refine aw_iconst (pc := 753) (v := (1 : Int32)) dL_law_753 (by decide) ?_
                                    refine aw_iadd (pc := 754) dL_law_754 ?_
                                    obtain ⟨v91, e, h⟩ := op_bd h
                                    refine ow_sx (pc := 755) hN hx e dL_law_755 ?_
                                    refine aw_aload_n (pc := 756) 0 dL_law_756 rfl ?_
                                    refine aw_iload (pc := 757) 4 dL_law_757 rfl ?_
                                    refine aw_iconst (pc := 759) (v := (2 : Int32)) dL_law_759 (by decide) ?_
                                    refine aw_iadd (pc := 760) dL_law_760 ?_
                                    obtain ⟨v92, e, h⟩ := op_bd h
                                    refine ow_sx (pc := 761) hN hx e dL_law_761 ?_
                                    refine aw_aload_n (pc := 762) 0 dL_law_762 rfl ?_
                                    refine aw_iload (pc := 763) 4 dL_law_763 rfl ?_
                                    refine aw_iconst (pc := 765) (v := (3 : Int32)) dL_law_765 (by decide) ?_
                                    refine aw_iadd (pc := 766) dL_law_766 ?_
                                    obtain ⟨v93, e, h⟩ := op_bd h
                                    refine ow_sx (pc := 767) hN hx e dL_law_767 ?_
                                    obtain ⟨r94, e, h⟩ := op_bd h
                                    refine ow_cVlK (pc := 768) [.int v91, .int v92, .int v93] ((c_X11_flow _ _ _ _ _ _ e).mono (by decide)) (op_ck_sh e) rfl dL_law_768 cw_L_94 rfl (Nat.le_of_ble_eq_true rfl) ?_
                                    refine aw_aload_n (pc := 771) 2 dL_law_771 rfl ?_
                                    refine aw_aload_n (pc := 772) 0 dL_law_772 rfl ?_
                                    refine aw_iload (pc := 773) 4 dL_law_773 rfl ?_
                                    refine aw_iconst (pc := 775) (v := (1 : Int32)) dL_law_775 (by decide) ?_
                                    refine aw_iadd (pc := 776) dL_law_776 ?_
                                    obtain ⟨v95, e, h⟩ := op_bd h
                                    refine ow_sx (pc := 777) hN hx e dL_law_777 ?_
                                    refine aw_aload_n (pc := 778) 0 dL_law_778 rfl ?_
                                    refine aw_iload (pc := 779) 4 dL_law_779 rfl ?_
                                    refine aw_iconst (pc := 781) (v := (2 : Int32)) dL_law_781 (by decide) ?_
                                    refine aw_iadd (pc := 782) dL_law_782 ?_
                                    obtain ⟨v96, e, h⟩ := op_bd h
                                    refine ow_sx (pc := 783) hN hx e dL_law_783 ?_
                                    refine aw_aload_n (pc := 784) 0 dL_law_784 rfl ?_
                                    refine aw_iload (pc := 785) 4 dL_law_785 rfl ?_
                                    refine aw_iconst (pc := 787) (v := (3 : Int32)) dL_law_787 (by decide) ?_
                                    refine aw_iadd (pc := 788) dL_law_788 ?_
                                    obtain ⟨v97, e, h⟩ := op_bd h
                                    refine ow_sx (pc := 789) hN hx e dL_law_789 ?_
                                    obtain ⟨r98, e, h⟩ := op_bd h
                                    refine ow_cVlK (pc := 790) [.int v95, .int v96, .int v97] ((c_X12_flow _ _ _ _ _ _ e).mono (by decide)) (op_ck_sh e) rfl dL_law_790 cw_L_98 rfl (Nat.le_of_ble_eq_true rfl) ?_
                                    refine aw_lcmp (pc := 793) dL_law_793 ?_
                                    refine aw_if_eq (pc := 794) 1219 dL_law_794 (by decide) (fun z => ?_) (fun z => ?_)
                                    · replace h := (if_pos z).symm.trans h
                                      refine aw_wide (kc := n) (ks := 6 * n) (by omega) (by omega) ?_
                                      exact c_L_law_1219 N xs hN hx hne K23 hK23 _ _ _ _ _ _ _ h
                                    · replace h := (if_neg z).symm.trans h
                                      refine aw_iconst (pc := 797) (v := (0 : Int32)) dL_law_797 (by decide) ?_
                                      exact ah_nl (ow_zret (pc := 798) h dL_law_798 rfl)
                                  · replace h := (if_neg z15).symm.trans h
                                    by_cases z16 : (v2 &&& (31 : Int32)) = (16 : Int32)
                                    · replace h := (if_pos z16).symm.trans h
                                      refine aw_tableIn (pc := 40) (off := 759) 799 dL_law_40 (by rw [z16]; decide) (by rw [z16]; decide) (by rw [z16]; decide) (by decide) ?_
                                      refine aw_aload_n (pc := 799) 1 dL_law_799 rfl ?_
                                      refine aw_aload_n (pc := 800) 0 dL_law_800 rfl ?_
                                      refine aw_iload (pc := 801) 4 dL_law_801 rfl ?_
                                      refine aw_iconst (pc := 803) (v := (1 : Int32)) dL_law_803 (by decide) ?_
                                      refine aw_iadd (pc := 804) dL_law_804 ?_
                                      obtain ⟨v99, e, h⟩ := op_bd h
                                      refine ow_sx (pc := 805) hN hx e dL_law_805 ?_
                                      refine aw_aload_n (pc := 806) 0 dL_law_806 rfl ?_
                                      refine aw_iload (pc := 807) 4 dL_law_807 rfl ?_
                                      refine aw_iconst (pc := 809) (v := (2 : Int32)) dL_law_809 (by decide) ?_
                                      refine aw_iadd (pc := 810) dL_law_810 ?_
                                      obtain ⟨v100, e, h⟩ := op_bd h
                                      refine ow_sx (pc := 811) hN hx e dL_law_811 ?_
                                      refine aw_aload_n (pc := 812) 0 dL_law_812 rfl ?_
                                      refine aw_iload (pc := 813) 4 dL_law_813 rfl ?_
                                      refine aw_iconst (pc := 815) (v := (3 : Int32)) dL_law_815 (by decide) ?_
                                      refine aw_iadd (pc := 816) dL_law_816 ?_
                                      obtain ⟨v101, e, h⟩ := op_bd h
                                      refine ow_sx (pc := 817) hN hx e dL_law_817 ?_
                                      obtain ⟨r102, e, h⟩ := op_bd h
                                      refine ow_cVlK (pc := 818) [.int v99, .int v100, .int v101] ((c_X11_flooded _ _ _ _ _ _ e).mono (by decide)) (op_ck_sh e) rfl dL_law_818 cw_L_99 rfl (Nat.le_of_ble_eq_true rfl) ?_
                                      refine aw_aload_n (pc := 821) 2 dL_law_821 rfl ?_
                                      refine aw_aload_n (pc := 822) 0 dL_law_822 rfl ?_
                                      refine aw_iload (pc := 823) 4 dL_law_823 rfl ?_
                                      refine aw_iconst (pc := 825) (v := (1 : Int32)) dL_law_825 (by decide) ?_
                                      refine aw_iadd (pc := 826) dL_law_826 ?_
                                      obtain ⟨v103, e, h⟩ := op_bd h
                                      refine ow_sx (pc := 827) hN hx e dL_law_827 ?_
                                      refine aw_aload_n (pc := 828) 0 dL_law_828 rfl ?_
                                      refine aw_iload (pc := 829) 4 dL_law_829 rfl ?_
                                      refine aw_iconst (pc := 831) (v := (2 : Int32)) dL_law_831 (by decide) ?_
                                      refine aw_iadd (pc := 832) dL_law_832 ?_
                                      obtain ⟨v104, e, h⟩ := op_bd h
                                      refine ow_sx (pc := 833) hN hx e dL_law_833 ?_
                                      refine aw_aload_n (pc := 834) 0 dL_law_834 rfl ?_
                                      refine aw_iload (pc := 835) 4 dL_law_835 rfl ?_
                                      refine aw_iconst (pc := 837) (v := (3 : Int32)) dL_law_837 (by decide) ?_
                                      refine aw_iadd (pc := 838) dL_law_838 ?_
                                      obtain ⟨v105, e, h⟩ := op_bd h
                                      refine ow_sx (pc := 839) hN hx e dL_law_839 ?_
                                      obtain ⟨r106, e, h⟩ := op_bd h
                                      refine ow_cVlK (pc := 840) [.int v103, .int v104, .int v105] ((c_X12_flooded _ _ _ _ _ _ e).mono (by decide)) (op_ck_sh e) rfl dL_law_840 cw_L_102 rfl (Nat.le_of_ble_eq_true rfl) ?_
                                      refine aw_lcmp (pc := 843) dL_law_843 ?_
                                      refine aw_if_eq (pc := 844) 1219 dL_law_844 (by decide) (fun z => ?_) (fun z => ?_)
                                      · replace h := (if_pos z).symm.trans h
                                        refine aw_wide (kc := n) (ks := 6 * n) (by omega) (by omega) ?_
                                        exact c_L_law_1219 N xs hN hx hne K23 hK23 _ _ _ _ _ _ _ h
                                      · replace h := (if_neg z).symm.trans h
                                        refine aw_iconst (pc := 847) (v := (0 : Int32)) dL_law_847 (by decide) ?_
                                        exact ah_nl (ow_zret (pc := 848) h dL_law_848 rfl)
                                    · replace h := (if_neg z16).symm.trans h
                                      by_cases z17 : (v2 &&& (31 : Int32)) = (17 : Int32)
                                      · replace h := (if_pos z17).symm.trans h
                                        refine aw_tableIn (pc := 40) (off := 809) 849 dL_law_40 (by rw [z17]; decide) (by rw [z17]; decide) (by rw [z17]; decide) (by decide) ?_
                                        refine aw_aload_n (pc := 849) 1 dL_law_849 rfl ?_
                                        refine aw_aload_n (pc := 850) 0 dL_law_850 rfl ?_
                                        refine aw_iload (pc := 851) 4 dL_law_851 rfl ?_
                                        refine aw_iconst (pc := 853) (v := (1 : Int32)) dL_law_853 (by decide) ?_
                                        refine aw_iadd (pc := 854) dL_law_854 ?_
                                        obtain ⟨v107, e, h⟩ := op_bd h
                                        refine ow_sx (pc := 855) hN hx e dL_law_855 ?_
                                        obtain ⟨r108, e, h⟩ := op_bd h
                                        refine ow_cVlK (pc := 856) [.int v107] ((c_X11_floods _ _ _ _ e).mono (by decide)) (op_ck_sh e) rfl dL_law_856 cw_L_103 rfl (Nat.le_of_ble_eq_true rfl) ?_
                                        refine aw_aload_n (pc := 859) 2 dL_law_859 rfl ?_
                                        refine aw_aload_n (pc := 860) 0 dL_law_860 rfl ?_
                                        refine aw_iload (pc := 861) 4 dL_law_861 rfl ?_
                                        refine aw_iconst (pc := 863) (v := (1 : Int32)) dL_law_863 (by decide) ?_
                                        refine aw_iadd (pc := 864) dL_law_864 ?_
                                        obtain ⟨v109, e, h⟩ := op_bd h
                                        refine ow_sx (pc := 865) hN hx e dL_law_865 ?_
                                        obtain ⟨r110, e, h⟩ := op_bd h
                                        refine ow_cVlK (pc := 866) [.int v109] ((c_X12_floods _ _ _ _ e).mono (by decide)) (op_ck_sh e) rfl dL_law_866 cw_L_106 rfl (Nat.le_of_ble_eq_true rfl) ?_
                                        refine aw_lcmp (pc := 869) dL_law_869 ?_
                                        refine aw_if_eq (pc := 870) 1219 dL_law_870 (by decide) (fun z => ?_) (fun z => ?_)
                                        · replace h := (if_pos z).symm.trans h
                                          refine aw_wide (kc := n) (ks := 6 * n) (by omega) (by omega) ?_
                                          exact c_L_law_1219 N xs hN hx hne K23 hK23 _ _ _ _ _ _ _ h
                                        · replace h := (if_neg z).symm.trans h
                                          refine aw_iconst (pc := 873) (v := (0 : Int32)) dL_law_873 (by decide) ?_
                                          exact ah_nl (ow_zret (pc := 874) h dL_law_874 rfl)
                                      · replace h := (if_neg z17).symm.trans h
                                        by_cases z18 : (v2 &&& (31 : Int32)) = (18 : Int32)
                                        · replace h := (if_pos z18).symm.trans h
                                          refine aw_tableIn (pc := 40) (off := 835) 875 dL_law_40 (by rw [z18]; decide) (by rw [z18]; decide) (by rw [z18]; decide) (by decide) ?_
                                          refine aw_aload_n (pc := 875) 1 dL_law_875 rfl ?_
                                          refine aw_aload_n (pc := 876) 0 dL_law_876 rfl ?_
                                          refine aw_iload (pc := 877) 4 dL_law_877 rfl ?_
                                          refine aw_iconst (pc := 879) (v := (1 : Int32)) dL_law_879 (by decide) ?_
                                          refine aw_iadd (pc := 880) dL_law_880 ?_
                                          obtain ⟨v111, e, h⟩ := op_bd h
                                          refine ow_sx (pc := 881) hN hx e dL_law_881 ?_
                                          refine aw_aload_n (pc := 882) 0 dL_law_882 rfl ?_
                                          refine aw_iload (pc := 883) 4 dL_law_883 rfl ?_
                                          refine aw_iconst (pc := 885) (v := (2 : Int32)) dL_law_885 (by decide) ?_
                                          refine aw_iadd (pc := 886) dL_law_886 ?_
                                          obtain ⟨v112, e, h⟩ := op_bd h
                                          refine ow_sx (pc := 887) hN hx e dL_law_887 ?_
                                          obtain ⟨r113, e, h⟩ := op_bd h
                                          refine ow_cVlK (pc := 888) [.int v111, .int v112] ((c_X11_worst _ _ _ _ _ e).mono (by decide)) (op_ck_sh e) rfl dL_law_888 cw_L_107 rfl (Nat.le_of_ble_eq_true rfl) ?_
                                          refine aw_aload_n (pc := 891) 2 dL_law_891 rfl ?_
                                          refine aw_aload_n (pc := 892) 0 dL_law_892 rfl ?_
                                          refine aw_iload (pc := 893) 4 dL_law_893 rfl ?_
                                          refine aw_iconst (pc := 895) (v := (1 : Int32)) dL_law_895 (by decide) ?_
                                          refine aw_iadd (pc := 896) dL_law_896 ?_
                                          obtain ⟨v114, e, h⟩ := op_bd h
                                          refine ow_sx (pc := 897) hN hx e dL_law_897 ?_
                                          refine aw_aload_n (pc := 898) 0 dL_law_898 rfl ?_
                                          refine aw_iload (pc := 899) 4 dL_law_899 rfl ?_
                                          refine aw_iconst (pc := 901) (v := (2 : Int32)) dL_law_901 (by decide) ?_
                                          refine aw_iadd (pc := 902) dL_law_902 ?_
                                          obtain ⟨v115, e, h⟩ := op_bd h
                                          refine ow_sx (pc := 903) hN hx e dL_law_903 ?_
                                          obtain ⟨r116, e, h⟩ := op_bd h
                                          refine ow_cVlK (pc := 904) [.int v114, .int v115] ((c_X12_worst _ _ _ _ _ e).mono (by decide)) (op_ck_sh e) rfl dL_law_904 cw_L_110 rfl (Nat.le_of_ble_eq_true rfl) ?_
                                          refine aw_lcmp (pc := 907) dL_law_907 ?_
                                          refine aw_if_eq (pc := 908) 1219 dL_law_908 (by decide) (fun z => ?_) (fun z => ?_)
                                          · replace h := (if_pos z).symm.trans h
                                            refine aw_wide (kc := n) (ks := 6 * n) (by omega) (by omega) ?_
                                            exact c_L_law_1219 N xs hN hx hne K23 hK23 _ _ _ _ _ _ _ h
                                          · replace h := (if_neg z).symm.trans h
                                            refine aw_iconst (pc := 911) (v := (0 : Int32)) dL_law_911 (by decide) ?_
                                            exact ah_nl (ow_zret (pc := 912) h dL_law_912 rfl)
                                        · replace h := (if_neg z18).symm.trans h
                                          by_cases z19 : (v2 &&& (31 : Int32)) = (19 : Int32)
                                          · replace h := (if_pos z19).symm.trans h
                                            refine aw_tableIn (pc := 40) (off := 873) 913 dL_law_40 (by rw [z19]; decide) (by rw [z19]; decide) (by rw [z19]; decide) (by decide) ?_
                                            refine aw_aload_n (pc := 913) 1 dL_law_913 rfl ?_
                                            refine aw_aload_n (pc := 914) 0 dL_law_914 rfl ?_
                                            refine aw_iload (pc := 915) 4 dL_law_915 rfl ?_
                                            refine aw_iconst (pc := 917) (v := (1 : Int32)) dL_law_917 (by decide) ?_
                                            refine aw_iadd (pc := 918) dL_law_918 ?_
                                            obtain ⟨v117, e, h⟩ := op_bd h
                                            refine ow_sx (pc := 919) hN hx e dL_law_919 ?_
                                            obtain ⟨r118, e, h⟩ := op_bd h
                                            refine ow_cViK (pc := 920) [.int v117] ((c_X11_burst _ _ _ _ e).mono (by decide)) (op_ck_sh e) rfl dL_law_920 cw_L_111 rfl (Nat.le_of_ble_eq_true rfl) ?_
                                            refine aw_aload_n (pc := 923) 2 dL_law_923 rfl ?_
                                            refine aw_aload_n (pc := 924) 0 dL_law_924 rfl ?_
                                            refine aw_iload (pc := 925) 4 dL_law_925 rfl ?_
                                            refine aw_iconst (pc := 927) (v := (1 : Int32)) dL_law_927 (by decide) ?_
                                            refine aw_iadd (pc := 928) dL_law_928 ?_
                                            obtain ⟨v119, e, h⟩ := op_bd h
                                            refine ow_sx (pc := 929) hN hx e dL_law_929 ?_
                                            obtain ⟨r120, e, h⟩ := op_bd h
                                            refine ow_cViK (pc := 930) [.int v119] ((c_X12_burst _ _ _ _ e).mono (by decide)) (op_ck_sh e) rfl dL_law_930 cw_L_114 rfl (Nat.le_of_ble_eq_true rfl) ?_
                                            refine aw_icmp_eq (pc := 933) 1219 dL_law_933 (by decide) (fun z => ?_) (fun z => ?_)
                                            · replace h := (if_pos z).symm.trans h
                                              refine aw_wide (kc := n) (ks := 6 * n) (by omega) (by omega) ?_
                                              exact c_L_law_1219 N xs hN hx hne K23 hK23 _ _ _ _ _ _ _ h
                                            · replace h := (if_neg z).symm.trans h
                                              refine aw_iconst (pc := 936) (v := (0 : Int32)) dL_law_936 (by decide) ?_
                                              exact ah_nl (ow_zret (pc := 937) h dL_law_937 rfl)
                                          · replace h := (if_neg z19).symm.trans h
                                            by_cases z20 : (v2 &&& (31 : Int32)) = (20 : Int32)
                                            · replace h := (if_pos z20).symm.trans h
                                              refine aw_tableIn (pc := 40) (off := 898) 938 dL_law_40 (by rw [z20]; decide) (by rw [z20]; decide) (by rw [z20]; decide) (by decide) ?_
                                              refine aw_aload_n (pc := 938) 1 dL_law_938 rfl ?_
                                              obtain ⟨r121, e, h⟩ := op_bd h
                                              refine ow_cViK (pc := 939) [] ((c_X11_bursts _ _ _ e).mono (by decide)) (op_ck_sh e) rfl dL_law_939 cw_L_115 rfl (Nat.le_of_ble_eq_true rfl) ?_
                                              refine aw_aload_n (pc := 942) 2 dL_law_942 rfl ?_
                                              obtain ⟨r122, e, h⟩ := op_bd h
                                              refine ow_cViK (pc := 943) [] ((c_X12_bursts _ _ _ e).mono (by decide)) (op_ck_sh e) rfl dL_law_943 cw_L_118 rfl (Nat.le_of_ble_eq_true rfl) ?_
                                              refine aw_icmp_eq (pc := 946) 1219 dL_law_946 (by decide) (fun z => ?_) (fun z => ?_)
                                              · replace h := (if_pos z).symm.trans h
                                                refine aw_wide (kc := n) (ks := 6 * n) (by omega) (by omega) ?_
                                                exact c_L_law_1219 N xs hN hx hne K23 hK23 _ _ _ _ _ _ _ h
                                              · replace h := (if_neg z).symm.trans h
                                                refine aw_iconst (pc := 949) (v := (0 : Int32)) dL_law_949 (by decide) ?_
                                                exact ah_nl (ow_zret (pc := 950) h dL_law_950 rfl)
                                            · replace h := (if_neg z20).symm.trans h
                                              by_cases z21 : (v2 &&& (31 : Int32)) = (21 : Int32)
                                              · replace h := (if_pos z21).symm.trans h
                                                refine aw_tableIn (pc := 40) (off := 911) 951 dL_law_40 (by rw [z21]; decide) (by rw [z21]; decide) (by rw [z21]; decide) (by decide) ?_
                                                refine aw_aload_n (pc := 951) 1 dL_law_951 rfl ?_
                                                refine aw_aload_n (pc := 952) 0 dL_law_952 rfl ?_
                                                refine aw_iload (pc := 953) 4 dL_law_953 rfl ?_
                                                refine aw_iconst (pc := 955) (v := (1 : Int32)) dL_law_955 (by decide) ?_
                                                refine aw_iadd (pc := 956) dL_law_956 ?_
                                                obtain ⟨v123, e, h⟩ := op_bd h
                                                refine ow_sx (pc := 957) hN hx e dL_law_957 ?_
                                                obtain ⟨r124, e, h⟩ := op_bd h
                                                refine ow_cVlK (pc := 958) [.int v123] ((c_X11_cheapest _ _ _ _ e).mono (by decide)) (op_ck_sh e) rfl dL_law_958 cw_L_119 rfl (Nat.le_of_ble_eq_true rfl) ?_
                                                refine aw_aload_n (pc := 961) 2 dL_law_961 rfl ?_
                                                refine aw_aload_n (pc := 962) 0 dL_law_962 rfl ?_
                                                refine aw_iload (pc := 963) 4 dL_law_963 rfl ?_
                                                refine aw_iconst (pc := 965) (v := (1 : Int32)) dL_law_965 (by decide) ?_
                                                refine aw_iadd (pc := 966) dL_law_966 ?_
                                                obtain ⟨v125, e, h⟩ := op_bd h
                                                refine ow_sx (pc := 967) hN hx e dL_law_967 ?_
                                                obtain ⟨r126, e, h⟩ := op_bd h
                                                refine ow_cVlK (pc := 968) [.int v125] ((c_X12_cheapest _ _ _ _ e).mono (by decide)) (op_ck_sh e) rfl dL_law_968 cw_L_122 rfl (Nat.le_of_ble_eq_true rfl) ?_
                                                refine aw_lcmp (pc := 971) dL_law_971 ?_
                                                refine aw_if_eq (pc := 972) 1219 dL_law_972 (by decide) (fun z => ?_) (fun z => ?_)
                                                · replace h := (if_pos z).symm.trans h
                                                  refine aw_wide (kc := n) (ks := 6 * n) (by omega) (by omega) ?_
                                                  exact c_L_law_1219 N xs hN hx hne K23 hK23 _ _ _ _ _ _ _ h
                                                · replace h := (if_neg z).symm.trans h
                                                  refine aw_iconst (pc := 975) (v := (0 : Int32)) dL_law_975 (by decide) ?_
                                                  exact ah_nl (ow_zret (pc := 976) h dL_law_976 rfl)
                                              · replace h := (if_neg z21).symm.trans h
                                                by_cases z22 : (v2 &&& (31 : Int32)) = (22 : Int32)
                                                · replace h := (if_pos z22).symm.trans h
                                                  refine aw_tableIn (pc := 40) (off := 937) 977 dL_law_40 (by rw [z22]; decide) (by rw [z22]; decide) (by rw [z22]; decide) (by decide) ?_
                                                  refine aw_aload_n (pc := 977) 1 dL_law_977 rfl ?_
                                                  refine aw_aload_n (pc := 978) 0 dL_law_978 rfl ?_
                                                  refine aw_iload (pc := 979) 4 dL_law_979 rfl ?_
                                                  refine aw_iconst (pc := 981) (v := (1 : Int32)) dL_law_981 (by decide) ?_
                                                  refine aw_iadd (pc := 982) dL_law_982 ?_
                                                  obtain ⟨v127, e, h⟩ := op_bd h
                                                  refine ow_sx (pc := 983) hN hx e dL_law_983 ?_
                                                  obtain ⟨r128, e, h⟩ := op_bd h
                                                  refine ow_cViK (pc := 984) [.int v127] ((c_X11_laid _ _ _ _ e).mono (by decide)) (op_ck_sh e) rfl dL_law_984 cw_L_123 rfl (Nat.le_of_ble_eq_true rfl) ?_
                                                  refine aw_aload_n (pc := 987) 2 dL_law_987 rfl ?_
                                                  refine aw_aload_n (pc := 988) 0 dL_law_988 rfl ?_
                                                  refine aw_iload (pc := 989) 4 dL_law_989 rfl ?_
                                                  refine aw_iconst (pc := 991) (v := (1 : Int32)) dL_law_991 (by decide) ?_
                                                  refine aw_iadd (pc := 992) dL_law_992 ?_
                                                  obtain ⟨v129, e, h⟩ := op_bd h
                                                  refine ow_sx (pc := 993) hN hx e dL_law_993 ?_
                                                  obtain ⟨r130, e, h⟩ := op_bd h
                                                  refine ow_cViK (pc := 994) [.int v129] ((c_X12_laid _ _ _ _ e).mono (by decide)) (op_ck_sh e) rfl dL_law_994 cw_L_126 rfl (Nat.le_of_ble_eq_true rfl) ?_
                                                  refine aw_icmp_eq (pc := 997) 1219 dL_law_997 (by decide) (fun z => ?_) (fun z => ?_)
                                                  · replace h := (if_pos z).symm.trans h
                                                    refine aw_wide (kc := n) (ks := 6 * n) (by omega) (by omega) ?_
                                                    exact c_L_law_1219 N xs hN hx hne K23 hK23 _ _ _ _ _ _ _ h
                                                  · replace h := (if_neg z).symm.trans h
                                                    refine aw_iconst (pc := 1000) (v := (0 : Int32)) dL_law_1000 (by decide) ?_
                                                    exact ah_nl (ow_zret (pc := 1001) h dL_law_1001 rfl)
                                                · replace h := (if_neg z22).symm.trans h
                                                  by_cases z23 : (v2 &&& (31 : Int32)) = (23 : Int32)
                                                  · replace h := (if_pos z23).symm.trans h
                                                    refine aw_tableIn (pc := 40) (off := 962) 1002 dL_law_40 (by rw [z23]; decide) (by rw [z23]; decide) (by rw [z23]; decide) (by decide) ?_
                                                    refine aw_aload_n (pc := 1002) 1 dL_law_1002 rfl ?_
                                                    refine aw_aload_n (pc := 1003) 0 dL_law_1003 rfl ?_
                                                    refine aw_iload (pc := 1004) 4 dL_law_1004 rfl ?_
                                                    refine aw_iconst (pc := 1006) (v := (1 : Int32)) dL_law_1006 (by decide) ?_
                                                    refine aw_iadd (pc := 1007) dL_law_1007 ?_
                                                    obtain ⟨v131, e, h⟩ := op_bd h
                                                    refine ow_sx (pc := 1008) hN hx e dL_law_1008 ?_
                                                    obtain ⟨r132, e, h⟩ := op_bd h
                                                    refine ow_cVlK (pc := 1009) [.int v131] ((c_X11_tree _ _ _ _ e).mono (by decide)) (op_ck_sh e) rfl dL_law_1009 cw_L_127 rfl (Nat.le_of_ble_eq_true rfl) ?_
                                                    refine aw_aload_n (pc := 1012) 2 dL_law_1012 rfl ?_
                                                    refine aw_aload_n (pc := 1013) 0 dL_law_1013 rfl ?_
                                                    refine aw_iload (pc := 1014) 4 dL_law_1014 rfl ?_
                                                    refine aw_iconst (pc := 1016) (v := (1 : Int32)) dL_law_1016 (by decide) ?_
                                                    refine aw_iadd (pc := 1017) dL_law_1017 ?_
                                                    obtain ⟨v133, e, h⟩ := op_bd h
                                                    refine ow_sx (pc := 1018) hN hx e dL_law_1018 ?_
                                                    obtain ⟨r134, e, h⟩ := op_bd h
                                                    refine ow_cVlK (pc := 1019) [.int v133] ((c_X12_tree _ _ _ _ e).mono (by decide)) (op_ck_sh e) rfl dL_law_1019 cw_L_130 rfl (Nat.le_of_ble_eq_true rfl) ?_
                                                    refine aw_lcmp (pc := 1022) dL_law_1022 ?_
                                                    refine aw_if_eq (pc := 1023) 1219 dL_law_1023 (by decide) (fun z => ?_) (fun z => ?_)
                                                    · replace h := (if_pos z).symm.trans h
                                                      refine aw_wide (kc := n) (ks := 6 * n) (by omega) (by omega) ?_
                                                      exact c_L_law_1219 N xs hN hx hne K23 hK23 _ _ _ _ _ _ _ h
                                                    · replace h := (if_neg z).symm.trans h
                                                      refine aw_iconst (pc := 1026) (v := (0 : Int32)) dL_law_1026 (by decide) ?_
                                                      exact ah_nl (ow_zret (pc := 1027) h dL_law_1027 rfl)
                                                  · replace h := (if_neg z23).symm.trans h
                                                    by_cases z24 : (v2 &&& (31 : Int32)) = (24 : Int32)
                                                    · replace h := (if_pos z24).symm.trans h
                                                      refine aw_tableIn (pc := 40) (off := 988) 1028 dL_law_40 (by rw [z24]; decide) (by rw [z24]; decide) (by rw [z24]; decide) (by decide) ?_
                                                      refine aw_aload_n (pc := 1028) 1 dL_law_1028 rfl ?_
                                                      refine aw_aload_n (pc := 1029) 0 dL_law_1029 rfl ?_
                                                      refine aw_iload (pc := 1030) 4 dL_law_1030 rfl ?_
                                                      refine aw_iconst (pc := 1032) (v := (1 : Int32)) dL_law_1032 (by decide) ?_
                                                      refine aw_iadd (pc := 1033) dL_law_1033 ?_
                                                      obtain ⟨v135, e, h⟩ := op_bd h
                                                      refine ow_sx (pc := 1034) hN hx e dL_law_1034 ?_
                                                      refine aw_aload_n (pc := 1035) 0 dL_law_1035 rfl ?_
                                                      refine aw_iload (pc := 1036) 4 dL_law_1036 rfl ?_
                                                      refine aw_iconst (pc := 1038) (v := (2 : Int32)) dL_law_1038 (by decide) ?_
                                                      refine aw_iadd (pc := 1039) dL_law_1039 ?_
                                                      obtain ⟨v136, e, h⟩ := op_bd h
                                                      refine ow_sx (pc := 1040) hN hx e dL_law_1040 ?_
                                                      obtain ⟨r137, e, h⟩ := op_bd h
                                                      refine ow_cVlK (pc := 1041) [.int v135, .int v136] ((c_X11_without _ _ _ _ _ e).mono (by decide)) (op_ck_sh e) rfl dL_law_1041 cw_L_131 rfl (Nat.le_of_ble_eq_true rfl) ?_
                                                      refine aw_aload_n (pc := 1044) 2 dL_law_1044 rfl ?_
                                                      refine aw_aload_n (pc := 1045) 0 dL_law_1045 rfl ?_
                                                      refine aw_iload (pc := 1046) 4 dL_law_1046 rfl ?_
                                                      refine aw_iconst (pc := 1048) (v := (1 : Int32)) dL_law_1048 (by decide) ?_
                                                      refine aw_iadd (pc := 1049) dL_law_1049 ?_
                                                      obtain ⟨v138, e, h⟩ := op_bd h
                                                      refine ow_sx (pc := 1050) hN hx e dL_law_1050 ?_
                                                      refine aw_aload_n (pc := 1051) 0 dL_law_1051 rfl ?_
                                                      refine aw_iload (pc := 1052) 4 dL_law_1052 rfl ?_
                                                      refine aw_iconst (pc := 1054) (v := (2 : Int32)) dL_law_1054 (by decide) ?_
                                                      refine aw_iadd (pc := 1055) dL_law_1055 ?_
                                                      obtain ⟨v139, e, h⟩ := op_bd h
                                                      refine ow_sx (pc := 1056) hN hx e dL_law_1056 ?_
                                                      obtain ⟨r140, e, h⟩ := op_bd h
                                                      refine ow_cVlK (pc := 1057) [.int v138, .int v139] ((c_X12_without _ _ _ _ _ e).mono (by decide)) (op_ck_sh e) rfl dL_law_1057 cw_L_134 rfl (Nat.le_of_ble_eq_true rfl) ?_
                                                      refine aw_lcmp (pc := 1060) dL_law_1060 ?_
                                                      refine aw_if_eq (pc := 1061) 1219 dL_law_1061 (by decide) (fun z => ?_) (fun z => ?_)
                                                      · replace h := (if_pos z).symm.trans h
                                                        refine aw_wide (kc := n) (ks := 6 * n) (by omega) (by omega) ?_
                                                        exact c_L_law_1219 N xs hN hx hne K23 hK23 _ _ _ _ _ _ _ h
                                                      · replace h := (if_neg z).symm.trans h
                                                        refine aw_iconst (pc := 1064) (v := (0 : Int32)) dL_law_1064 (by decide) ?_
                                                        exact ah_nl (ow_zret (pc := 1065) h dL_law_1065 rfl)
                                                    · replace h := (if_neg z24).symm.trans h
                                                      by_cases z25 : (v2 &&& (31 : Int32)) = (25 : Int32)
                                                      · replace h := (if_pos z25).symm.trans h
                                                        refine aw_tableIn (pc := 40) (off := 1026) 1066 dL_law_40 (by rw [z25]; decide) (by rw [z25]; decide) (by rw [z25]; decide) (by decide) ?_
                                                        refine aw_aload_n (pc := 1066) 1 dL_law_1066 rfl ?_
                                                        refine aw_aload_n (pc := 1067) 0 dL_law_1067 rfl ?_
                                                        refine aw_iload (pc := 1068) 4 dL_law_1068 rfl ?_
                                                        refine aw_iconst (pc := 1070) (v := (1 : Int32)) dL_law_1070 (by decide) ?_
                                                        refine aw_iadd (pc := 1071) dL_law_1071 ?_
                                                        obtain ⟨v141, e, h⟩ := op_bd h
                                                        refine ow_sx (pc := 1072) hN hx e dL_law_1072 ?_
                                                        obtain ⟨r142, e, h⟩ := op_bd h
                                                        refine ow_cVlK (pc := 1073) [.int v141] ((c_X11_stages _ _ _ _ e).mono (by decide)) (op_ck_sh e) rfl dL_law_1073 cw_L_135 rfl (Nat.le_of_ble_eq_true rfl) ?_
                                                        refine aw_aload_n (pc := 1076) 2 dL_law_1076 rfl ?_
                                                        refine aw_aload_n (pc := 1077) 0 dL_law_1077 rfl ?_
                                                        refine aw_iload (pc := 1078) 4 dL_law_1078 rfl ?_
                                                        refine aw_iconst (pc := 1080) (v := (1 : Int32)) dL_law_1080 (by decide) ?_
                                                        refine aw_iadd (pc := 1081) dL_law_1081 ?_
                                                        obtain ⟨v143, e, h⟩ := op_bd h
                                                        refine ow_sx (pc := 1082) hN hx e dL_law_1082 ?_
                                                        obtain ⟨r144, e, h⟩ := op_bd h
                                                        refine ow_cVlK (pc := 1083) [.int v143] ((c_X12_stages _ _ _ _ e).mono (by decide)) (op_ck_sh e) rfl dL_law_1083 cw_L_138 rfl (Nat.le_of_ble_eq_true rfl) ?_
                                                        refine aw_lcmp (pc := 1086) dL_law_1086 ?_
                                                        refine aw_if_eq (pc := 1087) 1219 dL_law_1087 (by decide) (fun z => ?_) (fun z => ?_)
                                                        · replace h := (if_pos z).symm.trans h
                                                          refine aw_wide (kc := n) (ks := 6 * n) (by omega) (by omega) ?_
                                                          exact c_L_law_1219 N xs hN hx hne K23 hK23 _ _ _ _ _ _ _ h
                                                        · replace h := (if_neg z).symm.trans h
                                                          refine aw_iconst (pc := 1090) (v := (0 : Int32)) dL_law_1090 (by decide) ?_
                                                          exact ah_nl (ow_zret (pc := 1091) h dL_law_1091 rfl)
                                                      · replace h := (if_neg z25).symm.trans h
                                                        by_cases z26 : (v2 &&& (31 : Int32)) = (26 : Int32)
                                                        · replace h := (if_pos z26).symm.trans h
                                                          refine aw_tableIn (pc := 40) (off := 1052) 1092 dL_law_40 (by rw [z26]; decide) (by rw [z26]; decide) (by rw [z26]; decide) (by decide) ?_
                                                          refine aw_aload_n (pc := 1092) 1 dL_law_1092 rfl ?_
                                                          refine aw_aload_n (pc := 1093) 0 dL_law_1093 rfl ?_
                                                          refine aw_iload (pc := 1094) 4 dL_law_1094 rfl ?_
                                                          refine aw_iconst (pc := 1096) (v := (1 : Int32)) dL_law_1096 (by decide) ?_
                                                          refine aw_iadd (pc := 1097) dL_law_1097 ?_
                                                          obtain ⟨v145, e, h⟩ := op_bd h
                                                          refine ow_sx (pc := 1098) hN hx e dL_law_1098 ?_
                                                          refine aw_aload_n (pc := 1099) 0 dL_law_1099 rfl ?_
                                                          refine aw_iload (pc := 1100) 4 dL_law_1100 rfl ?_
                                                          refine aw_iconst (pc := 1102) (v := (2 : Int32)) dL_law_1102 (by decide) ?_
                                                          refine aw_iadd (pc := 1103) dL_law_1103 ?_
                                                          obtain ⟨v146, e, h⟩ := op_bd h
                                                          refine ow_sx (pc := 1104) hN hx e dL_law_1104 ?_
                                                          obtain ⟨r147, e, h⟩ := op_bd h
                                                          refine ow_cVlK (pc := 1105) [.int v145, .int v146] ((c_X11_stage _ _ _ _ _ e).mono (by decide)) (op_ck_sh e) rfl dL_law_1105 cw_L_139 rfl (Nat.le_of_ble_eq_true rfl) ?_
                                                          refine aw_aload_n (pc := 1108) 2 dL_law_1108 rfl ?_
                                                          refine aw_aload_n (pc := 1109) 0 dL_law_1109 rfl ?_
                                                          refine aw_iload (pc := 1110) 4 dL_law_1110 rfl ?_
                                                          refine aw_iconst (pc := 1112) (v := (1 : Int32)) dL_law_1112 (by decide) ?_
                                                          refine aw_iadd (pc := 1113) dL_law_1113 ?_
                                                          obtain ⟨v148, e, h⟩ := op_bd h
                                                          refine ow_sx (pc := 1114) hN hx e dL_law_1114 ?_
                                                          refine aw_aload_n (pc := 1115) 0 dL_law_1115 rfl ?_
                                                          refine aw_iload (pc := 1116) 4 dL_law_1116 rfl ?_
                                                          refine aw_iconst (pc := 1118) (v := (2 : Int32)) dL_law_1118 (by decide) ?_
                                                          refine aw_iadd (pc := 1119) dL_law_1119 ?_
                                                          obtain ⟨v149, e, h⟩ := op_bd h
                                                          refine ow_sx (pc := 1120) hN hx e dL_law_1120 ?_
                                                          obtain ⟨r150, e, h⟩ := op_bd h
                                                          refine ow_cVlK (pc := 1121) [.int v148, .int v149] ((c_X12_stage _ _ _ _ _ e).mono (by decide)) (op_ck_sh e) rfl dL_law_1121 cw_L_142 rfl (Nat.le_of_ble_eq_true rfl) ?_
                                                          refine aw_lcmp (pc := 1124) dL_law_1124 ?_
                                                          refine aw_if_eq (pc := 1125) 1219 dL_law_1125 (by decide) (fun z => ?_) (fun z => ?_)
                                                          · replace h := (if_pos z).symm.trans h
                                                            refine aw_wide (kc := n) (ks := 6 * n) (by omega) (by omega) ?_
                                                            exact c_L_law_1219 N xs hN hx hne K23 hK23 _ _ _ _ _ _ _ h
                                                          · replace h := (if_neg z).symm.trans h
                                                            refine aw_iconst (pc := 1128) (v := (0 : Int32)) dL_law_1128 (by decide) ?_
                                                            exact ah_nl (ow_zret (pc := 1129) h dL_law_1129 rfl)
                                                        · replace h := (if_neg z26).symm.trans h
                                                          by_cases z27 : (v2 &&& (31 : Int32)) = (27 : Int32)
                                                          · replace h := (if_pos z27).symm.trans h
                                                            refine aw_tableIn (pc := 40) (off := 1090) 1130 dL_law_40 (by rw [z27]; decide) (by rw [z27]; decide) (by rw [z27]; decide) (by decide) ?_
                                                            refine aw_aload_n (pc := 1130) 1 dL_law_1130 rfl ?_
                                                            refine aw_aload_n (pc := 1131) 0 dL_law_1131 rfl ?_
                                                            refine aw_iload (pc := 1132) 4 dL_law_1132 rfl ?_
                                                            refine aw_iconst (pc := 1134) (v := (1 : Int32)) dL_law_1134 (by decide) ?_
                                                            refine aw_iadd (pc := 1135) dL_law_1135 ?_
                                                            obtain ⟨v151, e, h⟩ := op_bd h
                                                            refine ow_sx (pc := 1136) hN hx e dL_law_1136 ?_
                                                            obtain ⟨r152, e, h⟩ := op_bd h
                                                            refine ow_cViK (pc := 1137) [.int v151] ((c_X11_first _ _ _ _ e).mono (by decide)) (op_ck_sh e) rfl dL_law_1137 cw_L_143 rfl (Nat.le_of_ble_eq_true rfl) ?_
                                                            refine aw_aload_n (pc := 1140) 2 dL_law_1140 rfl ?_
                                                            refine aw_aload_n (pc := 1141) 0 dL_law_1141 rfl ?_
                                                            refine aw_iload (pc := 1142) 4 dL_law_1142 rfl ?_
                                                            refine aw_iconst (pc := 1144) (v := (1 : Int32)) dL_law_1144 (by decide) ?_
                                                            refine aw_iadd (pc := 1145) dL_law_1145 ?_
                                                            obtain ⟨v153, e, h⟩ := op_bd h
                                                            refine ow_sx (pc := 1146) hN hx e dL_law_1146 ?_
                                                            obtain ⟨r154, e, h⟩ := op_bd h
                                                            refine ow_cViK (pc := 1147) [.int v153] ((c_X12_first _ _ _ _ e).mono (by decide)) (op_ck_sh e) rfl dL_law_1147 cw_L_146 rfl (Nat.le_of_ble_eq_true rfl) ?_
                                                            refine aw_icmp_eq (pc := 1150) 1219 dL_law_1150 (by decide) (fun z => ?_) (fun z => ?_)
                                                            · replace h := (if_pos z).symm.trans h
                                                              refine aw_wide (kc := n) (ks := 6 * n) (by omega) (by omega) ?_
                                                              exact c_L_law_1219 N xs hN hx hne K23 hK23 _ _ _ _ _ _ _ h
                                                            · replace h := (if_neg z).symm.trans h
                                                              refine aw_iconst (pc := 1153) (v := (0 : Int32)) dL_law_1153 (by decide) ?_
                                                              exact ah_nl (ow_zret (pc := 1154) h dL_law_1154 rfl)
                                                          · replace h := (if_neg z27).symm.trans h
                                                            by_cases z28 : (v2 &&& (31 : Int32)) = (28 : Int32)
                                                            · replace h := (if_pos z28).symm.trans h
                                                              refine aw_tableIn (pc := 40) (off := 1115) 1155 dL_law_40 (by rw [z28]; decide) (by rw [z28]; decide) (by rw [z28]; decide) (by decide) ?_
                                                              refine aw_aload_n (pc := 1155) 1 dL_law_1155 rfl ?_
                                                              obtain ⟨r155, e, h⟩ := op_bd h
                                                              refine ow_cViK (pc := 1156) [] ((c_X11_undo _ _ _ e).mono (by decide)) (op_ck_sh e) rfl dL_law_1156 cw_L_147 rfl (Nat.le_of_ble_eq_true rfl) ?_
                                                              refine aw_aload_n (pc := 1159) 2 dL_law_1159 rfl ?_
                                                              obtain ⟨r156, e, h⟩ := op_bd h
                                                              refine ow_cViK (pc := 1160) [] ((c_X12_undo _ _ _ e).mono (by decide)) (op_ck_sh e) rfl dL_law_1160 cw_L_150 rfl (Nat.le_of_ble_eq_true rfl) ?_
                                                              refine aw_icmp_eq (pc := 1163) 1219 dL_law_1163 (by decide) (fun z => ?_) (fun z => ?_)
                                                              · replace h := (if_pos z).symm.trans h
                                                                refine aw_wide (kc := n) (ks := 6 * n) (by omega) (by omega) ?_
                                                                exact c_L_law_1219 N xs hN hx hne K23 hK23 _ _ _ _ _ _ _ h
                                                              · replace h := (if_neg z).symm.trans h
                                                                refine aw_iconst (pc := 1166) (v := (0 : Int32)) dL_law_1166 (by decide) ?_
                                                                exact ah_nl (ow_zret (pc := 1167) h dL_law_1167 rfl)
                                                            · replace h := (if_neg z28).symm.trans h
                                                              by_cases z29 : (v2 &&& (31 : Int32)) = (29 : Int32)
                                                              · replace h := (if_pos z29).symm.trans h
                                                                refine aw_tableIn (pc := 40) (off := 1128) 1168 dL_law_40 (by rw [z29]; decide) (by rw [z29]; decide) (by rw [z29]; decide) (by decide) ?_
                                                                refine aw_aload_n (pc := 1168) 1 dL_law_1168 rfl ?_
                                                                obtain ⟨r157, e, h⟩ := op_bd h
                                                                refine ow_cViK (pc := 1169) [] ((c_X11_keep _ _ _ e).mono (by decide)) (op_ck_sh e) rfl dL_law_1169 cw_L_151 rfl (Nat.le_of_ble_eq_true rfl) ?_
                                                                refine aw_aload_n (pc := 1172) 2 dL_law_1172 rfl ?_
                                                                obtain ⟨r158, e, h⟩ := op_bd h
                                                                refine ow_cViK (pc := 1173) [] ((c_X12_keep _ _ _ e).mono (by decide)) (op_ck_sh e) rfl dL_law_1173 cw_L_154 rfl (Nat.le_of_ble_eq_true rfl) ?_
                                                                refine aw_icmp_eq (pc := 1176) 1219 dL_law_1176 (by decide) (fun z => ?_) (fun z => ?_)
                                                                · replace h := (if_pos z).symm.trans h
                                                                  refine aw_wide (kc := n) (ks := 6 * n) (by omega) (by omega) ?_
                                                                  exact c_L_law_1219 N xs hN hx hne K23 hK23 _ _ _ _ _ _ _ h
                                                                · replace h := (if_neg z).symm.trans h
                                                                  refine aw_iconst (pc := 1179) (v := (0 : Int32)) dL_law_1179 (by decide) ?_
                                                                  exact ah_nl (ow_zret (pc := 1180) h dL_law_1180 rfl)
                                                              · replace h := (if_neg z29).symm.trans h
                                                                by_cases z30 : (v2 &&& (31 : Int32)) = (30 : Int32)
                                                                · replace h := (if_pos z30).symm.trans h
                                                                  refine aw_tableIn (pc := 40) (off := 1141) 1181 dL_law_40 (by rw [z30]; decide) (by rw [z30]; decide) (by rw [z30]; decide) (by decide) ?_
                                                                  refine aw_aload_n (pc := 1181) 1 dL_law_1181 rfl ?_
                                                                  obtain ⟨r159, e, h⟩ := op_bd h
                                                                  refine ow_cViK (pc := 1182) [] ((c_X11_back _ _ _ e).mono (by decide)) (op_ck_sh e) rfl dL_law_1182 cw_L_155 rfl (Nat.le_of_ble_eq_true rfl) ?_
                                                                  refine aw_aload_n (pc := 1185) 2 dL_law_1185 rfl ?_
                                                                  obtain ⟨r160, e, h⟩ := op_bd h
                                                                  refine ow_cViK (pc := 1186) [] ((c_X12_back _ _ _ e).mono (by decide)) (op_ck_sh e) rfl dL_law_1186 cw_L_158 rfl (Nat.le_of_ble_eq_true rfl) ?_
                                                                  refine aw_icmp_eq (pc := 1189) 1219 dL_law_1189 (by decide) (fun z => ?_) (fun z => ?_)
                                                                  · replace h := (if_pos z).symm.trans h
                                                                    refine aw_wide (kc := n) (ks := 6 * n) (by omega) (by omega) ?_
                                                                    exact c_L_law_1219 N xs hN hx hne K23 hK23 _ _ _ _ _ _ _ h
                                                                  · replace h := (if_neg z).symm.trans h
                                                                    refine aw_iconst (pc := 1192) (v := (0 : Int32)) dL_law_1192 (by decide) ?_
                                                                    exact ah_nl (ow_zret (pc := 1193) h dL_law_1193 rfl)
                                                                · replace h := (if_neg z30).symm.trans h
                                                                  by_cases z31 : (v2 &&& (31 : Int32)) = (31 : Int32)
                                                                  · replace h := (if_pos z31).symm.trans h
                                                                    refine aw_tableIn (pc := 40) (off := 1154) 1194 dL_law_40 (by rw [z31]; decide) (by rw [z31]; decide) (by rw [z31]; decide) (by decide) ?_
                                                                    refine aw_aload_n (pc := 1194) 1 dL_law_1194 rfl ?_
                                                                    refine aw_aload_n (pc := 1195) 0 dL_law_1195 rfl ?_
                                                                    refine aw_iload (pc := 1196) 4 dL_law_1196 rfl ?_
                                                                    refine aw_iconst (pc := 1198) (v := (1 : Int32)) dL_law_1198 (by decide) ?_
                                                                    refine aw_iadd (pc := 1199) dL_law_1199 ?_
                                                                    obtain ⟨v161, e, h⟩ := op_bd h
                                                                    refine ow_sx (pc := 1200) hN hx e dL_law_1200 ?_
                                                                    obtain ⟨r162, e, h⟩ := op_bd h
                                                                    refine ow_cViK (pc := 1201) [.int v161] ((c_X11_count _ _ _ _ e).mono (by decide)) (op_ck_sh e) rfl dL_law_1201 cw_L_159 rfl (Nat.le_of_ble_eq_true rfl) ?_
                                                                    refine aw_aload_n (pc := 1204) 2 dL_law_1204 rfl ?_
                                                                    refine aw_aload_n (pc := 1205) 0 dL_law_1205 rfl ?_
                                                                    refine aw_iload (pc := 1206) 4 dL_law_1206 rfl ?_
                                                                    refine aw_iconst (pc := 1208) (v := (1 : Int32)) dL_law_1208 (by decide) ?_
                                                                    refine aw_iadd (pc := 1209) dL_law_1209 ?_
                                                                    obtain ⟨v163, e, h⟩ := op_bd h
                                                                    refine ow_sx (pc := 1210) hN hx e dL_law_1210 ?_
                                                                    obtain ⟨r164, e, h⟩ := op_bd h
                                                                    refine ow_cViK (pc := 1211) [.int v163] ((c_X12_count _ _ _ _ e).mono (by decide)) (op_ck_sh e) rfl dL_law_1211 cw_L_162 rfl (Nat.le_of_ble_eq_true rfl) ?_
                                                                    refine aw_icmp_eq (pc := 1214) 1219 dL_law_1214 (by decide) (fun z => ?_) (fun z => ?_)
                                                                    · replace h := (if_pos z).symm.trans h
                                                                      refine aw_wide (kc := n) (ks := 6 * n) (by omega) (by omega) ?_
                                                                      exact c_L_law_1219 N xs hN hx hne K23 hK23 _ _ _ _ _ _ _ h
                                                                    · replace h := (if_neg z).symm.trans h
                                                                      refine aw_iconst (pc := 1217) (v := (0 : Int32)) dL_law_1217 (by decide) ?_
                                                                      exact ah_nl (ow_zret (pc := 1218) h dL_law_1218 rfl)
                                                                  · replace h := (if_neg z31).symm.trans h
                                                                    have wz0 : ¬ ((v2 &&& (31 : Int32))).toInt = 0 := fun q => z0 (Int32.toInt_inj.mp q)
                                                                    have wz1 : ¬ ((v2 &&& (31 : Int32))).toInt = 1 := fun q => z1 (Int32.toInt_inj.mp q)
                                                                    have wz2 : ¬ ((v2 &&& (31 : Int32))).toInt = 2 := fun q => z2 (Int32.toInt_inj.mp q)
                                                                    have wz3 : ¬ ((v2 &&& (31 : Int32))).toInt = 3 := fun q => z3 (Int32.toInt_inj.mp q)
                                                                    have wz4 : ¬ ((v2 &&& (31 : Int32))).toInt = 4 := fun q => z4 (Int32.toInt_inj.mp q)
                                                                    have wz5 : ¬ ((v2 &&& (31 : Int32))).toInt = 5 := fun q => z5 (Int32.toInt_inj.mp q)
                                                                    have wz6 : ¬ ((v2 &&& (31 : Int32))).toInt = 6 := fun q => z6 (Int32.toInt_inj.mp q)
                                                                    have wz7 : ¬ ((v2 &&& (31 : Int32))).toInt = 7 := fun q => z7 (Int32.toInt_inj.mp q)
                                                                    have wz8 : ¬ ((v2 &&& (31 : Int32))).toInt = 8 := fun q => z8 (Int32.toInt_inj.mp q)
                                                                    have wz9 : ¬ ((v2 &&& (31 : Int32))).toInt = 9 := fun q => z9 (Int32.toInt_inj.mp q)
                                                                    have wz10 : ¬ ((v2 &&& (31 : Int32))).toInt = 10 := fun q => z10 (Int32.toInt_inj.mp q)
                                                                    have wz11 : ¬ ((v2 &&& (31 : Int32))).toInt = 11 := fun q => z11 (Int32.toInt_inj.mp q)
                                                                    have wz12 : ¬ ((v2 &&& (31 : Int32))).toInt = 12 := fun q => z12 (Int32.toInt_inj.mp q)
                                                                    have wz13 : ¬ ((v2 &&& (31 : Int32))).toInt = 13 := fun q => z13 (Int32.toInt_inj.mp q)
                                                                    have wz14 : ¬ ((v2 &&& (31 : Int32))).toInt = 14 := fun q => z14 (Int32.toInt_inj.mp q)
                                                                    have wz15 : ¬ ((v2 &&& (31 : Int32))).toInt = 15 := fun q => z15 (Int32.toInt_inj.mp q)
                                                                    have wz16 : ¬ ((v2 &&& (31 : Int32))).toInt = 16 := fun q => z16 (Int32.toInt_inj.mp q)
                                                                    have wz17 : ¬ ((v2 &&& (31 : Int32))).toInt = 17 := fun q => z17 (Int32.toInt_inj.mp q)
                                                                    have wz18 : ¬ ((v2 &&& (31 : Int32))).toInt = 18 := fun q => z18 (Int32.toInt_inj.mp q)
                                                                    have wz19 : ¬ ((v2 &&& (31 : Int32))).toInt = 19 := fun q => z19 (Int32.toInt_inj.mp q)
                                                                    have wz20 : ¬ ((v2 &&& (31 : Int32))).toInt = 20 := fun q => z20 (Int32.toInt_inj.mp q)
                                                                    have wz21 : ¬ ((v2 &&& (31 : Int32))).toInt = 21 := fun q => z21 (Int32.toInt_inj.mp q)
                                                                    have wz22 : ¬ ((v2 &&& (31 : Int32))).toInt = 22 := fun q => z22 (Int32.toInt_inj.mp q)
                                                                    have wz23 : ¬ ((v2 &&& (31 : Int32))).toInt = 23 := fun q => z23 (Int32.toInt_inj.mp q)
                                                                    have wz24 : ¬ ((v2 &&& (31 : Int32))).toInt = 24 := fun q => z24 (Int32.toInt_inj.mp q)
                                                                    have wz25 : ¬ ((v2 &&& (31 : Int32))).toInt = 25 := fun q => z25 (Int32.toInt_inj.mp q)
                                                                    have wz26 : ¬ ((v2 &&& (31 : Int32))).toInt = 26 := fun q => z26 (Int32.toInt_inj.mp q)
                                                                    have wz27 : ¬ ((v2 &&& (31 : Int32))).toInt = 27 := fun q => z27 (Int32.toInt_inj.mp q)
                                                                    have wz28 : ¬ ((v2 &&& (31 : Int32))).toInt = 28 := fun q => z28 (Int32.toInt_inj.mp q)
                                                                    have wz29 : ¬ ((v2 &&& (31 : Int32))).toInt = 29 := fun q => z29 (Int32.toInt_inj.mp q)
                                                                    have wz30 : ¬ ((v2 &&& (31 : Int32))).toInt = 30 := fun q => z30 (Int32.toInt_inj.mp q)
                                                                    have wz31 : ¬ ((v2 &&& (31 : Int32))).toInt = 31 := fun q => z31 (Int32.toInt_inj.mp q)
                                                                    refine aw_tableOut (pc := 40) 1219 dL_law_40 (by omega) (by decide) ?_
                                                                    refine aw_wide (kc := n) (ks := 6 * n) (by omega) (by omega) ?_
                                                                    exact c_L_law_1219 N xs hN hx hne K23 hK23 _ _ _ _ _ _ _ h
theorem c_L_law_23 {G : ah_G} (N : Nat) (xs : Nat → Int32) (hN : ah_sn G = N) (hx : ah_xs G = xs) (hne : ¬ ah_ex G)  : ∀ (n : Nat) (x0 : Nat) (x1 : Nat) (x2 : Nat) (x3 : Nat) (x4 : Int32) (σ : ah_H) (r : Int32 × ah_H), f_L_law_23 N xs  n x0 x1 x2 x3 x4 σ = some r → AW G m_L_law 210 n (6 * n) 23 [(0, .ref x0), (1, .ref x1), (2, .ref x2), (3, .ref x3), (4, .int x4)] [] σ (ah_NL G (ah_ri r)) := by
  intro n
  induction n with
  | zero => intro x0 x1 x2 x3 x4 σ r h; cases h
  | succ n ih => intro x0 x1 x2 x3 x4 σ r h; exact c_L_law_23_b N xs hN hx hne  _ ih x0 x1 x2 x3 x4 σ r h
