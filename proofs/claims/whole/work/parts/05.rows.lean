/-! ROWS OF AW: one instruction each, without the heap -/
section
variable {G : ah_G} {mi : ah_M} {dp kc ks pc : Nat} {lv : List (Nat × Value)} {rest : List Value} {σ : ah_H} {Q : ah_Z}
theorem aw_lvat {ls : Array Slot} {nL q i : Nat} {v : Value} (hl : lv_has ls nL (lv.map (ah_uq G))) (h : lv[q]? = some (i, v)) : ls[i]? = some (.val (ah_up G v)) := lv_at hl q (by rw [List.getElem?_map, h]; rfl)
theorem aw_filt1 (i : Nat) : (lv.map (ah_uq G)).filter (fun q => !(q.1 == i) && !(q.1 + 1 == i && q.2.category == 2)) = (lv.filter (fun q => !(q.1 == i) && !(q.1 + 1 == i && q.2.category == 2))).map (ah_uq G) := by
  rw [List.filter_map]
  congr 2
  funext q
  simp [ah_uq, ah_up_cat]
theorem aw_filt2 (i : Nat) : (lv.map (ah_uq G)).filter (fun q => !(q.1 == i) && (!(q.1 == i + 1) && !(q.1 + 1 == i && q.2.category == 2))) = (lv.filter (fun q => !(q.1 == i) && (!(q.1 == i + 1) && !(q.1 + 1 == i && q.2.category == 2)))).map (ah_uq G) := by
  rw [List.filter_map]
  congr 2
  funext q
  simp [ah_uq, ah_up_cat]
theorem aw_pick (qs : List Nat) : lv_pick (lv.map (ah_uq G)) qs = (lv_pick lv qs).map (ah_uq G) := by
  induction qs with
  | nil => rfl
  | cons a qs ih =>
    simp only [lv_pick, List.filterMap_cons, List.getElem?_map] at ih ⊢
    cases lv[a]? with
    | none => simpa using ih
    | some x => simpa using ih
/-- fewer locals -/
theorem aw_sub {st : List Value} {lv' : List (Nat × Value)} (qs : List Nat) (h : lv_pick lv qs = lv') (k : AW G mi dp kc ks pc lv' st σ Q) : AW G mi dp kc ks pc lv st σ Q := by
  intro p e R s m args below meth c H locs cells slots ls hC h1 h2 hR hS hl
  exact k p e R s m args below meth c H locs cells slots ls hC h1 h2 hR hS (lv_sub hl qs (by rw [aw_pick, h]))
theorem aw_wide {st : List Value} {kc' ks' : Nat} (h1 : kc ≤ kc') (h2 : ks ≤ ks') (k : AW G mi dp kc ks pc lv st σ Q) : AW G mi dp kc' ks' pc lv st σ Q := by
  intro p e R s m args below meth c H locs cells slots ls hC u1 u2 hR hS hl
  exact W.widen (k := cells + (kc' - kc)) (n := slots + (ks' - ks)) (by omega) (by omega) (k p e R s m args below meth c H locs _ _ ls hC (by omega) (by omega) hR hS hl)
theorem aw_iconst {n : Int} {v : Int32} (hd : decode mi.2.1 pc = .ok (.iconst n, 1)) (hv : Int32.ofInt n = v) (k : AW G mi dp kc ks (pc + 1) lv (.int v :: rest) σ Q) : AW G mi dp kc ks pc lv (rest) σ Q := by
  intro p e R s m args below meth c H locs cells slots ls hC h1 h2 hR hS hl
  exact lv_iconst hC.1 hC.2.1 hd hv (k p e R s m args below meth c H locs cells slots ls hC h1 h2 hR hS hl)
theorem aw_bipush {n : Int} {v : Int32} (hd : decode mi.2.1 pc = .ok (.bipush n, 2)) (hv : (Int8.ofInt n).toInt32 = v) (k : AW G mi dp kc ks (pc + 2) lv (.int v :: rest) σ Q) : AW G mi dp kc ks pc lv (rest) σ Q := by
  intro p e R s m args below meth c H locs cells slots ls hC h1 h2 hR hS hl
  exact lv_bipush hC.1 hC.2.1 hd hv (k p e R s m args below meth c H locs cells slots ls hC h1 h2 hR hS hl)
theorem aw_sipush {n : Int} {v : Int32} (hd : decode mi.2.1 pc = .ok (.sipush n, 3)) (hv : (Int16.ofInt n).toInt32 = v) (k : AW G mi dp kc ks (pc + 3) lv (.int v :: rest) σ Q) : AW G mi dp kc ks pc lv (rest) σ Q := by
  intro p e R s m args below meth c H locs cells slots ls hC h1 h2 hR hS hl
  exact lv_sipush hC.1 hC.2.1 hd hv (k p e R s m args below meth c H locs cells slots ls hC h1 h2 hR hS hl)
theorem aw_lconst {n : Fin 2} {v : Int64} (hd : decode mi.2.1 pc = .ok (.lconst n, 1)) (hv : Int64.ofNat (n : Nat) = v) (k : AW G mi dp kc ks (pc + 1) lv (.long v :: rest) σ Q) : AW G mi dp kc ks pc lv (rest) σ Q := by
  intro p e R s m args below meth c H locs cells slots ls hC h1 h2 hR hS hl
  exact lv_lconst hC.1 hC.2.1 hd hv (k p e R s m args below meth c H locs cells slots ls hC h1 h2 hR hS hl)
theorem aw_null  (hd : decode mi.2.1 pc = .ok (.aconst_null, 1))  (k : AW G mi dp kc ks (pc + 1) lv (.null :: rest) σ Q) : AW G mi dp kc ks pc lv (rest) σ Q := by
  intro p e R s m args below meth c H locs cells slots ls hC h1 h2 hR hS hl
  exact lv_null hC.1 hC.2.1 hd (k p e R s m args below meth c H locs cells slots ls hC h1 h2 hR hS hl)
theorem aw_iload_n (q : Nat) {n : Fin 4} {x : Int32} (hd : decode mi.2.1 pc = .ok (.iload_n n, 1)) (h : lv[q]? = some ((n : Nat), .int x)) (k : AW G mi dp kc ks (pc + 1) lv (.int x :: rest) σ Q) : AW G mi dp kc ks pc lv (rest) σ Q := by
  intro p e R s m args below meth c H locs cells slots ls hC h1 h2 hR hS hl
  exact lv_iload_n hC.1 hC.2.1 hd rfl (aw_lvat hl h) (k p e R s m args below meth c H locs cells slots ls hC h1 h2 hR hS hl)
theorem aw_iload (q : Nat) {i : Nat} {x : Int32} (hd : decode mi.2.1 pc = .ok (.iload i, 2)) (h : lv[q]? = some (i, .int x)) (k : AW G mi dp kc ks (pc + 2) lv (.int x :: rest) σ Q) : AW G mi dp kc ks pc lv (rest) σ Q := by
  intro p e R s m args below meth c H locs cells slots ls hC h1 h2 hR hS hl
  exact lv_iload hC.1 hC.2.1 hd (aw_lvat hl h) (k p e R s m args below meth c H locs cells slots ls hC h1 h2 hR hS hl)
theorem aw_lload_n (q : Nat) {n : Fin 4} {x : Int64} (hd : decode mi.2.1 pc = .ok (.lload_n n, 1)) (h : lv[q]? = some ((n : Nat), .long x)) (k : AW G mi dp kc ks (pc + 1) lv (.long x :: rest) σ Q) : AW G mi dp kc ks pc lv (rest) σ Q := by
  intro p e R s m args below meth c H locs cells slots ls hC h1 h2 hR hS hl
  exact lv_lload_n hC.1 hC.2.1 hd rfl (aw_lvat hl h) (k p e R s m args below meth c H locs cells slots ls hC h1 h2 hR hS hl)
theorem aw_lload (q : Nat) {i : Nat} {x : Int64} (hd : decode mi.2.1 pc = .ok (.lload i, 2)) (h : lv[q]? = some (i, .long x)) (k : AW G mi dp kc ks (pc + 2) lv (.long x :: rest) σ Q) : AW G mi dp kc ks pc lv (rest) σ Q := by
  intro p e R s m args below meth c H locs cells slots ls hC h1 h2 hR hS hl
  exact lv_lload hC.1 hC.2.1 hd (aw_lvat hl h) (k p e R s m args below meth c H locs cells slots ls hC h1 h2 hR hS hl)
theorem aw_aload_n (q : Nat) {n : Fin 4} {x : Nat} (hd : decode mi.2.1 pc = .ok (.aload_n n, 1)) (h : lv[q]? = some ((n : Nat), .ref x)) (k : AW G mi dp kc ks (pc + 1) lv (.ref x :: rest) σ Q) : AW G mi dp kc ks pc lv (rest) σ Q := by
  intro p e R s m args below meth c H locs cells slots ls hC h1 h2 hR hS hl
  exact lv_aload_n hC.1 hC.2.1 hd rfl (aw_lvat hl h) (k p e R s m args below meth c H locs cells slots ls hC h1 h2 hR hS hl)
theorem aw_aload (q : Nat) {i : Nat} {x : Nat} (hd : decode mi.2.1 pc = .ok (.aload i, 2)) (h : lv[q]? = some (i, .ref x)) (k : AW G mi dp kc ks (pc + 2) lv (.ref x :: rest) σ Q) : AW G mi dp kc ks pc lv (rest) σ Q := by
  intro p e R s m args below meth c H locs cells slots ls hC h1 h2 hR hS hl
  exact lv_aload hC.1 hC.2.1 hd (aw_lvat hl h) (k p e R s m args below meth c H locs cells slots ls hC h1 h2 hR hS hl)
theorem aw_istore_n (lv' : List (Nat × Value)) {n : Fin 4} {i : Nat} {x : Int32} (hd : decode mi.2.1 pc = .ok (.istore_n n, 1)) (hi : (n : Nat) = i) (hn : i < mi.2.2.1) (hw : (i, Value.int x) :: lv.filter (fun q => !(q.1 == i) && !(q.1 + 1 == i && q.2.category == 2)) = lv') (k : AW G mi dp kc ks (pc + 1) lv' rest σ Q) : AW G mi dp kc ks pc lv (.int x :: rest) σ Q := by
  intro p e R s m args below meth c H locs cells slots ls hC h1 h2 hR hS hl
  refine lv_istore_n (lv := lv.map (ah_uq G)) (lv' := lv'.map (ah_uq G)) hC.1 hC.2.1 hd hi hl hn ?_ (fun ls hl => k p e R s m args below meth c H locs cells slots ls hC h1 h2 hR hS hl)
  rw [aw_filt1, ← hw]
  rfl
theorem aw_istore (lv' : List (Nat × Value)) {i : Nat} {x : Int32} (hd : decode mi.2.1 pc = .ok (.istore i, 2))  (hn : i < mi.2.2.1) (hw : (i, Value.int x) :: lv.filter (fun q => !(q.1 == i) && !(q.1 + 1 == i && q.2.category == 2)) = lv') (k : AW G mi dp kc ks (pc + 2) lv' rest σ Q) : AW G mi dp kc ks pc lv (.int x :: rest) σ Q := by
  intro p e R s m args below meth c H locs cells slots ls hC h1 h2 hR hS hl
  refine lv_istore (lv := lv.map (ah_uq G)) (lv' := lv'.map (ah_uq G)) hC.1 hC.2.1 hd  hl hn ?_ (fun ls hl => k p e R s m args below meth c H locs cells slots ls hC h1 h2 hR hS hl)
  rw [aw_filt1, ← hw]
  rfl
theorem aw_astore_n (lv' : List (Nat × Value)) {n : Fin 4} {i : Nat} {x : Nat} (hd : decode mi.2.1 pc = .ok (.astore_n n, 1)) (hi : (n : Nat) = i) (hn : i < mi.2.2.1) (hw : (i, Value.ref x) :: lv.filter (fun q => !(q.1 == i) && !(q.1 + 1 == i && q.2.category == 2)) = lv') (k : AW G mi dp kc ks (pc + 1) lv' rest σ Q) : AW G mi dp kc ks pc lv (.ref x :: rest) σ Q := by
  intro p e R s m args below meth c H locs cells slots ls hC h1 h2 hR hS hl
  refine lv_astore_n (lv := lv.map (ah_uq G)) (lv' := lv'.map (ah_uq G)) hC.1 hC.2.1 hd hi hl hn ?_ (fun ls hl => k p e R s m args below meth c H locs cells slots ls hC h1 h2 hR hS hl)
  rw [aw_filt1, ← hw]
  rfl
theorem aw_astore (lv' : List (Nat × Value)) {i : Nat} {x : Nat} (hd : decode mi.2.1 pc = .ok (.astore i, 2))  (hn : i < mi.2.2.1) (hw : (i, Value.ref x) :: lv.filter (fun q => !(q.1 == i) && !(q.1 + 1 == i && q.2.category == 2)) = lv') (k : AW G mi dp kc ks (pc + 2) lv' rest σ Q) : AW G mi dp kc ks pc lv (.ref x :: rest) σ Q := by
  intro p e R s m args below meth c H locs cells slots ls hC h1 h2 hR hS hl
  refine lv_astore (lv := lv.map (ah_uq G)) (lv' := lv'.map (ah_uq G)) hC.1 hC.2.1 hd  hl hn ?_ (fun ls hl => k p e R s m args below meth c H locs cells slots ls hC h1 h2 hR hS hl)
  rw [aw_filt1, ← hw]
  rfl
theorem aw_lstore_n (lv' : List (Nat × Value)) {n : Fin 4} {i : Nat} {x : Int64} (hd : decode mi.2.1 pc = .ok (.lstore_n n, 1)) (hi : (n : Nat) = i) (hn : i + 1 < mi.2.2.1) (hw : (i, Value.long x) :: lv.filter (fun q => !(q.1 == i) && (!(q.1 == i + 1) && !(q.1 + 1 == i && q.2.category == 2))) = lv') (k : AW G mi dp kc ks (pc + 1) lv' rest σ Q) : AW G mi dp kc ks pc lv (.long x :: rest) σ Q := by
  intro p e R s m args below meth c H locs cells slots ls hC h1 h2 hR hS hl
  refine lv_lstore_n (lv := lv.map (ah_uq G)) (lv' := lv'.map (ah_uq G)) hC.1 hC.2.1 hd hi hl hn ?_ (fun ls hl => k p e R s m args below meth c H locs cells slots ls hC h1 h2 hR hS hl)
  rw [aw_filt2, ← hw]
  rfl
theorem aw_lstore (lv' : List (Nat × Value)) {i : Nat} {x : Int64} (hd : decode mi.2.1 pc = .ok (.lstore i, 2))  (hn : i + 1 < mi.2.2.1) (hw : (i, Value.long x) :: lv.filter (fun q => !(q.1 == i) && (!(q.1 == i + 1) && !(q.1 + 1 == i && q.2.category == 2))) = lv') (k : AW G mi dp kc ks (pc + 2) lv' rest σ Q) : AW G mi dp kc ks pc lv (.long x :: rest) σ Q := by
  intro p e R s m args below meth c H locs cells slots ls hC h1 h2 hR hS hl
  refine lv_lstore (lv := lv.map (ah_uq G)) (lv' := lv'.map (ah_uq G)) hC.1 hC.2.1 hd  hl hn ?_ (fun ls hl => k p e R s m args below meth c H locs cells slots ls hC h1 h2 hR hS hl)
  rw [aw_filt2, ← hw]
  rfl
theorem aw_iinc (q : Nat) (lv' : List (Nat × Value)) {i : Nat} {n : Int} {x : Int32} (v : Int32) (hd : decode mi.2.1 pc = .ok (.iinc i n, 3)) (h : lv[q]? = some (i, .int x)) (hv : x + Int32.ofInt n = v) (hn : i < mi.2.2.1) (hw : (i, Value.int v) :: lv.filter (fun q => !(q.1 == i) && !(q.1 + 1 == i && q.2.category == 2)) = lv') (k : AW G mi dp kc ks (pc + 3) lv' rest σ Q) : AW G mi dp kc ks pc lv rest σ Q := by
  intro p e R s m args below meth c H locs cells slots ls hC h1 h2 hR hS hl
  refine lv_iinc (lv := lv.map (ah_uq G)) (lv' := lv'.map (ah_uq G)) hC.1 hC.2.1 hd hl (k := q) (by rw [List.getElem?_map, h]; rfl) hv hn ?_ (fun ls hl => k p e R s m args below meth c H locs cells slots ls hC h1 h2 hR hS hl)
  rw [aw_filt1, ← hw]
  rfl
theorem aw_iadd {x y : Int32} (hd : decode mi.2.1 pc = .ok (.iadd, 1))  (k : AW G mi dp kc ks (pc + 1) lv (.int (x + y) :: rest) σ Q) : AW G mi dp kc ks pc lv (.int y :: .int x :: rest) σ Q := by
  intro p e R s m args below meth c H locs cells slots ls hC h1 h2 hR hS hl
  exact lv_iadd hC.1 hC.2.1 hd (k p e R s m args below meth c H locs cells slots ls hC h1 h2 hR hS hl)
theorem aw_isub {x y : Int32} (hd : decode mi.2.1 pc = .ok (.isub, 1))  (k : AW G mi dp kc ks (pc + 1) lv (.int (x - y) :: rest) σ Q) : AW G mi dp kc ks pc lv (.int y :: .int x :: rest) σ Q := by
  intro p e R s m args below meth c H locs cells slots ls hC h1 h2 hR hS hl
  exact lv_isub hC.1 hC.2.1 hd (k p e R s m args below meth c H locs cells slots ls hC h1 h2 hR hS hl)
theorem aw_imul {x y : Int32} (hd : decode mi.2.1 pc = .ok (.imul, 1))  (k : AW G mi dp kc ks (pc + 1) lv (.int (x * y) :: rest) σ Q) : AW G mi dp kc ks pc lv (.int y :: .int x :: rest) σ Q := by
  intro p e R s m args below meth c H locs cells slots ls hC h1 h2 hR hS hl
  exact lv_imul hC.1 hC.2.1 hd (k p e R s m args below meth c H locs cells slots ls hC h1 h2 hR hS hl)
theorem aw_iand {x y : Int32} (hd : decode mi.2.1 pc = .ok (.iand, 1))  (k : AW G mi dp kc ks (pc + 1) lv (.int (x &&& y) :: rest) σ Q) : AW G mi dp kc ks pc lv (.int y :: .int x :: rest) σ Q := by
  intro p e R s m args below meth c H locs cells slots ls hC h1 h2 hR hS hl
  exact lv_iand hC.1 hC.2.1 hd (k p e R s m args below meth c H locs cells slots ls hC h1 h2 hR hS hl)
theorem aw_ior {x y : Int32} (hd : decode mi.2.1 pc = .ok (.ior, 1))  (k : AW G mi dp kc ks (pc + 1) lv (.int (x ||| y) :: rest) σ Q) : AW G mi dp kc ks pc lv (.int y :: .int x :: rest) σ Q := by
  intro p e R s m args below meth c H locs cells slots ls hC h1 h2 hR hS hl
  exact lv_ior hC.1 hC.2.1 hd (k p e R s m args below meth c H locs cells slots ls hC h1 h2 hR hS hl)
theorem aw_ixor {x y : Int32} (hd : decode mi.2.1 pc = .ok (.ixor, 1))  (k : AW G mi dp kc ks (pc + 1) lv (.int (x ^^^ y) :: rest) σ Q) : AW G mi dp kc ks pc lv (.int y :: .int x :: rest) σ Q := by
  intro p e R s m args below meth c H locs cells slots ls hC h1 h2 hR hS hl
  exact lv_ixor hC.1 hC.2.1 hd (k p e R s m args below meth c H locs cells slots ls hC h1 h2 hR hS hl)
theorem aw_ishl {x y : Int32} (hd : decode mi.2.1 pc = .ok (.ishl, 1))  (k : AW G mi dp kc ks (pc + 1) lv (.int (x <<< (y &&& 31)) :: rest) σ Q) : AW G mi dp kc ks pc lv (.int y :: .int x :: rest) σ Q := by
  intro p e R s m args below meth c H locs cells slots ls hC h1 h2 hR hS hl
  exact lv_ishl hC.1 hC.2.1 hd (k p e R s m args below meth c H locs cells slots ls hC h1 h2 hR hS hl)
theorem aw_ishr {x y : Int32} (hd : decode mi.2.1 pc = .ok (.ishr, 1))  (k : AW G mi dp kc ks (pc + 1) lv (.int (x >>> (y &&& 31)) :: rest) σ Q) : AW G mi dp kc ks pc lv (.int y :: .int x :: rest) σ Q := by
  intro p e R s m args below meth c H locs cells slots ls hC h1 h2 hR hS hl
  exact lv_ishr hC.1 hC.2.1 hd (k p e R s m args below meth c H locs cells slots ls hC h1 h2 hR hS hl)
theorem aw_ladd {x y : Int64} (hd : decode mi.2.1 pc = .ok (.ladd, 1))  (k : AW G mi dp kc ks (pc + 1) lv (.long (x + y) :: rest) σ Q) : AW G mi dp kc ks pc lv (.long y :: .long x :: rest) σ Q := by
  intro p e R s m args below meth c H locs cells slots ls hC h1 h2 hR hS hl
  exact lv_ladd hC.1 hC.2.1 hd (k p e R s m args below meth c H locs cells slots ls hC h1 h2 hR hS hl)
theorem aw_lsub {x y : Int64} (hd : decode mi.2.1 pc = .ok (.lsub, 1))  (k : AW G mi dp kc ks (pc + 1) lv (.long (x - y) :: rest) σ Q) : AW G mi dp kc ks pc lv (.long y :: .long x :: rest) σ Q := by
  intro p e R s m args below meth c H locs cells slots ls hC h1 h2 hR hS hl
  exact lv_lsub hC.1 hC.2.1 hd (k p e R s m args below meth c H locs cells slots ls hC h1 h2 hR hS hl)
theorem aw_lmul {x y : Int64} (hd : decode mi.2.1 pc = .ok (.lmul, 1))  (k : AW G mi dp kc ks (pc + 1) lv (.long (x * y) :: rest) σ Q) : AW G mi dp kc ks pc lv (.long y :: .long x :: rest) σ Q := by
  intro p e R s m args below meth c H locs cells slots ls hC h1 h2 hR hS hl
  exact lv_lmul hC.1 hC.2.1 hd (k p e R s m args below meth c H locs cells slots ls hC h1 h2 hR hS hl)
theorem aw_idiv {x y : Int32} (hd : decode mi.2.1 pc = .ok (.idiv, 1)) (hne : ¬ y = 0) (k : AW G mi dp kc ks (pc + 1) lv (.int (x / y) :: rest) σ Q) : AW G mi dp kc ks pc lv (.int y :: .int x :: rest) σ Q := by
  intro p e R s m args below meth c H locs cells slots ls hC h1 h2 hR hS hl
  exact lv_idiv hC.1 hC.2.1 hd hne (k p e R s m args below meth c H locs cells slots ls hC h1 h2 hR hS hl)
theorem aw_irem {x y : Int32} (hd : decode mi.2.1 pc = .ok (.irem, 1)) (hne : ¬ y = 0) (k : AW G mi dp kc ks (pc + 1) lv (.int (x - x / y * y) :: rest) σ Q) : AW G mi dp kc ks pc lv (.int y :: .int x :: rest) σ Q := by
  intro p e R s m args below meth c H locs cells slots ls hC h1 h2 hR hS hl
  exact lv_irem hC.1 hC.2.1 hd hne (k p e R s m args below meth c H locs cells slots ls hC h1 h2 hR hS hl)
theorem aw_ldiv {x y : Int64} (hd : decode mi.2.1 pc = .ok (.ldiv, 1)) (hne : ¬ y = 0) (k : AW G mi dp kc ks (pc + 1) lv (.long (x / y) :: rest) σ Q) : AW G mi dp kc ks pc lv (.long y :: .long x :: rest) σ Q := by
  intro p e R s m args below meth c H locs cells slots ls hC h1 h2 hR hS hl
  exact lv_ldiv hC.1 hC.2.1 hd hne (k p e R s m args below meth c H locs cells slots ls hC h1 h2 hR hS hl)
theorem aw_ineg {x : Int32} (hd : decode mi.2.1 pc = .ok (.ineg, 1))  (k : AW G mi dp kc ks (pc + 1) lv (.int (-x) :: rest) σ Q) : AW G mi dp kc ks pc lv (.int x :: rest) σ Q := by
  intro p e R s m args below meth c H locs cells slots ls hC h1 h2 hR hS hl
  exact lv_ineg hC.1 hC.2.1 hd (k p e R s m args below meth c H locs cells slots ls hC h1 h2 hR hS hl)
theorem aw_lneg {x : Int64} (hd : decode mi.2.1 pc = .ok (.lneg, 1))  (k : AW G mi dp kc ks (pc + 1) lv (.long (-x) :: rest) σ Q) : AW G mi dp kc ks pc lv (.long x :: rest) σ Q := by
  intro p e R s m args below meth c H locs cells slots ls hC h1 h2 hR hS hl
  exact lv_lneg hC.1 hC.2.1 hd (k p e R s m args below meth c H locs cells slots ls hC h1 h2 hR hS hl)
theorem aw_iushr {x y : Int32} (hd : decode mi.2.1 pc = .ok (.iushr, 1))  (k : AW G mi dp kc ks (pc + 1) lv (.int ((x.toUInt32 >>> (y.toUInt32 &&& Int32.toUInt32 31)).toInt32) :: rest) σ Q) : AW G mi dp kc ks pc lv (.int y :: .int x :: rest) σ Q := by
  intro p e R s m args below meth c H locs cells slots ls hC h1 h2 hR hS hl
  exact lv_iushr hC.1 hC.2.1 hd rfl (k p e R s m args below meth c H locs cells slots ls hC h1 h2 hR hS hl)
theorem aw_lshl {x : Int64} {y : Int32} (hd : decode mi.2.1 pc = .ok (.lshl, 1))  (k : AW G mi dp kc ks (pc + 1) lv (.long (x <<< (y.toInt64 &&& 63)) :: rest) σ Q) : AW G mi dp kc ks pc lv (.int y :: .long x :: rest) σ Q := by
  intro p e R s m args below meth c H locs cells slots ls hC h1 h2 hR hS hl
  exact lv_lshl hC.1 hC.2.1 hd rfl (k p e R s m args below meth c H locs cells slots ls hC h1 h2 hR hS hl)
theorem aw_lshr {x : Int64} {y : Int32} (hd : decode mi.2.1 pc = .ok (.lshr, 1))  (k : AW G mi dp kc ks (pc + 1) lv (.long (x >>> (y.toInt64 &&& 63)) :: rest) σ Q) : AW G mi dp kc ks pc lv (.int y :: .long x :: rest) σ Q := by
  intro p e R s m args below meth c H locs cells slots ls hC h1 h2 hR hS hl
  exact lv_lshr hC.1 hC.2.1 hd rfl (k p e R s m args below meth c H locs cells slots ls hC h1 h2 hR hS hl)
theorem aw_i2l {x : Int32} (hd : decode mi.2.1 pc = .ok (.i2l, 1))  (k : AW G mi dp kc ks (pc + 1) lv (.long x.toInt64 :: rest) σ Q) : AW G mi dp kc ks pc lv (.int x :: rest) σ Q := by
  intro p e R s m args below meth c H locs cells slots ls hC h1 h2 hR hS hl
  exact lv_i2l hC.1 hC.2.1 hd rfl (k p e R s m args below meth c H locs cells slots ls hC h1 h2 hR hS hl)
theorem aw_l2i {x : Int64} (hd : decode mi.2.1 pc = .ok (.l2i, 1))  (k : AW G mi dp kc ks (pc + 1) lv (.int x.toInt32 :: rest) σ Q) : AW G mi dp kc ks pc lv (.long x :: rest) σ Q := by
  intro p e R s m args below meth c H locs cells slots ls hC h1 h2 hR hS hl
  exact lv_l2i hC.1 hC.2.1 hd rfl (k p e R s m args below meth c H locs cells slots ls hC h1 h2 hR hS hl)
theorem aw_i2b {x : Int32} (hd : decode mi.2.1 pc = .ok (.i2b, 1))  (k : AW G mi dp kc ks (pc + 1) lv (.int x.toInt8.toInt32 :: rest) σ Q) : AW G mi dp kc ks pc lv (.int x :: rest) σ Q := by
  intro p e R s m args below meth c H locs cells slots ls hC h1 h2 hR hS hl
  exact lv_i2b hC.1 hC.2.1 hd rfl (k p e R s m args below meth c H locs cells slots ls hC h1 h2 hR hS hl)
theorem aw_dup {v : Value} (hd : decode mi.2.1 pc = .ok (.dup, 1)) (hv : v.category = 1) (k : AW G mi dp kc ks (pc + 1) lv (v :: v :: rest) σ Q) : AW G mi dp kc ks pc lv (v :: rest) σ Q := by
  intro p e R s m args below meth c H locs cells slots ls hC h1 h2 hR hS hl
  exact lv_dup hC.1 hC.2.1 hd ((ah_up_cat G v).trans hv) (k p e R s m args below meth c H locs cells slots ls hC h1 h2 hR hS hl)
theorem aw_pop {v : Value} (hd : decode mi.2.1 pc = .ok (.pop, 1)) (hv : v.category = 1) (k : AW G mi dp kc ks (pc + 1) lv (rest) σ Q) : AW G mi dp kc ks pc lv (v :: rest) σ Q := by
  intro p e R s m args below meth c H locs cells slots ls hC h1 h2 hR hS hl
  exact lv_pop hC.1 hC.2.1 hd ((ah_up_cat G v).trans hv) (k p e R s m args below meth c H locs cells slots ls hC h1 h2 hR hS hl)
theorem aw_dup2 {v w : Value} (hd : decode mi.2.1 pc = .ok (.dup2, 1)) (hv : v.category = 1) (hw : w.category = 1) (k : AW G mi dp kc ks (pc + 1) lv (v :: w :: v :: w :: rest) σ Q) : AW G mi dp kc ks pc lv (v :: w :: rest) σ Q := by
  intro p e R s m args below meth c H locs cells slots ls hC h1 h2 hR hS hl
  exact lv_dup2_11 hC.1 hC.2.1 hd ((ah_up_cat G v).trans hv) ((ah_up_cat G w).trans hw) (k p e R s m args below meth c H locs cells slots ls hC h1 h2 hR hS hl)
theorem aw_lcmp {x y : Int64} (hd : decode mi.2.1 pc = .ok (.lcmp, 1))  (k : AW G mi dp kc ks (pc + 1) lv (.int (lg_cmp x y) :: rest) σ Q) : AW G mi dp kc ks pc lv (.long y :: .long x :: rest) σ Q := by
  intro p e R s m args below meth c H locs cells slots ls hC h1 h2 hR hS hl
  exact W.lcmp hC.1 hC.2.1 hd (k p e R s m args below meth c H locs cells slots ls hC h1 h2 hR hS hl)
theorem aw_ldc {index : Nat} {v : Int32} (hd : decode mi.2.1 pc = .ok (.ldc index, 2)) (hw : Cond.constant mi.1.cls index v ∈ ah_TW) (k : AW G mi dp kc ks (pc + 2) lv (.int v :: rest) σ Q) : AW G mi dp kc ks pc lv rest σ Q := by
  intro p e R s m args below meth c H locs cells slots ls hC h1 h2 hR hS hl
  exact lv_ldc hC.1 hC.2.1 hC.2.2.2.1 (hC.2.2.2.2.1 _ hw) hd (k p e R s m args below meth c H locs cells slots ls hC h1 h2 hR hS hl)
theorem aw_ldcw {index : Nat} {v : Int32} (hd : decode mi.2.1 pc = .ok (.ldc_w index, 3)) (hw : Cond.constant mi.1.cls index v ∈ ah_TW) (k : AW G mi dp kc ks (pc + 3) lv (.int v :: rest) σ Q) : AW G mi dp kc ks pc lv rest σ Q := by
  intro p e R s m args below meth c H locs cells slots ls hC h1 h2 hR hS hl
  exact lv_ldcw hC.1 hC.2.1 hC.2.2.2.1 (hC.2.2.2.2.1 _ hw) hd (k p e R s m args below meth c H locs cells slots ls hC h1 h2 hR hS hl)
theorem aw_ldc2 {index : Nat} {v : Int64} (hd : decode mi.2.1 pc = .ok (.ldc2_w index, 3)) (hw : Cond.constantLong mi.1.cls index v ∈ ah_TW) (k : AW G mi dp kc ks (pc + 3) lv (.long v :: rest) σ Q) : AW G mi dp kc ks pc lv rest σ Q := by
  intro p e R s m args below meth c H locs cells slots ls hC h1 h2 hR hS hl
  exact lv_ldc2 hC.1 hC.2.1 hC.2.2.2.1 (hC.2.2.2.2.1 _ hw) hd (k p e R s m args below meth c H locs cells slots ls hC h1 h2 hR hS hl)
theorem aw_if_eq {x : Int32} {off : Int} (tgt : Nat) (hd : decode mi.2.1 pc = .ok (.ifCond .eq off, 3)) (ht : (pc : Int) + off = (tgt : Int)) (kt : x = 0 → AW G mi dp kc ks tgt lv rest σ Q) (kf : ¬ x = 0 → AW G mi dp kc ks (pc + 3) lv rest σ Q) : AW G mi dp kc ks pc lv (.int x :: rest) σ Q := by
  intro p e R s m args below meth c H locs cells slots ls hC h1 h2 hR hS hl
  exact lv_if_eq hC.1 hC.2.1 hd ht (fun z => kt z p e R s m args below meth c H locs cells slots ls hC h1 h2 hR hS hl) (fun z => kf z p e R s m args below meth c H locs cells slots ls hC h1 h2 hR hS hl)
theorem aw_icmp_eq {x y : Int32} {off : Int} (tgt : Nat) (hd : decode mi.2.1 pc = .ok (.if_icmp .eq off, 3)) (ht : (pc : Int) + off = (tgt : Int)) (kt : x = y → AW G mi dp kc ks tgt lv rest σ Q) (kf : ¬ x = y → AW G mi dp kc ks (pc + 3) lv rest σ Q) : AW G mi dp kc ks pc lv (.int y :: .int x :: rest) σ Q := by
  intro p e R s m args below meth c H locs cells slots ls hC h1 h2 hR hS hl
  exact lv_icmp_eq hC.1 hC.2.1 hd ht (fun z => kt z p e R s m args below meth c H locs cells slots ls hC h1 h2 hR hS hl) (fun z => kf z p e R s m args below meth c H locs cells slots ls hC h1 h2 hR hS hl)
theorem aw_if_ne {x : Int32} {off : Int} (tgt : Nat) (hd : decode mi.2.1 pc = .ok (.ifCond .ne off, 3)) (ht : (pc : Int) + off = (tgt : Int)) (kt : ¬ x = 0 → AW G mi dp kc ks tgt lv rest σ Q) (kf : x = 0 → AW G mi dp kc ks (pc + 3) lv rest σ Q) : AW G mi dp kc ks pc lv (.int x :: rest) σ Q := by
  intro p e R s m args below meth c H locs cells slots ls hC h1 h2 hR hS hl
  exact lv_if_ne hC.1 hC.2.1 hd ht (fun z => kt z p e R s m args below meth c H locs cells slots ls hC h1 h2 hR hS hl) (fun z => kf z p e R s m args below meth c H locs cells slots ls hC h1 h2 hR hS hl)
theorem aw_icmp_ne {x y : Int32} {off : Int} (tgt : Nat) (hd : decode mi.2.1 pc = .ok (.if_icmp .ne off, 3)) (ht : (pc : Int) + off = (tgt : Int)) (kt : ¬ x = y → AW G mi dp kc ks tgt lv rest σ Q) (kf : x = y → AW G mi dp kc ks (pc + 3) lv rest σ Q) : AW G mi dp kc ks pc lv (.int y :: .int x :: rest) σ Q := by
  intro p e R s m args below meth c H locs cells slots ls hC h1 h2 hR hS hl
  exact lv_icmp_ne hC.1 hC.2.1 hd ht (fun z => kt z p e R s m args below meth c H locs cells slots ls hC h1 h2 hR hS hl) (fun z => kf z p e R s m args below meth c H locs cells slots ls hC h1 h2 hR hS hl)
theorem aw_if_lt {x : Int32} {off : Int} (tgt : Nat) (hd : decode mi.2.1 pc = .ok (.ifCond .lt off, 3)) (ht : (pc : Int) + off = (tgt : Int)) (kt : x < 0 → AW G mi dp kc ks tgt lv rest σ Q) (kf : ¬ x < 0 → AW G mi dp kc ks (pc + 3) lv rest σ Q) : AW G mi dp kc ks pc lv (.int x :: rest) σ Q := by
  intro p e R s m args below meth c H locs cells slots ls hC h1 h2 hR hS hl
  exact lv_if_lt hC.1 hC.2.1 hd ht (fun z => kt z p e R s m args below meth c H locs cells slots ls hC h1 h2 hR hS hl) (fun z => kf z p e R s m args below meth c H locs cells slots ls hC h1 h2 hR hS hl)
theorem aw_icmp_lt {x y : Int32} {off : Int} (tgt : Nat) (hd : decode mi.2.1 pc = .ok (.if_icmp .lt off, 3)) (ht : (pc : Int) + off = (tgt : Int)) (kt : x < y → AW G mi dp kc ks tgt lv rest σ Q) (kf : ¬ x < y → AW G mi dp kc ks (pc + 3) lv rest σ Q) : AW G mi dp kc ks pc lv (.int y :: .int x :: rest) σ Q := by
  intro p e R s m args below meth c H locs cells slots ls hC h1 h2 hR hS hl
  exact lv_icmp_lt hC.1 hC.2.1 hd ht (fun z => kt z p e R s m args below meth c H locs cells slots ls hC h1 h2 hR hS hl) (fun z => kf z p e R s m args below meth c H locs cells slots ls hC h1 h2 hR hS hl)
theorem aw_if_ge {x : Int32} {off : Int} (tgt : Nat) (hd : decode mi.2.1 pc = .ok (.ifCond .ge off, 3)) (ht : (pc : Int) + off = (tgt : Int)) (kt : 0 ≤ x → AW G mi dp kc ks tgt lv rest σ Q) (kf : ¬ 0 ≤ x → AW G mi dp kc ks (pc + 3) lv rest σ Q) : AW G mi dp kc ks pc lv (.int x :: rest) σ Q := by
  intro p e R s m args below meth c H locs cells slots ls hC h1 h2 hR hS hl
  exact lv_if_ge hC.1 hC.2.1 hd ht (fun z => kt z p e R s m args below meth c H locs cells slots ls hC h1 h2 hR hS hl) (fun z => kf z p e R s m args below meth c H locs cells slots ls hC h1 h2 hR hS hl)
theorem aw_icmp_ge {x y : Int32} {off : Int} (tgt : Nat) (hd : decode mi.2.1 pc = .ok (.if_icmp .ge off, 3)) (ht : (pc : Int) + off = (tgt : Int)) (kt : y ≤ x → AW G mi dp kc ks tgt lv rest σ Q) (kf : ¬ y ≤ x → AW G mi dp kc ks (pc + 3) lv rest σ Q) : AW G mi dp kc ks pc lv (.int y :: .int x :: rest) σ Q := by
  intro p e R s m args below meth c H locs cells slots ls hC h1 h2 hR hS hl
  exact lv_icmp_ge hC.1 hC.2.1 hd ht (fun z => kt z p e R s m args below meth c H locs cells slots ls hC h1 h2 hR hS hl) (fun z => kf z p e R s m args below meth c H locs cells slots ls hC h1 h2 hR hS hl)
theorem aw_if_gt {x : Int32} {off : Int} (tgt : Nat) (hd : decode mi.2.1 pc = .ok (.ifCond .gt off, 3)) (ht : (pc : Int) + off = (tgt : Int)) (kt : 0 < x → AW G mi dp kc ks tgt lv rest σ Q) (kf : ¬ 0 < x → AW G mi dp kc ks (pc + 3) lv rest σ Q) : AW G mi dp kc ks pc lv (.int x :: rest) σ Q := by
  intro p e R s m args below meth c H locs cells slots ls hC h1 h2 hR hS hl
  exact lv_if_gt hC.1 hC.2.1 hd ht (fun z => kt z p e R s m args below meth c H locs cells slots ls hC h1 h2 hR hS hl) (fun z => kf z p e R s m args below meth c H locs cells slots ls hC h1 h2 hR hS hl)
theorem aw_icmp_gt {x y : Int32} {off : Int} (tgt : Nat) (hd : decode mi.2.1 pc = .ok (.if_icmp .gt off, 3)) (ht : (pc : Int) + off = (tgt : Int)) (kt : y < x → AW G mi dp kc ks tgt lv rest σ Q) (kf : ¬ y < x → AW G mi dp kc ks (pc + 3) lv rest σ Q) : AW G mi dp kc ks pc lv (.int y :: .int x :: rest) σ Q := by
  intro p e R s m args below meth c H locs cells slots ls hC h1 h2 hR hS hl
  exact lv_icmp_gt hC.1 hC.2.1 hd ht (fun z => kt z p e R s m args below meth c H locs cells slots ls hC h1 h2 hR hS hl) (fun z => kf z p e R s m args below meth c H locs cells slots ls hC h1 h2 hR hS hl)
theorem aw_if_le {x : Int32} {off : Int} (tgt : Nat) (hd : decode mi.2.1 pc = .ok (.ifCond .le off, 3)) (ht : (pc : Int) + off = (tgt : Int)) (kt : x ≤ 0 → AW G mi dp kc ks tgt lv rest σ Q) (kf : ¬ x ≤ 0 → AW G mi dp kc ks (pc + 3) lv rest σ Q) : AW G mi dp kc ks pc lv (.int x :: rest) σ Q := by
  intro p e R s m args below meth c H locs cells slots ls hC h1 h2 hR hS hl
  exact lv_if_le hC.1 hC.2.1 hd ht (fun z => kt z p e R s m args below meth c H locs cells slots ls hC h1 h2 hR hS hl) (fun z => kf z p e R s m args below meth c H locs cells slots ls hC h1 h2 hR hS hl)
theorem aw_icmp_le {x y : Int32} {off : Int} (tgt : Nat) (hd : decode mi.2.1 pc = .ok (.if_icmp .le off, 3)) (ht : (pc : Int) + off = (tgt : Int)) (kt : x ≤ y → AW G mi dp kc ks tgt lv rest σ Q) (kf : ¬ x ≤ y → AW G mi dp kc ks (pc + 3) lv rest σ Q) : AW G mi dp kc ks pc lv (.int y :: .int x :: rest) σ Q := by
  intro p e R s m args below meth c H locs cells slots ls hC h1 h2 hR hS hl
  exact lv_icmp_le hC.1 hC.2.1 hd ht (fun z => kt z p e R s m args below meth c H locs cells slots ls hC h1 h2 hR hS hl) (fun z => kf z p e R s m args below meth c H locs cells slots ls hC h1 h2 hR hS hl)
theorem aw_goto {off : Int} (tgt : Nat) (hd : decode mi.2.1 pc = .ok (.goto off, 3)) (ht : (pc : Int) + off = (tgt : Int)) (k : AW G mi dp kc ks tgt lv rest σ Q) : AW G mi dp kc ks pc lv rest σ Q := by
  intro p e R s m args below meth c H locs cells slots ls hC h1 h2 hR hS hl
  exact lv_goto hC.1 hC.2.1 hd ht (k p e R s m args below meth c H locs cells slots ls hC h1 h2 hR hS hl)
theorem aw_tableIn {dflt lo hi : Int} {offs : Array Int} {len : Nat} {x : Int32} {off : Int} (tgt : Nat) (hd : decode mi.2.1 pc = .ok (.tableswitch dflt lo hi offs, len)) (h3 : ¬ x.toInt < lo) (h4 : ¬ hi < x.toInt) (ho : offs[(x.toInt - lo).toNat]? = some off) (ht : (pc : Int) + off = (tgt : Int)) (k : AW G mi dp kc ks tgt lv rest σ Q) : AW G mi dp kc ks pc lv (.int x :: rest) σ Q := by
  intro p e R s m args below meth c H locs cells slots ls hC h1 h2 hR hS hl
  exact lv_tableIn hC.1 hC.2.1 hd h3 h4 ho ht (k p e R s m args below meth c H locs cells slots ls hC h1 h2 hR hS hl)
theorem aw_tableOut {dflt lo hi : Int} {offs : Array Int} {len : Nat} {x : Int32} (tgt : Nat) (hd : decode mi.2.1 pc = .ok (.tableswitch dflt lo hi offs, len)) (h3 : x.toInt < lo ∨ hi < x.toInt) (ht : (pc : Int) + dflt = (tgt : Int)) (k : AW G mi dp kc ks tgt lv rest σ Q) : AW G mi dp kc ks pc lv (.int x :: rest) σ Q := by
  intro p e R s m args below meth c H locs cells slots ls hC h1 h2 hR hS hl
  exact lv_tableOut hC.1 hC.2.1 hd h3 ht (k p e R s m args below meth c H locs cells slots ls hC h1 h2 hR hS hl)
theorem aw_lookup {dflt : Int} {ps : Array (Int × Int)} {len : Nat} {x : Int32} {off : Int} (tgt : Nat) (hd : decode mi.2.1 pc = .ok (.lookupswitch dflt ps, len)) (hp : (ps.toList.zip (ps.toList.drop 1)).all (fun (a, next) => a.1 < next.1) = true) (ho : Op.lookupswitch.offset ps.toList dflt x.toInt = off) (ht : (pc : Int) + off = (tgt : Int)) (k : AW G mi dp kc ks tgt lv rest σ Q) : AW G mi dp kc ks pc lv (.int x :: rest) σ Q := by
  intro p e R s m args below meth c H locs cells slots ls hC h1 h2 hR hS hl
  exact lv_lookup hC.1 hC.2.1 hd hp ho ht (k p e R s m args below meth c H locs cells slots ls hC h1 h2 hR hS hl)
theorem aw_iret {Qn : Option Value → ah_H → Prop} {v : Int32} (hd : decode mi.2.1 pc = .ok (.ireturn, 1)) (hr : mi.2.2.2 = some .int)  (hq : Qn (some (.int v)) σ) : AW G mi dp kc ks pc lv [.int v] σ (ah_N G Qn) := by
  intro p e R s m args below meth c H locs cells slots ls hC h1 h2 hR hS hl
  refine W.widen (k := R.cells) (n := R.slots) (by omega) (by omega) ?_
  exact W.iret (Qc := ah_Q G Qn) (free := ah_A G) hC.1 hC.2.1 (hC.2.2.2.2.2.2.1.trans hr)  (fun t ht _ => ⟨_, σ, rfl, hq, by rw [ht]; exact hR, hS.F ht⟩) hS.2.2 hd hC.2.2.2.2.2.1.1
theorem aw_zret {Qn : Option Value → ah_H → Prop} {v : Int32} {ty : FieldType} (hd : decode mi.2.1 pc = .ok (.ireturn, 1)) (hr : mi.2.2.2 = some ty) (hn : narrow ty (.int v) = .int v) (hq : Qn (some (.int v)) σ) : AW G mi dp kc ks pc lv [.int v] σ (ah_N G Qn) := by
  intro p e R s m args below meth c H locs cells slots ls hC h1 h2 hR hS hl
  refine W.widen (k := R.cells) (n := R.slots) (by omega) (by omega) ?_
  exact W.zret (Qc := ah_Q G Qn) (free := ah_A G) hC.1 hC.2.1 (hC.2.2.2.2.2.2.1.trans hr) hn (fun t ht _ => ⟨_, σ, rfl, hq, by rw [ht]; exact hR, hS.F ht⟩) hS.2.2 hd hC.2.2.2.2.2.1.1
theorem aw_lret {Qn : Option Value → ah_H → Prop} {v : Int64} (hd : decode mi.2.1 pc = .ok (.lreturn, 1)) (hr : mi.2.2.2 = some .long)  (hq : Qn (some (.long v)) σ) : AW G mi dp kc ks pc lv [.long v] σ (ah_N G Qn) := by
  intro p e R s m args below meth c H locs cells slots ls hC h1 h2 hR hS hl
  refine W.widen (k := R.cells) (n := R.slots) (by omega) (by omega) ?_
  exact W.lret (Qc := ah_Q G Qn) (free := ah_A G) hC.1 hC.2.1 (hC.2.2.2.2.2.2.1.trans hr)  (fun t ht _ => ⟨_, σ, rfl, hq, by rw [ht]; exact hR, hS.F ht⟩) hS.2.2 hd hC.2.2.2.2.2.1.1
theorem aw_vret {Qn : Option Value → ah_H → Prop}  (hd : decode mi.2.1 pc = .ok (.return_, 1)) (hr : mi.2.2.2 = none)  (hq : Qn none σ) : AW G mi dp kc ks pc lv [] σ (ah_N G Qn) := by
  intro p e R s m args below meth c H locs cells slots ls hC h1 h2 hR hS hl
  refine W.widen (k := R.cells) (n := R.slots) (by omega) (by omega) ?_
  exact W.vret (Qc := ah_Q G Qn) (free := ah_A G) hC.1 hC.2.1 (hC.2.2.2.2.2.2.1.trans hr)  (fun t ht _ => ⟨_, σ, rfl, hq, by rw [ht]; exact hR, hS.F ht⟩) hS.2.2 hd hC.2.2.2.2.2.1.1
end
