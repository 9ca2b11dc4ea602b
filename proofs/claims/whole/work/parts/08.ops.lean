/-! OPERATIONS ON THE ABSTRACT HEAP, as the mirrors use them; none: the machine would throw (or a type is wrong) -/
def op_ck {α : Type} (ci : Nat) (σ : ah_H) (a : Nat) (k : Option α) : Option α := if (ah_S σ)[a]? = some (.inr ci) then k else none
def op_gI (ci j : Nat) (σ : ah_H) (a : Nat) : Option Int32 := if (ah_S σ)[a]? = some (.inr ci) then some (ah_I σ a j) else none
def op_gL (ci j : Nat) (σ : ah_H) (a : Nat) : Option Int64 := if (ah_S σ)[a]? = some (.inr ci) then some (ah_L σ a j) else none
def op_gR (ci j : Nat) (σ : ah_H) (a : Nat) : Option Nat := if (ah_S σ)[a]? = some (.inr ci) then ah_R σ a j else none
def op_pI (ci j : Nat) (σ : ah_H) (a : Nat) (x : Int32) : Option ah_H := if (ah_S σ)[a]? = some (.inr ci) then some (ah_wI σ a j x) else none
def op_pZ (ci j : Nat) (σ : ah_H) (a : Nat) (x : Int32) : Option ah_H := if (ah_S σ)[a]? = some (.inr ci) then (if x = 0 ∨ x = 1 then some (ah_wI σ a j x) else none) else none
def op_pL (ci j : Nat) (σ : ah_H) (a : Nat) (x : Int64) : Option ah_H := if (ah_S σ)[a]? = some (.inr ci) then some (ah_wL σ a j x) else none
def op_pR (ci j : Nat) (σ : ah_H) (a b : Nat) : Option ah_H := if (ah_S σ)[a]? = some (.inr ci) then some (ah_wR σ a j (some b)) else none
def op_ty (t u : FieldType) (n : Nat) : Option Nat := if t = u then some n else none
def op_len (ty : FieldType) (σ : ah_H) (r : Nat) : Option Nat := match (ah_S σ)[r]? with
  | some (.inl q) => op_ty q.1 ty q.2
  | _ => none
def op_ix (i : Int32) (n : Nat) : Option Nat := if i < 0 ∨ n ≤ i.toNatClampNeg then none else some i.toNatClampNeg
def op_aI (σ : ah_H) (r : Nat) (i : Int32) : Option Int32 := (op_len .int σ r).bind fun n => (op_ix i n).map (ah_I σ r)
def op_aB (σ : ah_H) (r : Nat) (i : Int32) : Option Int32 := (op_len .byte σ r).bind fun n => (op_ix i n).map (ah_I σ r)
def op_aZ (σ : ah_H) (r : Nat) (i : Int32) : Option Int32 := (op_len .boolean σ r).bind fun n => (op_ix i n).map (ah_I σ r)
def op_aL (σ : ah_H) (r : Nat) (i : Int32) : Option Int64 := (op_len .long σ r).bind fun n => (op_ix i n).map (ah_L σ r)
def op_aR (ty : FieldType) (σ : ah_H) (r : Nat) (i : Int32) : Option Nat := (op_len (.array ty) σ r).bind fun n => (op_ix i n).bind (ah_R σ r)
def op_sI (σ : ah_H) (r : Nat) (i x : Int32) : Option ah_H := (op_len .int σ r).bind fun n => (op_ix i n).map fun q => ah_wI σ r q x
def op_sB (σ : ah_H) (r : Nat) (i x : Int32) : Option ah_H := (op_len .byte σ r).bind fun n => (op_ix i n).map fun q => ah_wI σ r q (vp_nar .byte x)
def op_sZ (σ : ah_H) (r : Nat) (i x : Int32) : Option ah_H := (op_len .boolean σ r).bind fun n => (op_ix i n).map fun q => ah_wI σ r q (vp_nar .boolean x)
def op_sL (σ : ah_H) (r : Nat) (i : Int32) (x : Int64) : Option ah_H := (op_len .long σ r).bind fun n => (op_ix i n).map fun q => ah_wL σ r q x
def op_rz (x : Int32) : Option Int32 := if x = 0 ∨ x = 1 then some x else none
def op_div (x y : Int32) : Option Int32 := if y = 0 then none else some (x / y)
def op_rem (x y : Int32) : Option Int32 := if y = 0 then none else some (x - x / y * y)
def op_ldiv (x y : Int64) : Option Int64 := if y = 0 then none else some (x / y)
theorem op_bd {α β : Type} {o : Option α} {f : α → Option β} {r : β} (h : o.bind f = some r) : ∃ x, o = some x ∧ f x = some r := by
  cases o with
  | none => cases h
  | some x => exact ⟨x, rfl, h⟩
theorem op_mp {α β : Type} {o : Option α} {f : α → β} {r : β} (h : o.map f = some r) : ∃ x, o = some x ∧ f x = r := by
  cases o with
  | none => cases h
  | some x => exact ⟨x, rfl, Option.some.inj h⟩
theorem op_if {α : Type} {c : Prop} {d : Decidable c} {o : Option α} {r : α} (h : (@ite _ c d o none) = some r) : c ∧ o = some r := by
  by_cases z : c
  · rw [if_pos z] at h; exact ⟨z, h⟩
  · rw [if_neg z] at h; cases h
theorem op_fi {α : Type} {c : Prop} {d : Decidable c} {o : Option α} {r : α} (h : (@ite _ c d none o) = some r) : ¬ c ∧ o = some r := by
  by_cases z : c
  · rw [if_pos z] at h; cases h
  · rw [if_neg z] at h; exact ⟨z, h⟩
theorem op_ck_sh {α : Type} {ci : Nat} {σ : ah_H} {a : Nat} {k : Option α} {r : α} (h : op_ck ci σ a k = some r) : (ah_S σ)[a]? = some (.inr ci) := (op_if h).1
theorem op_ck_k {α : Type} {ci : Nat} {σ : ah_H} {a : Nat} {k : Option α} {r : α} (h : op_ck ci σ a k = some r) : k = some r := (op_if h).2
theorem op_len_sh {ty : FieldType} {σ : ah_H} {r n : Nat} (h : op_len ty σ r = some n) : (ah_S σ)[r]? = some (.inl (ty, n)) := by
  unfold op_len at h
  split at h
  · next q hq =>
    obtain ⟨h1, h2⟩ := op_if h
    rw [hq, ← h1, ← Option.some.inj h2]
  · cases h
theorem op_ix_in {i : Int32} {n q : Nat} (h : op_ix i n = some q) : vp_in i n ∧ q = i.toNatClampNeg := by
  obtain ⟨h1, h2⟩ := op_fi h
  exact ⟨h1, (Option.some.inj h2).symm⟩
theorem op_a {α : Type} {ty : FieldType} {σ : ah_H} {r : Nat} {i : Int32} {f : Nat → α} {v : α} (h : ((op_len ty σ r).bind fun n => (op_ix i n).map f) = some v) : ∃ n, (ah_S σ)[r]? = some (.inl (ty, n)) ∧ vp_in i n ∧ v = f i.toNatClampNeg := by
  obtain ⟨n, h1, h2⟩ := op_bd h
  obtain ⟨q, h3, h4⟩ := op_mp h2
  obtain ⟨h5, h6⟩ := op_ix_in h3
  exact ⟨n, op_len_sh h1, h5, by rw [← h4, h6]⟩
def ah_ri (r : Int32 × ah_H) : Option Value → ah_H → Prop := fun v τ => v = some (.int r.1) ∧ τ = r.2
def ah_rl (r : Int64 × ah_H) : Option Value → ah_H → Prop := fun v τ => v = some (.long r.1) ∧ τ = r.2
def ah_rv (r : ah_H) : Option Value → ah_H → Prop := fun v τ => v = none ∧ τ = r
section
variable {G : ah_G} {mi mi' : ah_M} {dp kc ks pc : Nat} {lv : List (Nat × Value)} {rest : List Value} {σ : ah_H} {Q : ah_Z}
theorem ow_gI {a idx ci j : Nat} {ty : FieldType} {fl : Bool} {v : Int32} (h : op_gI ci j σ a = some v) (hd : decode mi.2.1 pc = .ok (.getfield idx, 3)) (hf : ah_Fd mi.1.cls idx ci j ty fl) (hi : ah_int ty = true) (k : AW G mi dp kc ks (pc + 3) lv (.int v :: rest) σ Q) : AW G mi dp kc ks pc lv (.ref a :: rest) σ Q := by
  obtain ⟨h1, h2⟩ := op_if h
  cases h2
  exact aw_getI hd hf hi h1 k
theorem ow_gL {a idx ci j : Nat} {fl : Bool} {v : Int64} (h : op_gL ci j σ a = some v) (hd : decode mi.2.1 pc = .ok (.getfield idx, 3)) (hf : ah_Fd mi.1.cls idx ci j .long fl) (k : AW G mi dp kc ks (pc + 3) lv (.long v :: rest) σ Q) : AW G mi dp kc ks pc lv (.ref a :: rest) σ Q := by
  obtain ⟨h1, h2⟩ := op_if h
  cases h2
  exact aw_getL hd hf h1 k
theorem ow_gR {a idx ci j b : Nat} {ty : FieldType} {fl : Bool} (h : op_gR ci j σ a = some b) (hd : decode mi.2.1 pc = .ok (.getfield idx, 3)) (hf : ah_Fd mi.1.cls idx ci j ty fl) (hi : ah_ref ty = true) (k : AW G mi dp kc ks (pc + 3) lv (.ref b :: rest) σ Q) : AW G mi dp kc ks pc lv (.ref a :: rest) σ Q := by
  obtain ⟨h1, h2⟩ := op_if h
  exact aw_getR hd hf hi h1 h2 k
theorem ow_pI {a idx ci j : Nat} {x : Int32} {τ : ah_H} (h : op_pI ci j σ a x = some τ) (hd : decode mi.2.1 pc = .ok (.putfield idx, 3)) (hf : ah_Fd mi.1.cls idx ci j .int false) (k : AW G mi dp kc ks (pc + 3) lv rest τ Q) : AW G mi dp kc ks pc lv (.int x :: .ref a :: rest) σ Q := by
  obtain ⟨h1, h2⟩ := op_if h
  cases h2
  exact aw_putI hd hf rfl h1 ⟨rfl, rfl⟩ k
theorem ow_bz {x : Int32} (h : x = 0 ∨ x = 1) : narrow .boolean (.int x) = .int x ∧ fits .boolean (.int x) = true := by
  rcases h with rfl | rfl <;> exact ⟨by decide, by decide⟩
theorem ow_pZ {a idx ci j : Nat} {x : Int32} {τ : ah_H} (h : op_pZ ci j σ a x = some τ) (hd : decode mi.2.1 pc = .ok (.putfield idx, 3)) (hf : ah_Fd mi.1.cls idx ci j .boolean false) (k : AW G mi dp kc ks (pc + 3) lv rest τ Q) : AW G mi dp kc ks pc lv (.int x :: .ref a :: rest) σ Q := by
  obtain ⟨h1, h2⟩ := op_if h
  obtain ⟨h3, h4⟩ := op_if h2
  cases h4
  exact aw_putI hd hf rfl h1 (ow_bz h3) k
theorem ow_pL {a idx ci j : Nat} {x : Int64} {τ : ah_H} (h : op_pL ci j σ a x = some τ) (hd : decode mi.2.1 pc = .ok (.putfield idx, 3)) (hf : ah_Fd mi.1.cls idx ci j .long false) (k : AW G mi dp kc ks (pc + 3) lv rest τ Q) : AW G mi dp kc ks pc lv (.long x :: .ref a :: rest) σ Q := by
  obtain ⟨h1, h2⟩ := op_if h
  cases h2
  exact aw_putL hd hf h1 k
theorem ow_pR {a idx ci j b : Nat} {ty : FieldType} {τ : ah_H} (h : op_pR ci j σ a b = some τ) (hd : decode mi.2.1 pc = .ok (.putfield idx, 3)) (hf : ah_Fd mi.1.cls idx ci j ty false) (hi : ah_ref ty = true) (k : AW G mi dp kc ks (pc + 3) lv rest τ Q) : AW G mi dp kc ks pc lv (.ref b :: .ref a :: rest) σ Q := by
  obtain ⟨h1, h2⟩ := op_if h
  cases h2
  exact aw_putR hd hf hi (Or.inl rfl) h1 k
theorem ow_aI {r : Nat} {i v : Int32} (h : op_aI σ r i = some v) (hd : decode mi.2.1 pc = .ok (.iaload, 1)) (k : AW G mi dp kc ks (pc + 1) lv (.int v :: rest) σ Q) : AW G mi dp kc ks pc lv (.int i :: .ref r :: rest) σ Q := by
  obtain ⟨n, h1, h2, rfl⟩ := op_a h
  exact aw_iald hd h1 h2 k
theorem ow_aB {r : Nat} {i v : Int32} (h : op_aB σ r i = some v) (hd : decode mi.2.1 pc = .ok (.baload, 1)) (k : AW G mi dp kc ks (pc + 1) lv (.int v :: rest) σ Q) : AW G mi dp kc ks pc lv (.int i :: .ref r :: rest) σ Q := by
  obtain ⟨n, h1, h2, rfl⟩ := op_a h
  exact aw_bald hd h1 h2 k
theorem ow_aZ {r : Nat} {i v : Int32} (h : op_aZ σ r i = some v) (hd : decode mi.2.1 pc = .ok (.baload, 1)) (k : AW G mi dp kc ks (pc + 1) lv (.int v :: rest) σ Q) : AW G mi dp kc ks pc lv (.int i :: .ref r :: rest) σ Q := by
  obtain ⟨n, h1, h2, rfl⟩ := op_a h
  exact aw_zald hd h1 h2 k
theorem ow_aL {r : Nat} {i : Int32} {v : Int64} (h : op_aL σ r i = some v) (hd : decode mi.2.1 pc = .ok (.laload, 1)) (k : AW G mi dp kc ks (pc + 1) lv (.long v :: rest) σ Q) : AW G mi dp kc ks pc lv (.int i :: .ref r :: rest) σ Q := by
  obtain ⟨n, h1, h2, rfl⟩ := op_a h
  exact aw_lald hd h1 h2 k
theorem ow_aR {ty : FieldType} {r b : Nat} {i : Int32} (h : op_aR ty σ r i = some b) (hd : decode mi.2.1 pc = .ok (.aaload, 1)) (hm : FieldType.array ty ∈ ah_tl) (k : AW G mi dp kc ks (pc + 1) lv (.ref b :: rest) σ Q) : AW G mi dp kc ks pc lv (.int i :: .ref r :: rest) σ Q := by
  obtain ⟨n, h1, h2⟩ := op_bd h
  obtain ⟨q, h3, h4⟩ := op_bd h2
  obtain ⟨h5, rfl⟩ := op_ix_in h3
  exact aw_aald hd (op_len_sh h1) hm h5 h4 k
theorem ow_sI {r : Nat} {i x : Int32} {τ : ah_H} (h : op_sI σ r i x = some τ) (hd : decode mi.2.1 pc = .ok (.iastore, 1)) (k : AW G mi dp kc ks (pc + 1) lv rest τ Q) : AW G mi dp kc ks pc lv (.int x :: .int i :: .ref r :: rest) σ Q := by
  obtain ⟨n, h1, h2, rfl⟩ := op_a h
  exact aw_iast hd h1 h2 k
theorem ow_sB {r : Nat} {i x : Int32} {τ : ah_H} (h : op_sB σ r i x = some τ) (hd : decode mi.2.1 pc = .ok (.bastore, 1)) (k : AW G mi dp kc ks (pc + 1) lv rest τ Q) : AW G mi dp kc ks pc lv (.int x :: .int i :: .ref r :: rest) σ Q := by
  obtain ⟨n, h1, h2, rfl⟩ := op_a h
  exact aw_bast hd h1 h2 k
theorem ow_sZ {r : Nat} {i x : Int32} {τ : ah_H} (h : op_sZ σ r i x = some τ) (hd : decode mi.2.1 pc = .ok (.bastore, 1)) (k : AW G mi dp kc ks (pc + 1) lv rest τ Q) : AW G mi dp kc ks pc lv (.int x :: .int i :: .ref r :: rest) σ Q := by
  obtain ⟨n, h1, h2, rfl⟩ := op_a h
  exact aw_zast hd h1 h2 k
theorem ow_sL {r : Nat} {i : Int32} {x : Int64} {τ : ah_H} (h : op_sL σ r i x = some τ) (hd : decode mi.2.1 pc = .ok (.lastore, 1)) (k : AW G mi dp kc ks (pc + 1) lv rest τ Q) : AW G mi dp kc ks pc lv (.long x :: .int i :: .ref r :: rest) σ Q := by
  obtain ⟨n, h1, h2, rfl⟩ := op_a h
  exact aw_last hd h1 h2 k
theorem ow_div {x y v : Int32} (h : op_div x y = some v) (hd : decode mi.2.1 pc = .ok (.idiv, 1)) (k : AW G mi dp kc ks (pc + 1) lv (.int v :: rest) σ Q) : AW G mi dp kc ks pc lv (.int y :: .int x :: rest) σ Q := by
  obtain ⟨h1, h2⟩ := op_fi h
  cases h2
  exact aw_idiv hd h1 k
theorem ow_rem {x y v : Int32} (h : op_rem x y = some v) (hd : decode mi.2.1 pc = .ok (.irem, 1)) (k : AW G mi dp kc ks (pc + 1) lv (.int v :: rest) σ Q) : AW G mi dp kc ks pc lv (.int y :: .int x :: rest) σ Q := by
  obtain ⟨h1, h2⟩ := op_fi h
  cases h2
  exact aw_irem hd h1 k
theorem ow_ldiv {x y v : Int64} (h : op_ldiv x y = some v) (hd : decode mi.2.1 pc = .ok (.ldiv, 1)) (k : AW G mi dp kc ks (pc + 1) lv (.long v :: rest) σ Q) : AW G mi dp kc ks pc lv (.long y :: .long x :: rest) σ Q := by
  obtain ⟨h1, h2⟩ := op_fi h
  cases h2
  exact aw_ldiv hd h1 k
theorem ow_alen {ty : FieldType} {r n : Nat} (h : op_len ty σ r = some n) (hd : decode mi.2.1 pc = .ok (.arraylength, 1)) (hm : ty ∈ ah_tl) (k : AW G mi dp kc ks (pc + 1) lv (.int (Int32.ofNat n) :: rest) σ Q) : AW G mi dp kc ks pc lv (.ref r :: rest) σ Q := aw_alen hd (op_len_sh h) hm rfl k
theorem ow_iret {v : Int32} {r : Int32 × ah_H} (h : some (v, σ) = some r) (hd : decode mi.2.1 pc = .ok (.ireturn, 1)) (hr : mi.2.2.2 = some .int) : AW G mi dp kc ks pc lv [.int v] σ (ah_N G (ah_ri r)) := by
  cases h
  exact aw_iret hd hr ⟨rfl, rfl⟩
theorem ow_zret {v : Int32} {r : Int32 × ah_H} (h : ((op_rz v).map fun q => (q, σ)) = some r) (hd : decode mi.2.1 pc = .ok (.ireturn, 1)) (hr : mi.2.2.2 = some .boolean) : AW G mi dp kc ks pc lv [.int v] σ (ah_N G (ah_ri r)) := by
  obtain ⟨q, h1, h2⟩ := op_mp h
  obtain ⟨h3, h4⟩ := op_if h1
  cases h4
  cases h2
  exact aw_zret hd hr (ow_bz h3).1 ⟨rfl, rfl⟩
theorem ow_lret {v : Int64} {r : Int64 × ah_H} (h : some (v, σ) = some r) (hd : decode mi.2.1 pc = .ok (.lreturn, 1)) (hr : mi.2.2.2 = some .long) : AW G mi dp kc ks pc lv [.long v] σ (ah_N G (ah_rl r)) := by
  cases h
  exact aw_lret hd hr ⟨rfl, rfl⟩
theorem ow_vret {r : ah_H} (h : some σ = some r) (hd : decode mi.2.1 pc = .ok (.return_, 1)) (hr : mi.2.2.2 = none) : AW G mi dp kc ks pc lv [] σ (ah_N G (ah_rv r)) := by
  cases h
  exact aw_vret hd hr ⟨rfl, rfl⟩
theorem ow_cVi {idx ci n b : Nat} {st : List Value} {r : Int32 × ah_H} (As : List Value) (hM : AM G mi' dp 0 0 (.ref b :: As) σ (ah_ri r)) (hs : (ah_S σ)[b]? = some (.inr ci)) (hst : st = As.reverse ++ .ref b :: rest) (hd : decode mi.2.1 pc = .ok (.invokevirtual idx, 3)) (hw : ah_Cv mi.1.cls idx ci mi' n) (hn : As.length = n) (hr : (rest.map fun v => v.category).sum ≤ 8) (k : AW G mi (dp + 1) 0 0 (pc + 3) lv (.int r.1 :: rest) r.2 Q) : AW G mi (dp + 1) 0 0 pc lv st σ Q := by
  subst hst
  exact aw_callV (ka := 0) (kb := 0) (kc := 0) (ks := 0) As hd hw hs hn hr hM (fun v τ q => by obtain ⟨rfl, rfl⟩ := q; exact k)
theorem ow_cVl {idx ci n b : Nat} {st : List Value} {r : Int64 × ah_H} (As : List Value) (hM : AM G mi' dp 0 0 (.ref b :: As) σ (ah_rl r)) (hs : (ah_S σ)[b]? = some (.inr ci)) (hst : st = As.reverse ++ .ref b :: rest) (hd : decode mi.2.1 pc = .ok (.invokevirtual idx, 3)) (hw : ah_Cv mi.1.cls idx ci mi' n) (hn : As.length = n) (hr : (rest.map fun v => v.category).sum ≤ 8) (k : AW G mi (dp + 1) 0 0 (pc + 3) lv (.long r.1 :: rest) r.2 Q) : AW G mi (dp + 1) 0 0 pc lv st σ Q := by
  subst hst
  exact aw_callV (ka := 0) (kb := 0) (kc := 0) (ks := 0) As hd hw hs hn hr hM (fun v τ q => by obtain ⟨rfl, rfl⟩ := q; exact k)
theorem ow_cVv {idx ci n b : Nat} {st : List Value} {r : ah_H} (As : List Value) (hM : AM G mi' dp 0 0 (.ref b :: As) σ (ah_rv r)) (hs : (ah_S σ)[b]? = some (.inr ci)) (hst : st = As.reverse ++ .ref b :: rest) (hd : decode mi.2.1 pc = .ok (.invokevirtual idx, 3)) (hw : ah_Cv mi.1.cls idx ci mi' n) (hn : As.length = n) (hr : (rest.map fun v => v.category).sum ≤ 8) (k : AW G mi (dp + 1) 0 0 (pc + 3) lv rest r Q) : AW G mi (dp + 1) 0 0 pc lv st σ Q := by
  subst hst
  exact aw_callV (ka := 0) (kb := 0) (kc := 0) (ks := 0) As hd hw hs hn hr hM (fun v τ q => by obtain ⟨rfl, rfl⟩ := q; exact k)
theorem ow_cSi {idx n : Nat} {st : List Value} {r : Int32 × ah_H} (As : List Value) (hM : AM G mi' dp 0 0 As σ (ah_ri r)) (hst : st = As.reverse ++ rest) (hd : decode mi.2.1 pc = .ok (.invokestatic idx, 3)) (hw : ah_Cs mi.1.cls idx mi' n) (hn : As.length = n) (hr : (rest.map fun v => v.category).sum ≤ 8) (k : AW G mi (dp + 1) 0 0 (pc + 3) lv (.int r.1 :: rest) r.2 Q) : AW G mi (dp + 1) 0 0 pc lv st σ Q := by
  subst hst
  exact aw_callS (ka := 0) (kb := 0) (kc := 0) (ks := 0) As hd hw hn hr hM (fun v τ q => by obtain ⟨rfl, rfl⟩ := q; exact k)
theorem ow_cSl {idx n : Nat} {st : List Value} {r : Int64 × ah_H} (As : List Value) (hM : AM G mi' dp 0 0 As σ (ah_rl r)) (hst : st = As.reverse ++ rest) (hd : decode mi.2.1 pc = .ok (.invokestatic idx, 3)) (hw : ah_Cs mi.1.cls idx mi' n) (hn : As.length = n) (hr : (rest.map fun v => v.category).sum ≤ 8) (k : AW G mi (dp + 1) 0 0 (pc + 3) lv (.long r.1 :: rest) r.2 Q) : AW G mi (dp + 1) 0 0 pc lv st σ Q := by
  subst hst
  exact aw_callS (ka := 0) (kb := 0) (kc := 0) (ks := 0) As hd hw hn hr hM (fun v τ q => by obtain ⟨rfl, rfl⟩ := q; exact k)
theorem ow_cSv {idx n : Nat} {st : List Value} {r : ah_H} (As : List Value) (hM : AM G mi' dp 0 0 As σ (ah_rv r)) (hst : st = As.reverse ++ rest) (hd : decode mi.2.1 pc = .ok (.invokestatic idx, 3)) (hw : ah_Cs mi.1.cls idx mi' n) (hn : As.length = n) (hr : (rest.map fun v => v.category).sum ≤ 8) (k : AW G mi (dp + 1) 0 0 (pc + 3) lv rest r Q) : AW G mi (dp + 1) 0 0 pc lv st σ Q := by
  subst hst
  exact aw_callS (ka := 0) (kb := 0) (kc := 0) (ks := 0) As hd hw hn hr hM (fun v τ q => by obtain ⟨rfl, rfl⟩ := q; exact k)
end
