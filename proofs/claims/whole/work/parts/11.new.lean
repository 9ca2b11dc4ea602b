/-! CELLS ARE MADE -/
def ah_ap (σ : ah_H) (shs : List ah_Sh) (r : Nat → Nat → Option Nat) : ah_H :=
  (fun b j => if (ah_S σ).length ≤ b then 0 else σ.1 b j, fun b j => if (ah_S σ).length ≤ b then 0 else σ.2.1 b j, fun b j => if (ah_S σ).length ≤ b then r b j else σ.2.2.1 b j, σ.2.2.2 ++ shs)
theorem ah_S_ap (σ : ah_H) (shs : List ah_Sh) (r : Nat → Nat → Option Nat) : ah_S (ah_ap σ shs r) = ah_S σ ++ shs := rfl
theorem ah_I_ap (σ : ah_H) (shs : List ah_Sh) (r : Nat → Nat → Option Nat) (b j : Nat) : ah_I (ah_ap σ shs r) b j = if (ah_S σ).length ≤ b then 0 else ah_I σ b j := rfl
theorem ah_L_ap (σ : ah_H) (shs : List ah_Sh) (r : Nat → Nat → Option Nat) (b j : Nat) : ah_L (ah_ap σ shs r) b j = if (ah_S σ).length ≤ b then 0 else ah_L σ b j := rfl
theorem ah_R_ap (σ : ah_H) (shs : List ah_Sh) (r : Nat → Nat → Option Nat) (b j : Nat) : ah_R (ah_ap σ shs r) b j = if (ah_S σ).length ≤ b then r b j else ah_R σ b j := rfl
theorem ah_val_ap {G : ah_G} {σ : ah_H} {shs : List ah_Sh} {r : Nat → Nat → Option Nat} {b j : Nat} {ty : FieldType} (h : b < (ah_S σ).length) : ah_val G (ah_ap σ shs r) b j ty = ah_val G σ b j ty := by
  have hn : ¬ (ah_S σ).length ≤ b := Nat.not_le.mpr h
  cases ty <;> simp only [ah_val, ah_I_ap, ah_L_ap, ah_R_ap, if_neg hn]
def ah_nf : FieldType → Bool
  | .float => false
  | .double => false
  | _ => true
theorem ah_val_new {G : ah_G} {σ : ah_H} {shs : List ah_Sh} {b j : Nat} {ty : FieldType} (h : (ah_S σ).length ≤ b) (hf : ah_nf ty = true) : ah_val G (ah_ap σ shs (fun _ _ => none)) b j ty = defaultValue ty := by
  cases ty <;> first | (cases hf; done) | (simp only [ah_val, ah_I_ap, ah_L_ap, ah_R_ap, if_pos h]; rfl)
theorem ah_at_arr {G : ah_G} {σ : ah_H} {a n : Nat} {H : Heap} {ty : FieldType} (h : ah_nf ty = true) (k : H[ah_rho G a]? = some (arrV (G.2.2.1 ty) n (fun j => ah_val G σ a j ty))) : ah_at G σ a H (.inl (ty, n)) := by cases ty <;> first | exact trivial | exact k
theorem ah_Rel.ap {G : ah_G} {σ : ah_H} {H H' : Heap} {shs : List ah_Sh} {r : Nat → Nat → Option Nat} (hex : ah_ex G) (h : ah_Rel G σ H) (hl : (ah_S σ).length + shs.length ≤ 1000000) (hz : H'.size = H.size + shs.length) (ho : ∀ q, q < H.size → H'[q]? = H[q]?) (hn : ∀ i sh, shs[i]? = some sh → ah_at G (ah_ap σ shs r) ((ah_S σ).length + i) H' sh) : ah_Rel G (ah_ap σ shs r) H' := by
  have hsz := h.1.2 hex
  refine ⟨⟨by rw [hz, hsz, ah_S_ap, List.length_append]; omega, fun _ => by rw [hz, hsz, ah_S_ap, List.length_append]; omega⟩, by rw [ah_S_ap, List.length_append]; exact hl, fun a sh ha => ?_, fun q hq => ?_⟩
  · rw [ah_S_ap] at ha
    by_cases hlt : a < (ah_S σ).length
    · rw [List.getElem?_append_left hlt] at ha
      have hr := h.rho ha
      exact (h.2.2.1 a sh ha).kept (fun j ty => ah_val_ap hlt) (ho _ (by rw [hr, hsz]; omega))
    · have hge : (ah_S σ).length ≤ a := Nat.not_lt.mp hlt
      rw [List.getElem?_append_right hge] at ha
      have := hn _ _ ha
      rwa [show (ah_S σ).length + (a - (ah_S σ).length) = a by omega] at this
  · rw [ho q (by rw [hsz]; omega)]
    exact h.2.2.2 q hq
def op_nwO (ci : Nat) (σ : ah_H) : Option (Nat × ah_H) := if (ah_S σ).length + 1 ≤ 1000000 then some ((ah_S σ).length, ah_ap σ [.inr ci] (fun _ _ => none)) else none
def op_nwA (ty : FieldType) (N : Nat) (σ : ah_H) : Option (Nat × ah_H) := if (ah_S σ).length + 1 ≤ 1000000 then some ((ah_S σ).length, ah_ap σ [.inl (ty, N)] (fun _ _ => none)) else none
def op_nwM (ty : FieldType) (N K : Nat) (σ : ah_H) : Option (Nat × ah_H) := if (ah_S σ).length + (N + 1) ≤ 1000000 then some ((ah_S σ).length, ah_ap σ (.inl (.array ty, N) :: List.replicate N (.inl (ty, K))) (fun b j => if b = (ah_S σ).length ∧ j < N then some ((ah_S σ).length + 1 + j) else none)) else none
theorem ah_nf_ty (c k : Nat) : ah_nf (ah_ty c k) = true := by
  unfold ah_ty
  split <;> first
    | (unfold tyX0; split <;> rfl) | (unfold tyX1; split <;> rfl) | (unfold tyX2; split <;> rfl) | (unfold tyX3; split <;> rfl) | (unfold tyX4; split <;> rfl) | (unfold tyX5; split <;> rfl) | (unfold tyX6; split <;> rfl) | (unfold tyX7; split <;> rfl) | (unfold tyX8; split <;> rfl) | (unfold tyX9; split <;> rfl) | (unfold tyX10; split <;> rfl) | (unfold tyX11; split <;> rfl) | (unfold tyX12; split <;> rfl)
theorem ah_rho_len {G : ah_G} {σ : ah_H} (h : (ah_S σ).length + 1 ≤ 1000000) : ah_rho G (ah_S σ).length = ah_hb G + (ah_S σ).length := by
  unfold ah_rho
  rw [if_pos (by omega)]
theorem va_S.grow {A : Nat → Prop} {H0 H H1 : Heap} {locs : List Loc} (h : va_S A H0 H locs) (hz : H.size ≤ H1.size) (ho : ∀ q, q < H.size → H1[q]? = H[q]?) : va_S A H0 H1 locs :=
  ⟨Nat.le_trans h.1 hz, fun q g1 g2 => by rw [ho q (Nat.lt_of_lt_of_le g1 h.1)]; exact h.2.1 q g1 g2, h.2.2⟩
theorem ah_outer (c : ClassId) (N h0 : Nat) : ∀ i : Nat, Jvm.Free.Multi.outerC c N h0 i = arrV c N (fun j => va_rf (if j < i then some (h0 + 1 + j) else none))
  | 0 => by
    show ({ cls := c, slots := Array.replicate N .null, vm := .none } : Cell) = _
    rw [arrV_new]
    refine congrArg (arrV c N) (funext fun j => ?_)
    simp [va_rf]
  | i + 1 => by
    show (Jvm.Free.Multi.outerC c N h0 i).setSlot i (.ref (h0 + 1 + i)) = _
    rw [ah_outer c N h0 i, arrV_store]
    refine congrArg (arrV c N) (funext fun j => ?_)
    by_cases e : j = i
    · subst e
      simp [updV, va_rf]
    · by_cases h : j < i
      · simp [updV, e, h, Nat.lt_succ_of_lt h]
      · simp [updV, e, h, show ¬ j < i + 1 by omega]
section
variable {G : ah_G} {mi mi' : ah_M} {dp kc ks pc : Nat} {lv : List (Nat × Value)} {rest : List Value} {σ : ah_H} {Q : ah_Z}
theorem ow_nwO (hex : ah_ex G) {idx ci N : Nat} {r : Nat × ah_H} (h : op_nwO ci σ = some r) (hd : decode mi.2.1 pc = .ok (.new idx, 3)) (hw : ah_Nw mi.1.cls idx ci N) (k : AW G mi dp kc ks (pc + 3) lv (.ref r.1 :: rest) r.2 Q) : AW G mi dp (kc + 1) (ks + N) pc lv rest σ Q := by
  obtain ⟨hl, h⟩ := op_if h
  cases h
  intro p e R s m args below meth c H locs cells slots ls hC u1 u2 hR hS hlv
  obtain ⟨C, T, hc, w1, w2, w3, hin, hpt⟩ := hw
  have hts := hC.2.2.2.2.1
  have hKn := hC.2.2.2.2.2.2.2.2.1.1.1 ci _ hc
  refine W.newcK hC.1 hC.2.1 hC.2.2.2.1 (hts _ w1) (hts _ w2) (hts _ w3) rfl hd (by omega) (by omega) hKn.2.1 rfl (fun H' kC hkC z1 z2 z3 => ?_)
  have hrho := ah_rho_len (G := G) hl
  have hsz : H.size = ah_rho G (ah_S σ).length := by rw [hrho]; exact hR.1.2 hex
  have hk := k p e R s m args below meth c H' locs (cells + 1) (slots + N) ls hC (by omega) (by omega) (ah_Rel.ap hex hR hl z2 z3 (fun i sh hi => by
    cases i with
    | succ i => cases hi
    | zero =>
      cases hi
      refine ⟨_, hc, (u_born (ah_ty ci) hts hin hKn hkC (o := ah_rho G (ah_S σ).length) (by rw [← hsz]; exact z1) hpt).to (fun j _ => ?_)⟩
      exact (ah_val_new (Nat.le_refl _) (ah_nf_ty ci j)).symm)) (hS.grow (by omega) z3) hlv
  rw [hsz]
  exact hk
theorem ow_nwA (hex : ah_ex G) {n : Int32} {N : Nat} {ty : FieldType} {at_ : ArrayType} {r : Nat × ah_H} (h : op_nwA ty N σ = some r) (hd : decode mi.2.1 pc = .ok (.newarray at_, 2)) (hty : newarray.typeOf at_ = ty) (h0 : ¬ n < 0) (hn : n.toNatClampNeg = N) (hb : N * componentBytes ty ≤ 536870912) (hw : Cond.arrayClass ty ∈ ah_TW) (hm : ty ∈ ah_tl) (hp : ah_ref ty = false ∧ ah_nf ty = true) (k : AW G mi dp kc ks (pc + 2) lv (.ref r.1 :: rest) r.2 Q) : AW G mi dp (kc + 1) (ks + N) pc lv (.int n :: rest) σ Q := by
  obtain ⟨hl, h⟩ := op_if h
  cases h
  subst hty
  intro p e R s m args below meth c H locs cells slots ls hC u1 u2 hR hS hlv
  have hts := hC.2.2.2.2.1
  have hrho := ah_rho_len (G := G) hl
  have hsz : H.size = ah_rho G (ah_S σ).length := by rw [hrho]; exact hR.1.2 hex
  refine va_newaK hC.1 hC.2.1 (hts _ hw) rfl hd rfl h0 hn hb (by omega) (by omega) rfl (fun H' cA z1 z2 z3 hA hfc => ?_)
  obtain ⟨q, hq⟩ := List.getElem?_of_mem hm
  have hra := (hC.2.2.2.2.2.2.2.2.1.1.2 q (G.2.2.1 (newarray.typeOf at_), newarray.typeOf at_) (by simp [ah_tys, hq])).2
  have hid : cA = G.2.2.1 (newarray.typeOf at_) := by
    have h9 : s.vm.findClass ("[" ++ (newarray.typeOf at_).toString) = some (G.2.2.1 (newarray.typeOf at_)) := by
      unfold va_RA at hra
      split at hra
      · next C e9 =>
        have e9 : newarray.typeOf at_ = .object C := e9
        rw [e9] at hp
        exact absurd hp.1 (fun z => by cases z)
      · exact hra
    rw [hfc] at h9
    exact Option.some.inj h9
  subst hid
  have hk := k p e R s m args below meth c H' locs (cells + 1) (slots + N) ls hC (by omega) (by omega) (ah_Rel.ap hex hR hl z2 z3 (fun i sh hi => by
    cases i with
    | succ i => cases hi
    | zero =>
      cases hi
      refine ah_at_arr hp.2 ?_
      show H'[ah_rho G (ah_S σ).length]? = _
      rw [← hsz, z1]
      congr 2
      funext j
      exact (ah_val_new (Nat.le_refl _) hp.2).symm)) (hS.grow (by omega) z3) hlv
  rw [hsz]
  exact hk
theorem ow_nwM (hex : ah_ex G) {n kk : Int32} {idx N K : Nat} {ty : FieldType} {r : Nat × ah_H} (h : op_nwM ty N K σ = some r) (hd : decode mi.2.1 pc = .ok (.multianewarray idx 2, 4)) (h0 : ¬ n < 0) (hn : n.toNatClampNeg = N) (g0 : ¬ kk < 0) (gn : kk.toNatClampNeg = K) (hb1 : N * 4 ≤ 536870912) (hb2 : K * componentBytes ty ≤ 536870912) (hb3 : K ≤ 536870912) (hty : ty = .int ∨ ty = .long) (hw : ah_Nm mi.1.cls idx ty) (k : AW G mi dp kc ks (pc + 4) lv (.ref r.1 :: rest) r.2 Q) : AW G mi dp (kc + (1 + N)) (ks + (N + N * K)) pc lv (.int kk :: .int n :: rest) σ Q := by
  obtain ⟨hl, h⟩ := op_if h
  cases h
  subst hn
  subst gn
  intro p e R s m args below meth c H locs cells slots ls hC u1 u2 hR hS hlv
  have hts := hC.2.2.2.2.1
  have hKK := hC.2.2.2.2.2.2.2.2.1
  have hao : ah_AOA ty s := by
    rcases hty with rfl | rfl
    · exact hKK.2.1
    · exact hKK.2.2.1
  have hm1 : ty ∈ ah_tl := by rcases hty with rfl | rfl <;> decide
  have hm2 : FieldType.array ty ∈ ah_tl := by rcases hty with rfl | rfl <;> decide
  have hnf : ah_nf ty = true := by rcases hty with rfl | rfl <;> rfl
  have hra : ∀ t, t ∈ ah_tl → va_RA s (G.2.2.1 t) t := fun t ht => by
    obtain ⟨q, hq⟩ := List.getElem?_of_mem ht
    exact (hKK.1.2 q (G.2.2.1 t, t) (by simp [ah_tys, hq])).2
  intro T hT X
  obtain ⟨vm₁, cA, comp, -, fA, fC, -, -, X', step⟩ := X.multianewarray2F hC.1 hC.2.2.2.1 (hts _ hw.1) hao (hts _ hw.2) (g := F0 m pc ls (.int kk :: .int n :: rest.map (ah_up G))) rfl (by rw [hC.2.1]; exact hd) rfl h0 g0 hb1 hb2 hb3 (by rcases hty with rfl | rfl <;> rfl) (by rcases hty with rfl | rfl <;> rfl) (by omega) (by omega)
  have e1 : cA = G.2.2.1 (.array ty) := by
    have h9 : s.vm.findClass ("[" ++ (FieldType.array ty).toString) = some (G.2.2.1 (.array ty)) := hra _ hm2
    rw [fA] at h9
    exact Option.some.inj h9
  have e2 : comp = G.2.2.1 ty := by
    have h9 : s.vm.findClass (FieldType.array ty).toString = some (G.2.2.1 ty) := by
      have := hra _ hm1
      rcases hty with rfl | rfl <;> exact this
    rw [fC] at h9
    exact Option.some.inj h9
  subst e1
  subst e2
  generalize hF : Jvm.Free.Multi.fill (T.setVm vm₁) (G.2.2.1 (.array ty)) (G.2.2.1 ty) n.toNatClampNeg kk.toNatClampNeg (defaultValue ty) n.toNatClampNeg = F at X' step
  have hTh : (T.setVm vm₁).heap = H := hT
  obtain ⟨f1, f2, -, -⟩ := Jvm.Free.Multi.fill_facts (T.setVm vm₁) (G.2.2.1 (.array ty)) (G.2.2.1 ty) n.toNatClampNeg kk.toNatClampNeg (defaultValue ty) n.toNatClampNeg
  rw [hF, hTh] at f1 f2
  have hold : ∀ x : Nat, x < H.size → F.heap[x]? = H[x]? := fun x hx => by
    have := Jvm.Free.Multi.fill_old (T.setVm vm₁) (G.2.2.1 (.array ty)) (G.2.2.1 ty) n.toNatClampNeg kk.toNatClampNeg (defaultValue ty) (a := x) (by rw [hTh]; exact hx) n.toNatClampNeg
    rw [hF, hTh] at this
    exact this
  have hrow : ∀ j : Nat, j < n.toNatClampNeg → F.heap[H.size + 1 + j]? = some (Jvm.Free.Multi.innerC (G.2.2.1 ty) kk.toNatClampNeg (defaultValue ty)) := fun j hj => by
    have := Jvm.Free.Multi.fill_inner (T.setVm vm₁) (G.2.2.1 (.array ty)) (G.2.2.1 ty) n.toNatClampNeg kk.toNatClampNeg (defaultValue ty) n.toNatClampNeg j hj
    rw [hF, hTh] at this
    exact this
  have hrho : ∀ i, i ≤ n.toNatClampNeg → ah_rho G ((ah_S σ).length + i) = H.size + i := fun i hi => by
    unfold ah_rho
    rw [if_pos (by omega), hR.1.2 hex]
    omega
  have hRel := ah_Rel.ap hex hR (H' := F.heap) (shs := .inl (.array ty, n.toNatClampNeg) :: List.replicate n.toNatClampNeg (.inl (ty, kk.toNatClampNeg))) (r := fun b j => if b = (ah_S σ).length ∧ j < n.toNatClampNeg then some ((ah_S σ).length + 1 + j) else none) (by simpa using hl) (by rw [f1]; simp; omega) hold (fun i sh hi => by
    cases i with
    | zero =>
      cases hi
      show F.heap[ah_rho G ((ah_S σ).length + 0)]? = _
      rw [hrho 0 (Nat.zero_le _), Nat.add_zero, f2, ah_outer]
      congr 2
      funext j
      show va_rf _ = va_rf ((ah_R (ah_ap σ _ _) _ j).map (ah_rho G))
      have hle : (ah_S σ).length ≤ (ah_S σ).length + 0 := Nat.le_refl _
      rw [ah_R_ap, if_pos hle]
      by_cases hj : j < n.toNatClampNeg
      · rw [if_pos hj, if_pos ⟨by omega, hj⟩, Option.map_some, show (ah_S σ).length + 1 + j = (ah_S σ).length + (1 + j) by omega, hrho (1 + j) (by omega), Nat.add_assoc]
      · rw [if_neg hj, if_neg (fun z => hj z.2)]
        rfl
    | succ i =>
      have hi2 : (List.replicate n.toNatClampNeg (Sum.inl (ty, kk.toNatClampNeg) : ah_Sh))[i]? = some sh := hi
      rw [List.getElem?_replicate] at hi2
      obtain ⟨hlt, hi3⟩ := op_if hi2
      cases hi3
      refine ah_at_arr hnf ?_
      show F.heap[ah_rho G ((ah_S σ).length + (i + 1))]? = _
      rw [hrho (i + 1) (by omega), show H.size + (i + 1) = H.size + 1 + i by omega, hrow i hlt]
      show some ({ cls := _, slots := Array.replicate _ _, vm := .none } : Cell) = _
      rw [arrV_new]
      congr 2
      funext j
      have hz : ∀ b j, ah_I (ah_ap σ (.inl (.array ty, n.toNatClampNeg) :: List.replicate n.toNatClampNeg (.inl (ty, kk.toNatClampNeg))) (fun b j => if b = (ah_S σ).length ∧ j < n.toNatClampNeg then some ((ah_S σ).length + 1 + j) else none)) ((ah_S σ).length + (b + 1)) j = 0 := fun b j => by rw [ah_I_ap, if_pos (by omega)]
      have hz2 : ∀ b j, ah_L (ah_ap σ (.inl (.array ty, n.toNatClampNeg) :: List.replicate n.toNatClampNeg (.inl (ty, kk.toNatClampNeg))) (fun b j => if b = (ah_S σ).length ∧ j < n.toNatClampNeg then some ((ah_S σ).length + 1 + j) else none)) ((ah_S σ).length + (b + 1)) j = 0 := fun b j => by rw [ah_L_ap, if_pos (by omega)]
      rcases hty with rfl | rfl
      · show _ = Value.int _
        rw [hz]
        rfl
      · show _ = Value.long _
        rw [hz2]
        rfl)
  have hk := k p e R s m args below meth c F.heap locs (cells + 1 + n.toNatClampNeg) (slots + n.toNatClampNeg + n.toNatClampNeg * kk.toNatClampNeg) ls hC (by omega) (by omega) hRel (hS.grow (by rw [f1]; omega) hold) hlv
  have er : ah_rho G (ah_S σ).length = T.heap.size := by
    have := hrho 0 (Nat.zero_le _)
    rw [Nat.add_zero, Nat.add_zero] at this
    rw [this, hT]
  have hk' := hk
  obtain ⟨t, a1, b1⟩ := hk' F rfl X'
  refine ⟨t, step t ?_, b1⟩
  rw [← er]
  exact a1
theorem ow_oi {idx a : Nat} (hd : decode mi.2.1 pc = .ok (.invokespecial idx, 3)) (hw : ah_Oi mi.1.cls idx) (hr : (rest.map fun v => v.category).sum ≤ 8) (k : AW G mi (dp + 1) kc ks (pc + 3) lv rest σ Q) : AW G mi (dp + 1) kc ks pc lv (.ref a :: rest) σ Q := by
  intro p e R s m args below meth c H locs cells slots ls hC u1 u2 hR hS hl
  have hts := hC.2.2.2.2.1
  have hfr := hC.2.2.2.2.2.2.2.2.2
  have hrr := ah_cats (G := G) hr
  exact W.objInit hC.1 hC.2.1 hC.2.2.2.1 (hts _ hw.1) (hts _ hw.2.1) (hts _ hw.2.2) rfl (hl.1.trans hC.2.2.1.symm) rfl hd (by omega) (by show 2 * 0 + _ + 12 ≤ _; omega) (k p e R s m args below meth c H locs cells slots ls hC u1 u2 hR hS hl)
theorem ow_pRF {a idx ci j b : Nat} {ty : FieldType} {τ : ah_H} (h : op_pR ci j σ a b = some τ) (hd : decode mi.2.1 pc = .ok (.putfield idx, 3)) (hf : ah_Fd mi.1.cls idx ci j ty true) (hi : ah_ref ty = true) (hn : mi.1.name = "<init>") (hc : ∀ C T N, vwCl[ci]? = some (C, T, N) → C = mi.1.cls) (k : AW G mi dp kc ks (pc + 3) lv rest τ Q) : AW G mi dp kc ks pc lv (.ref b :: .ref a :: rest) σ Q := by
  obtain ⟨h1, h2⟩ := op_if h
  cases h2
  exact aw_putR hd hf hi (Or.inr ⟨hn, hc⟩) h1 k
theorem ow_cVvK {idx ci n b : Nat} {st : List Value} {r : ah_H} (As : List Value) (hM : AM G mi' dp 0 0 (.ref b :: As) σ (ah_rv r)) (hs : (ah_S σ)[b]? = some (.inr ci)) (hst : st = As.reverse ++ .ref b :: rest) (hd : decode mi.2.1 pc = .ok (.invokevirtual idx, 3)) (hw : ah_Cv mi.1.cls idx ci mi' n) (hn : As.length = n) (hr : (rest.map fun v => v.category).sum ≤ 8) (k : AW G mi (dp + 1) kc ks (pc + 3) lv rest r Q) : AW G mi (dp + 1) kc ks pc lv st σ Q := by
  subst hst
  have := aw_callV (ka := 0) (kb := 0) (kc := kc) (ks := ks) (Q := Q) As hd hw hs hn hr hM (fun v τ q => by obtain ⟨rfl, rfl⟩ := q; exact k)
  rwa [Nat.zero_add, Nat.zero_add] at this
theorem ow_cSvK {idx n : Nat} {st : List Value} {r : ah_H} (As : List Value) (hM : AM G mi' dp 0 0 As σ (ah_rv r)) (hst : st = As.reverse ++ rest) (hd : decode mi.2.1 pc = .ok (.invokestatic idx, 3)) (hw : ah_Cs mi.1.cls idx mi' n) (hn : As.length = n) (hr : (rest.map fun v => v.category).sum ≤ 8) (k : AW G mi (dp + 1) kc ks (pc + 3) lv rest r Q) : AW G mi (dp + 1) kc ks pc lv st σ Q := by
  subst hst
  have := aw_callS (ka := 0) (kb := 0) (kc := kc) (ks := ks) (Q := Q) As hd hw hn hr hM (fun v τ q => by obtain ⟨rfl, rfl⟩ := q; exact k)
  rwa [Nat.zero_add, Nat.zero_add] at this
theorem ow_cI {idx n b ka kb : Nat} {st : List Value} {r : ah_H} (As : List Value) (hM : AM G mi' dp ka kb (.ref b :: As) σ (ah_rv r)) (hst : st = As.reverse ++ .ref b :: rest) (hd : decode mi.2.1 pc = .ok (.invokespecial idx, 3)) (hw : ah_Ci mi.1.cls idx mi' n) (hn : As.length = n) (hr : (rest.map fun v => v.category).sum ≤ 8) (k : AW G mi (dp + 1) kc ks (pc + 3) lv rest r Q) : AW G mi (dp + 1) (ka + kc) (kb + ks) pc lv st σ Q := by
  subst hst
  exact aw_callI As hd hw hn hr hM (fun v τ q => by obtain ⟨rfl, rfl⟩ := q; exact k)
/-- the one constructor that is private, of a nest mate -/
theorem ow_cIN {b ka kb : Nat} {r : ah_H} (hM : AM G m_X4_init dp ka kb [.ref b] σ (ah_rv r)) (hd : decode mi.2.1 pc = .ok (.invokespecial 37, 3)) (ho : mi.1.cls = RX9) (w1 : Cond.code m_X4_init.1 m_X4_init.2.1 m_X4_init.2.2.1 m_X4_init.2.2.2 ∈ ah_TW) (w2 : Cond.initialized m_X4_init.1.cls ∈ ah_TW) (w3 : Cond.instanceMethod m_X4_init.1 ∈ ah_TW) (hr : (rest.map fun v => v.category).sum ≤ 8) (k : AW G mi (dp + 1) kc ks (pc + 3) lv rest r Q) : AW G mi (dp + 1) (ka + kc) (kb + ks) pc lv (.ref b :: rest) σ Q := by
  intro p e R s m args below meth c H locs cells slots ls hC h1 h2 hR hS hl
  have hts := hC.2.2.2.2.1
  have hf := hC.2.2.2.2.2.2.2.2.2
  have hN := hC.2.2.2.2.2.2.2.2.1.2.2.2.2.2.2.2.2.2.2.1
  refine ah_go (ka := ka) (kb := kb) (Q' := ah_rv r) (aa := (Value.ref (ah_rho G b) :: ([] : List Value)).toArray) hC h1 h2 hS hl ?_ (fun v τ q => by obtain ⟨rfl, rfl⟩ := q; exact k)
  refine va_runIN (As := []) (b := ah_rho G b) (own := mi.1.cls) (host := RX11) (cc := mi.2.1) (nL := mi.2.2.1) (Ts := ah_TW) (n := 0) ⟨hC.1, hC.2.1, hC.2.2.1, hC.2.2.2.1, hts⟩ (hM (ah_rm dp ka kb) (Nat.le_refl _) (Nat.le_refl _) rfl rfl) ⟨va_cnB 0 hts (ah_gw w1) rfl rfl rfl (by rw [ho]; exact hN) (hts _ w2) ⟨by decide, by decide, by decide +kernel⟩ ⟨hf.1, by show 8 + (_ + 11) + 60 * dp ≤ _; have : m_X4_init.2.2.1 = 1 := rfl; omega⟩, rfl, hts _ w3⟩ ⟨ah_blind, fun U hU hW => ⟨rfl, by rw [hU]; exact hR, ah_K.warm hW hC.2.2.2.2.2.2.2.2.1⟩⟩ rfl rfl hl.1 rfl (lv_room (ah_cats hr)) hd ⟨by omega, by omega⟩
end
