/-! ROWS OF AW: fields, arrays, calls -/
def ah_int : FieldType → Bool
  | .int => true
  | .boolean => true
  | .byte => true
  | .char => true
  | .short => true
  | _ => false
def ah_ref : FieldType → Bool
  | .object _ => true
  | .array _ => true
  | _ => false
theorem ah_val_int {G : ah_G} {σ : ah_H} {a j : Nat} {ty : FieldType} (h : ah_int ty = true) : ah_val G σ a j ty = .int (ah_I σ a j) := by cases ty <;> first | rfl | cases h
theorem ah_val_ref {G : ah_G} {σ : ah_H} {a j : Nat} {ty : FieldType} (h : ah_ref ty = true) : ah_val G σ a j ty = va_rf ((ah_R σ a j).map (ah_rho G)) := by cases ty <;> first | rfl | cases h
theorem ah_val_wI {G : ah_G} {σ : ah_H} {a i b j : Nat} {x : Int32} {ty : FieldType} (h : b ≠ a ∨ j ≠ i) : ah_val G (ah_wI σ a i x) b j ty = ah_val G σ b j ty := by
  have : ah_I (ah_wI σ a i x) b j = ah_I σ b j := by
    rw [ah_I_wI, if_neg]
    rintro ⟨h1, h2⟩
    rcases h with h | h
    · exact h h1
    · exact h h2
  cases ty <;> first | rfl | (simp only [ah_val, this])
theorem ah_val_wL {G : ah_G} {σ : ah_H} {a i b j : Nat} {x : Int64} {ty : FieldType} (h : b ≠ a ∨ j ≠ i) : ah_val G (ah_wL σ a i x) b j ty = ah_val G σ b j ty := by
  have : ah_L (ah_wL σ a i x) b j = ah_L σ b j := by
    rw [ah_L_wL, if_neg]
    rintro ⟨h1, h2⟩
    rcases h with h | h
    · exact h h1
    · exact h h2
  cases ty <;> first | rfl | (simp only [ah_val, this])
theorem ah_val_wR {G : ah_G} {σ : ah_H} {a i b j : Nat} {x : Option Nat} {ty : FieldType} (h : b ≠ a ∨ j ≠ i) : ah_val G (ah_wR σ a i x) b j ty = ah_val G σ b j ty := by
  have : ah_R (ah_wR σ a i x) b j = ah_R σ b j := by
    rw [ah_R_wR, if_neg]
    rintro ⟨h1, h2⟩
    rcases h with h | h
    · exact h h1
    · exact h h2
  cases ty <;> first | rfl | (simp only [ah_val, this])
section
variable {G : ah_G} {mi : ah_M} {dp kc ks pc : Nat} {lv : List (Nat × Value)} {rest : List Value} {σ : ah_H} {Q : ah_Z}
theorem aw_get {a idx ci j : Nat} {ty : FieldType} {fl : Bool} {v : Value} (hd : decode mi.2.1 pc = .ok (.getfield idx, 3)) (hf : ah_Fd mi.1.cls idx ci j ty fl) (hs : (ah_S σ)[a]? = some (.inr ci)) (hv : ah_val G σ a j ty = ah_up G v) (k : AW G mi dp kc ks (pc + 3) lv (v :: rest) σ Q) : AW G mi dp kc ks pc lv (.ref a :: rest) σ Q := by
  intro p e R s m args below meth c H locs cells slots ls hC h1 h2 hR hS hl
  obtain ⟨C, T, N, hc, hj, hin, hw, hty, hpt, hnm, hfl, hdc⟩ := hf
  obtain ⟨r, h3, cell, q1, q2, q3, q4⟩ := hR.2.2.1 a _ hs
  have hr : r = (C, T, N) := Option.some.inj (h3.symm.trans hc)
  subst hr
  have hts := hC.2.2.2.2.1
  obtain ⟨hSl, hfc, kC, hkC, hkind⟩ := hC.2.2.2.2.2.2.2.2.1.1.1 ci _ hc
  obtain ⟨cf, kf, fi, f, hi, hsl⟩ := hSl j hj
  have hst := (u_facts hfc hkC (u_lays hts hin hj) hi).1
  refine W.getf (v := ah_up G v) hC.1 hC.2.1 hC.2.2.2.1 (hts _ hw) hi hst q1 (by rw [q3]; intro z; cases z) ?_ rfl rfl hd (k p e R s m args below meth c H locs cells slots ls hC h1 h2 hR hS hl)
  rw [hsl]
  refine (q4 j hj).trans ?_
  show some (ah_val G σ a j (ah_ty ci j)) = _
  rw [hty, hv]
theorem aw_getI {a idx ci j : Nat} {ty : FieldType} {fl : Bool} (hd : decode mi.2.1 pc = .ok (.getfield idx, 3)) (hf : ah_Fd mi.1.cls idx ci j ty fl) (hi : ah_int ty = true) (hs : (ah_S σ)[a]? = some (.inr ci)) (k : AW G mi dp kc ks (pc + 3) lv (.int (ah_I σ a j) :: rest) σ Q) : AW G mi dp kc ks pc lv (.ref a :: rest) σ Q := aw_get hd hf hs (ah_val_int hi) k
theorem aw_getL {a idx ci j : Nat} {fl : Bool} (hd : decode mi.2.1 pc = .ok (.getfield idx, 3)) (hf : ah_Fd mi.1.cls idx ci j .long fl) (hs : (ah_S σ)[a]? = some (.inr ci)) (k : AW G mi dp kc ks (pc + 3) lv (.long (ah_L σ a j) :: rest) σ Q) : AW G mi dp kc ks pc lv (.ref a :: rest) σ Q := aw_get hd hf hs rfl k
theorem aw_getR {a idx ci j b : Nat} {ty : FieldType} {fl : Bool} (hd : decode mi.2.1 pc = .ok (.getfield idx, 3)) (hf : ah_Fd mi.1.cls idx ci j ty fl) (hi : ah_ref ty = true) (hs : (ah_S σ)[a]? = some (.inr ci)) (hr : ah_R σ a j = some b) (k : AW G mi dp kc ks (pc + 3) lv (.ref b :: rest) σ Q) : AW G mi dp kc ks pc lv (.ref a :: rest) σ Q := aw_get hd hf hs (by rw [ah_val_ref hi, hr]; rfl) k
/-- a field is written: what it is to hold fits; final ones in a constructor alone -/
theorem aw_put {a idx ci j : Nat} {ty : FieldType} {fl : Bool} {v : Value} (τ : ah_H) (hd : decode mi.2.1 pc = .ok (.putfield idx, 3)) (hf : ah_Fd mi.1.cls idx ci j ty fl) (hfl : fl = false ∨ (mi.1.name = "<init>" ∧ ∀ C T N, vwCl[ci]? = some (C, T, N) → C = mi.1.cls)) (hs : (ah_S σ)[a]? = some (.inr ci)) (hn : narrow ty (ah_up G v) = ah_up G v) (hfit : fits ty (ah_up G v) = true)
    (e1 : ah_S τ = ah_S σ) (e2 : ∀ b k t, (b ≠ a ∨ k ≠ j) → ah_val G τ b k t = ah_val G σ b k t) (e3 : ah_val G τ a j ty = ah_up G v) (k : AW G mi dp kc ks (pc + 3) lv rest τ Q) : AW G mi dp kc ks pc lv (v :: .ref a :: rest) σ Q := by
  intro p e R s m args below meth c H locs cells slots ls hC h1 h2 hR hS hl
  obtain ⟨C, T, N, hc, hj, hin, hw, hty, hpt, hnm, hfe, hdc⟩ := hf
  obtain ⟨r, h3, cell, q1, q2, q3, q4⟩ := hR.2.2.1 a _ hs
  have hr : r = (C, T, N) := Option.some.inj (h3.symm.trans hc)
  subst hr
  have hts := hC.2.2.2.2.1
  have hKc := hC.2.2.2.2.2.2.2.2.1.1
  obtain ⟨hSl, hfc, kC, hkC, hkind⟩ := hKc.1 ci _ hc
  obtain ⟨cf, kf, fi, f, hi, hsl⟩ := hSl j hj
  have hst := (u_facts hfc hkC (u_lays hts hin hj) hi).1
  have hap := va_apart (own := mi.1.cls) hts hin (ah_ty ci) hpt hnm hKc hc
  have hpj : parseFieldDescriptor (T j).2.2.1 = some ty := by rw [hpt j hj, hty]
  have key : ∀ H' : Heap, H'[ah_rho G a]? = some (cell.setSlot f.slot (ah_up G v)) → H'.size = H.size → (∀ q, q ≠ ah_rho G a → H'[q]? = H[q]?) → W p G.1 e R s m args below meth c H' (locs ++ [⟨ah_rho G a, f.slot⟩]) cells slots (Q below args s R c) (F0 m (pc + 3) ls (rest.map (ah_up G))) := by
    intro H' z1 z2 z3
    rw [hsl] at z1 ⊢
    refine k p e R s m args below meth c H' _ cells slots ls hC h1 h2 ?_ (hS.put z2 z3 ?_) hl
    · refine hR.set hs e1 z2 z3 (fun b hb q t => e2 b q t (Or.inl hb)) ⟨_, hc, t_OB.to (V := updV (fun q => ah_val G σ a q (ah_ty ci q)) j (ah_up G v)) ⟨_, z1, q2, q3, t_set q4 hap hj _⟩ (fun q _ => ?_)⟩
      unfold updV
      by_cases hq : q = j
      · rw [if_pos hq, hq, hty, e3]
      · rw [if_neg hq, e2 a q _ (Or.inr hq)]
    · show ah_hb G ≤ ah_rho G a
      rw [hR.rho hs]
      exact Nat.le_add_right _ _
  have hlay := hts _ (hin _ (u_in_lay hj))
  unfold u_lay at hlay
  cases hb : fl with
  | false =>
    rw [hb] at hfe
    rw [if_neg (by rw [hfe]; decide)] at hlay
    have h6 := u_store hfc hkC hkind hlay hi hpj hn hfit
    exact W.putK hC.1 hC.2.1 (f := f) ⟨hC.2.2.2.1, hts _ hw, ⟨_, _, _, hi⟩, hst⟩ (by rw [q2]; exact h6) q1 q3 (by rw [hsl]; exact k2_hasslot (q4 j hj)) rfl rfl hd key
  | true =>
    rcases hfl with z | ⟨z1, z2⟩
    · rw [z] at hb
      cases hb
    · have hCe := z2 _ _ _ hc
      have h6 := u_fits hfc hkC hkind (u_lays hts hin hj) hi hpj hn hfit
      have hcf : m.cls = cf := by
        rw [hb] at hfe
        rw [if_pos hfe] at hlay
        obtain ⟨_, _, c', _, _, _, -, -, hf', -, -, -, hown2, -⟩ := Cond.laysFinal_spec hlay
        have e1 : c' = cf := by have := hi.symm.trans hf'; simp at this; exact this.1.symm
        rw [hdc, hCe] at hown2
        rw [← e1]; exact Option.some.inj (hC.2.2.2.1.symm.trans hown2)
      exact W.putFinK hC.1 hC.2.1 hC.2.2.2.1 (hts _ hw) hi hst hcf (hC.2.2.2.2.2.2.2.1 z1) (by rw [q2]; exact h6) q1 q3 (by rw [hsl]; exact k2_hasslot (q4 j hj)) rfl rfl hd key
theorem aw_putI {a idx ci j : Nat} {ty : FieldType} {x : Int32} (hd : decode mi.2.1 pc = .ok (.putfield idx, 3)) (hf : ah_Fd mi.1.cls idx ci j ty false) (hi : ah_int ty = true) (hs : (ah_S σ)[a]? = some (.inr ci)) (hn : narrow ty (.int x) = .int x ∧ fits ty (.int x) = true) (k : AW G mi dp kc ks (pc + 3) lv rest (ah_wI σ a j x) Q) : AW G mi dp kc ks pc lv (.int x :: .ref a :: rest) σ Q :=
  aw_put (ah_wI σ a j x) hd hf (Or.inl rfl) hs hn.1 hn.2 rfl (fun _ _ _ h => ah_val_wI h) (by rw [ah_val_int hi, ah_I_wI, if_pos ⟨rfl, rfl⟩]; rfl) k
theorem aw_putL {a idx ci j : Nat} {x : Int64} (hd : decode mi.2.1 pc = .ok (.putfield idx, 3)) (hf : ah_Fd mi.1.cls idx ci j .long false) (hs : (ah_S σ)[a]? = some (.inr ci)) (k : AW G mi dp kc ks (pc + 3) lv rest (ah_wL σ a j x) Q) : AW G mi dp kc ks pc lv (.long x :: .ref a :: rest) σ Q :=
  aw_put (ah_wL σ a j x) hd hf (Or.inl rfl) hs rfl rfl rfl (fun _ _ _ h => ah_val_wL h) (by show Value.long (ah_L (ah_wL σ a j x) a j) = _; rw [ah_L_wL, if_pos ⟨rfl, rfl⟩]; rfl) k
theorem aw_putR {a idx ci j b : Nat} {ty : FieldType} {fl : Bool} (hd : decode mi.2.1 pc = .ok (.putfield idx, 3)) (hf : ah_Fd mi.1.cls idx ci j ty fl) (hi : ah_ref ty = true) (hfl : fl = false ∨ (mi.1.name = "<init>" ∧ ∀ C T N, vwCl[ci]? = some (C, T, N) → C = mi.1.cls)) (hs : (ah_S σ)[a]? = some (.inr ci)) (k : AW G mi dp kc ks (pc + 3) lv rest (ah_wR σ a j (some b)) Q) : AW G mi dp kc ks pc lv (.ref b :: .ref a :: rest) σ Q :=
  aw_put (ah_wR σ a j (some b)) hd hf hfl hs (by cases ty <;> first | rfl | cases hi) (by cases ty <;> first | rfl | cases hi) rfl (fun _ _ _ h => ah_val_wR h) (by rw [ah_val_ref hi, ah_R_wR, if_pos ⟨rfl, rfl⟩]; rfl) k
/-- an array's place is read -/
theorem aw_iald {a n : Nat} {i : Int32} (hd : decode mi.2.1 pc = .ok (.iaload, 1)) (hs : (ah_S σ)[a]? = some (.inl (.int, n))) (hi : vp_in i n) (k : AW G mi dp kc ks (pc + 1) lv (.int (ah_I σ a i.toNatClampNeg) :: rest) σ Q) : AW G mi dp kc ks pc lv (.int i :: .ref a :: rest) σ Q := by
  intro p e R s m args below meth c H locs cells slots ls hC h1 h2 hR hS hl
  have hlt : i.toNatClampNeg < n := Nat.not_le.mp fun q => hi (Or.inr q)
  exact W.iald (v := .int (ah_I σ a i.toNatClampNeg)) hC.1 hC.2.1 (hR.2.2.1 a _ hs) (hC.2.2.2.2.2.2.2.2.1.arr (by decide) n _) (fun q => by cases q) (by rw [arrV_size]; exact hi) (arrV_read _ _ hlt) rfl rfl hd (k p e R s m args below meth c H locs cells slots ls hC h1 h2 hR hS hl)
theorem aw_lald {a n : Nat} {i : Int32} (hd : decode mi.2.1 pc = .ok (.laload, 1)) (hs : (ah_S σ)[a]? = some (.inl (.long, n))) (hi : vp_in i n) (k : AW G mi dp kc ks (pc + 1) lv (.long (ah_L σ a i.toNatClampNeg) :: rest) σ Q) : AW G mi dp kc ks pc lv (.int i :: .ref a :: rest) σ Q := by
  intro p e R s m args below meth c H locs cells slots ls hC h1 h2 hR hS hl
  have hlt : i.toNatClampNeg < n := Nat.not_le.mp fun q => hi (Or.inr q)
  exact W.lald (v := .long (ah_L σ a i.toNatClampNeg)) hC.1 hC.2.1 (hR.2.2.1 a _ hs) (hC.2.2.2.2.2.2.2.2.1.arr (by decide) n _) (fun q => by cases q) (by rw [arrV_size]; exact hi) (arrV_read _ _ hlt) rfl rfl hd (k p e R s m args below meth c H locs cells slots ls hC h1 h2 hR hS hl)
theorem aw_bald {a n : Nat} {i : Int32} (hd : decode mi.2.1 pc = .ok (.baload, 1)) (hs : (ah_S σ)[a]? = some (.inl (.byte, n))) (hi : vp_in i n) (k : AW G mi dp kc ks (pc + 1) lv (.int (ah_I σ a i.toNatClampNeg) :: rest) σ Q) : AW G mi dp kc ks pc lv (.int i :: .ref a :: rest) σ Q := by
  intro p e R s m args below meth c H locs cells slots ls hC h1 h2 hR hS hl
  have hlt : i.toNatClampNeg < n := Nat.not_le.mp fun q => hi (Or.inr q)
  exact W.bald (v := .int (ah_I σ a i.toNatClampNeg)) hC.1 hC.2.1 (hR.2.2.1 a _ hs) (hC.2.2.2.2.2.2.2.2.1.arr (by decide) n _) (fun q => by cases q) (by rw [arrV_size]; exact hi) (arrV_read _ _ hlt) rfl rfl hd (k p e R s m args below meth c H locs cells slots ls hC h1 h2 hR hS hl)
theorem aw_zald {a n : Nat} {i : Int32} (hd : decode mi.2.1 pc = .ok (.baload, 1)) (hs : (ah_S σ)[a]? = some (.inl (.boolean, n))) (hi : vp_in i n) (k : AW G mi dp kc ks (pc + 1) lv (.int (ah_I σ a i.toNatClampNeg) :: rest) σ Q) : AW G mi dp kc ks pc lv (.int i :: .ref a :: rest) σ Q := by
  intro p e R s m args below meth c H locs cells slots ls hC h1 h2 hR hS hl
  have hlt : i.toNatClampNeg < n := Nat.not_le.mp fun q => hi (Or.inr q)
  exact W.zald (v := .int (ah_I σ a i.toNatClampNeg)) hC.1 hC.2.1 (hR.2.2.1 a _ hs) (hC.2.2.2.2.2.2.2.2.1.arr (by decide) n _) (fun q => by cases q) (by rw [arrV_size]; exact hi) (arrV_read _ _ hlt) rfl rfl hd (k p e R s m args below meth c H locs cells slots ls hC h1 h2 hR hS hl)
theorem aw_aald {a n b : Nat} {ty : FieldType} {i : Int32} (hd : decode mi.2.1 pc = .ok (.aaload, 1)) (hs : (ah_S σ)[a]? = some (.inl (.array ty, n))) (hm : FieldType.array ty ∈ ah_tl) (hi : vp_in i n) (hr : ah_R σ a i.toNatClampNeg = some b) (k : AW G mi dp kc ks (pc + 1) lv (.ref b :: rest) σ Q) : AW G mi dp kc ks pc lv (.int i :: .ref a :: rest) σ Q := by
  intro p e R s m args below meth c H locs cells slots ls hC h1 h2 hR hS hl
  have hlt : i.toNatClampNeg < n := Nat.not_le.mp fun q => hi (Or.inr q)
  exact W.aald (v := .ref (ah_rho G b)) (ty := .array ty) hC.1 hC.2.1 (hR.2.2.1 a _ hs) (hC.2.2.2.2.2.2.2.2.1.arr hm n _) rfl (fun q => by cases q) (by rw [arrV_size]; exact hi) (by rw [arrV_read _ _ hlt]; show some (va_rf ((ah_R σ a i.toNatClampNeg).map (ah_rho G))) = _; rw [hr]; rfl) rfl rfl hd (k p e R s m args below meth c H locs cells slots ls hC h1 h2 hR hS hl)
theorem aw_alen {a n : Nat} {ty : FieldType} (hd : decode mi.2.1 pc = .ok (.arraylength, 1)) (hs : (ah_S σ)[a]? = some (.inl (ty, n))) (hm : ty ∈ ah_tl) {v : Int32} (hv : Int32.ofNat n = v) (k : AW G mi dp kc ks (pc + 1) lv (.int v :: rest) σ Q) : AW G mi dp kc ks pc lv (.ref a :: rest) σ Q := by
  intro p e R s m args below meth c H locs cells slots ls hC h1 h2 hR hS hl
  subst hv
  have hcell : H[ah_rho G a]? = some (arrV (G.2.2.1 ty) n (fun j => ah_val G σ a j ty)) := by
    have h9 := hR.2.2.1 a _ hs
    cases ty <;> first | exact h9 | (exfalso; revert hm; decide)
  exact W.alen (n := Int32.ofNat n) hC.1 hC.2.1 hcell (hC.2.2.2.2.2.2.2.2.1.arr hm n _) (by rw [arrV_size]) rfl rfl hd (k p e R s m args below meth c H locs cells slots ls hC h1 h2 hR hS hl)
/-- an array's place has been written -/
theorem ah_arr_set {H H' : Heap} {a n i : Nat} {ty : FieldType} {τ : ah_H} {x : Value} (hR : ah_Rel G σ H) (hs : (ah_S σ)[a]? = some (.inl (ty, n))) (z1 : H'[ah_rho G a]? = some ((arrV (G.2.2.1 ty) n (fun j => ah_val G σ a j ty)).setSlot i x)) (z2 : H'.size = H.size) (z3 : ∀ q, q ≠ ah_rho G a → H'[q]? = H[q]?) (e1 : ah_S τ = ah_S σ) (e2 : ∀ b k t, (b ≠ a ∨ k ≠ i) → ah_val G τ b k t = ah_val G σ b k t) (e3 : ah_val G τ a i ty = x) : ah_Rel G τ H' := by
  refine hR.set hs e1 z2 z3 (fun b hb q t => e2 b q t (Or.inl hb)) ?_
  have key : H'[ah_rho G a]? = some (arrV (G.2.2.1 ty) n (fun j => ah_val G τ a j ty)) := by
    rw [z1, arrV_store]
    congr 2
    funext q
    unfold updV
    by_cases hq : q = i
    · rw [if_pos hq, hq, e3]
    · rw [if_neg hq, e2 a q ty (Or.inr hq)]
  cases ty <;> first | exact trivial | exact key
theorem aw_iast {a n : Nat} {i x : Int32} (hd : decode mi.2.1 pc = .ok (.iastore, 1)) (hs : (ah_S σ)[a]? = some (.inl (.int, n))) (hi : vp_in i n) (k : AW G mi dp kc ks (pc + 1) lv rest (ah_wI σ a i.toNatClampNeg x) Q) : AW G mi dp kc ks pc lv (.int x :: .int i :: .ref a :: rest) σ Q := by
  intro p e R s m args below meth c H locs cells slots ls hC h1 h2 hR hS hl
  refine W.iast hC.1 hC.2.1 (hR.2.2.1 a _ hs) (hC.2.2.2.2.2.2.2.2.1.arr (by decide) n _) (fun q => by cases q) (by rw [arrV_size]; exact hi) rfl rfl hd (fun H' z1 z2 z3 => ?_)
  refine k p e R s m args below meth c H' _ cells slots ls hC h1 h2 (ah_arr_set hR hs z1 z2 z3 rfl (fun _ _ _ h => ah_val_wI h) ?_) (hS.put z2 z3 ?_) hl
  · show Value.int (ah_I (ah_wI σ a _ x) a _) = _
    rw [ah_I_wI, if_pos ⟨rfl, rfl⟩]
  · show ah_hb G ≤ ah_rho G a
    rw [hR.rho hs]
    exact Nat.le_add_right _ _
theorem aw_last {a n : Nat} {i : Int32} {x : Int64} (hd : decode mi.2.1 pc = .ok (.lastore, 1)) (hs : (ah_S σ)[a]? = some (.inl (.long, n))) (hi : vp_in i n) (k : AW G mi dp kc ks (pc + 1) lv rest (ah_wL σ a i.toNatClampNeg x) Q) : AW G mi dp kc ks pc lv (.long x :: .int i :: .ref a :: rest) σ Q := by
  intro p e R s m args below meth c H locs cells slots ls hC h1 h2 hR hS hl
  refine W.last hC.1 hC.2.1 (hR.2.2.1 a _ hs) (hC.2.2.2.2.2.2.2.2.1.arr (by decide) n _) (fun q => by cases q) (by rw [arrV_size]; exact hi) rfl rfl hd (fun H' z1 z2 z3 => ?_)
  refine k p e R s m args below meth c H' _ cells slots ls hC h1 h2 (ah_arr_set hR hs z1 z2 z3 rfl (fun _ _ _ h => ah_val_wL h) ?_) (hS.put z2 z3 ?_) hl
  · show Value.long (ah_L (ah_wL σ a _ x) a _) = _
    rw [ah_L_wL, if_pos ⟨rfl, rfl⟩]
  · show ah_hb G ≤ ah_rho G a
    rw [hR.rho hs]
    exact Nat.le_add_right _ _
theorem aw_bast {a n : Nat} {i x : Int32} (hd : decode mi.2.1 pc = .ok (.bastore, 1)) (hs : (ah_S σ)[a]? = some (.inl (.byte, n))) (hi : vp_in i n) (k : AW G mi dp kc ks (pc + 1) lv rest (ah_wI σ a i.toNatClampNeg (vp_nar .byte x)) Q) : AW G mi dp kc ks pc lv (.int x :: .int i :: .ref a :: rest) σ Q := by
  intro p e R s m args below meth c H locs cells slots ls hC h1 h2 hR hS hl
  refine W.bast hC.1 hC.2.1 (hR.2.2.1 a _ hs) (hC.2.2.2.2.2.2.2.2.1.arr (by decide) n _) (fun q => by cases q) (by rw [arrV_size]; exact hi) rfl rfl hd (fun H' z1 z2 z3 => ?_)
  refine k p e R s m args below meth c H' _ cells slots ls hC h1 h2 (ah_arr_set hR hs z1 z2 z3 rfl (fun _ _ _ h => ah_val_wI h) ?_) (hS.put z2 z3 ?_) hl
  · show Value.int (ah_I (ah_wI σ a _ _) a _) = _
    rw [ah_I_wI, if_pos ⟨rfl, rfl⟩]
    rfl
  · show ah_hb G ≤ ah_rho G a
    rw [hR.rho hs]
    exact Nat.le_add_right _ _
theorem aw_zast {a n : Nat} {i x : Int32} (hd : decode mi.2.1 pc = .ok (.bastore, 1)) (hs : (ah_S σ)[a]? = some (.inl (.boolean, n))) (hi : vp_in i n) (k : AW G mi dp kc ks (pc + 1) lv rest (ah_wI σ a i.toNatClampNeg (vp_nar .boolean x)) Q) : AW G mi dp kc ks pc lv (.int x :: .int i :: .ref a :: rest) σ Q := by
  intro p e R s m args below meth c H locs cells slots ls hC h1 h2 hR hS hl
  refine W.zast hC.1 hC.2.1 (hR.2.2.1 a _ hs) (hC.2.2.2.2.2.2.2.2.1.arr (by decide) n _) (fun q => by cases q) (by rw [arrV_size]; exact hi) rfl rfl hd (fun H' z1 z2 z3 => ?_)
  refine k p e R s m args below meth c H' _ cells slots ls hC h1 h2 (ah_arr_set hR hs z1 z2 z3 rfl (fun _ _ _ h => ah_val_wI h) ?_) (hS.put z2 z3 ?_) hl
  · show Value.int (ah_I (ah_wI σ a _ _) a _) = _
    rw [ah_I_wI, if_pos ⟨rfl, rfl⟩]
    rfl
  · show ah_hb G ≤ ah_rho G a
    rw [hR.rho hs]
    exact Nat.le_add_right _ _
end
