/-! what always holds of the cells -/
def Wf (σ : ah_H) : Prop := ah_S σ = S0 ∧ ∀ a j b, R0 a j = some b → (a, j) ∉ mut0 → ah_R σ a j = some b
theorem Wf.wI {σ : ah_H} (h : Wf σ) (a i : Nat) (x : Int32) : Wf (ah_wI σ a i x) := h
theorem Wf.wL {σ : ah_H} (h : Wf σ) (a i : Nat) (x : Int64) : Wf (ah_wL σ a i x) := h
theorem Wf.gI {σ : ah_H} (h : Wf σ) {ci j a : Nat} (hs : S0[a]? = some (.inr ci)) : op_gI ci j σ a = some (ah_I σ a j) := by
  unfold op_gI; rw [h.1, if_pos hs]
theorem Wf.gL {σ : ah_H} (h : Wf σ) {ci j a : Nat} (hs : S0[a]? = some (.inr ci)) : op_gL ci j σ a = some (ah_L σ a j) := by
  unfold op_gL; rw [h.1, if_pos hs]
theorem Wf.gR {σ : ah_H} (h : Wf σ) {ci j a b : Nat} (hs : S0[a]? = some (.inr ci)) (hr : R0 a j = some b) (hm : (a, j) ∉ mut0) : op_gR ci j σ a = some b := by
  unfold op_gR; rw [h.1, if_pos hs]; exact h.2 a j b hr hm
theorem Wf.pI {σ : ah_H} (h : Wf σ) {ci j a : Nat} {x : Int32} (hs : S0[a]? = some (.inr ci)) : op_pI ci j σ a x = some (ah_wI σ a j x) := by
  unfold op_pI; rw [h.1, if_pos hs]
theorem Wf.pZ {σ : ah_H} (h : Wf σ) {ci j a : Nat} {x : Int32} (hs : S0[a]? = some (.inr ci)) (hx : x = 0 ∨ x = 1) : op_pZ ci j σ a x = some (ah_wI σ a j x) := by
  unfold op_pZ; rw [h.1, if_pos hs, if_pos hx]
theorem Wf.pL {σ : ah_H} (h : Wf σ) {ci j a : Nat} {x : Int64} (hs : S0[a]? = some (.inr ci)) : op_pL ci j σ a x = some (ah_wL σ a j x) := by
  unfold op_pL; rw [h.1, if_pos hs]
theorem Wf.ck {σ : ah_H} (h : Wf σ) {α : Type} {ci a : Nat} {k : Option α} (hs : S0[a]? = some (.inr ci)) : op_ck ci σ a k = k := by
  unfold op_ck; rw [h.1, if_pos hs]
theorem Wf.len {σ : ah_H} (h : Wf σ) {ty : FieldType} {a n : Nat} (hs : S0[a]? = some (.inl (ty, n))) : op_len ty σ a = some n := by
  unfold op_len; rw [h.1, hs]; show op_ty ty ty n = some n; unfold op_ty; rw [if_pos rfl]
theorem op_ix_n {k n : Nat} (h : k < n) (hn : n < 2 ^ 31) : op_ix (nI k) n = some k := by
  unfold op_ix
  have h1 := vp_in_nI h hn
  rw [if_neg h1, nI_clamp (by omega)]
theorem Wf.aI {σ : ah_H} (h : Wf σ) {a n k : Nat} (hs : S0[a]? = some (.inl (.int, n))) (hk : k < n) (hn : n < 2 ^ 31) : op_aI σ a (nI k) = some (ah_I σ a k) := by
  unfold op_aI; rw [h.len hs]; show (op_ix (nI k) n).map _ = _; rw [op_ix_n hk hn]; rfl
theorem Wf.aB {σ : ah_H} (h : Wf σ) {a n k : Nat} (hs : S0[a]? = some (.inl (.byte, n))) (hk : k < n) (hn : n < 2 ^ 31) : op_aB σ a (nI k) = some (ah_I σ a k) := by
  unfold op_aB; rw [h.len hs]; show (op_ix (nI k) n).map _ = _; rw [op_ix_n hk hn]; rfl
theorem Wf.aZ {σ : ah_H} (h : Wf σ) {a n k : Nat} (hs : S0[a]? = some (.inl (.boolean, n))) (hk : k < n) (hn : n < 2 ^ 31) : op_aZ σ a (nI k) = some (ah_I σ a k) := by
  unfold op_aZ; rw [h.len hs]; show (op_ix (nI k) n).map _ = _; rw [op_ix_n hk hn]; rfl
theorem Wf.aL {σ : ah_H} (h : Wf σ) {a n k : Nat} (hs : S0[a]? = some (.inl (.long, n))) (hk : k < n) (hn : n < 2 ^ 31) : op_aL σ a (nI k) = some (ah_L σ a k) := by
  unfold op_aL; rw [h.len hs]; show (op_ix (nI k) n).map _ = _; rw [op_ix_n hk hn]; rfl
theorem Wf.aR {σ : ah_H} (h : Wf σ) {ty : FieldType} {a n k b : Nat} (hs : S0[a]? = some (.inl (.array ty, n))) (hk : k < n) (hn : n < 2 ^ 31) (hr : R0 a k = some b) (hm : (a, k) ∉ mut0) : op_aR ty σ a (nI k) = some b := by
  unfold op_aR; rw [h.len hs]; show (op_ix (nI k) n).bind _ = _; rw [op_ix_n hk hn]; exact h.2 a k b hr hm
theorem Wf.sI {σ : ah_H} (h : Wf σ) {a n k : Nat} {x : Int32} (hs : S0[a]? = some (.inl (.int, n))) (hk : k < n) (hn : n < 2 ^ 31) : op_sI σ a (nI k) x = some (ah_wI σ a k x) := by
  unfold op_sI; rw [h.len hs]; show (op_ix (nI k) n).map _ = _; rw [op_ix_n hk hn]; rfl
theorem Wf.sB {σ : ah_H} (h : Wf σ) {a n k : Nat} {x : Int32} (hs : S0[a]? = some (.inl (.byte, n))) (hk : k < n) (hn : n < 2 ^ 31) : op_sB σ a (nI k) x = some (ah_wI σ a k (vp_nar .byte x)) := by
  unfold op_sB; rw [h.len hs]; show (op_ix (nI k) n).map _ = _; rw [op_ix_n hk hn]; rfl
theorem Wf.sZ {σ : ah_H} (h : Wf σ) {a n k : Nat} {x : Int32} (hs : S0[a]? = some (.inl (.boolean, n))) (hk : k < n) (hn : n < 2 ^ 31) : op_sZ σ a (nI k) x = some (ah_wI σ a k (vp_nar .boolean x)) := by
  unfold op_sZ; rw [h.len hs]; show (op_ix (nI k) n).map _ = _; rw [op_ix_n hk hn]; rfl
theorem Wf.sL {σ : ah_H} (h : Wf σ) {a n k : Nat} {x : Int64} (hs : S0[a]? = some (.inl (.long, n))) (hk : k < n) (hn : n < 2 ^ 31) : op_sL σ a (nI k) x = some (ah_wL σ a k x) := by
  unfold op_sL; rw [h.len hs]; show (op_ix (nI k) n).map _ = _; rw [op_ix_n hk hn]; rfl
theorem bd_s {α β : Type} (x : α) (f : α → Option β) : (some x).bind f = f x := rfl
/-- the heap behind both constructors -/
theorem law_ok : ∃ σ, law_0 = some σ ∧ Wf σ := by
  have h1 := law_0_S
  have h2 := law_0_R
  cases h : law_0 with
  | none => rw [h] at h1; cases h1
  | some σ =>
    rw [h] at h1 h2
    have h1 : ah_S σ = S0 := Option.some.inj h1
    have h2 := Option.some.inj h2
    refine ⟨σ, rfl, h1, fun a j b hr _ => ?_⟩
    have ha : a < 272 := by
      rcases Nat.lt_or_ge a 272 with q | q
      · exact q
      · exfalso
        unfold R0 at hr
        split at hr <;> first | omega | cases hr
    have hj : j < 70 := by
      rcases Nat.lt_or_ge j 70 with q | q
      · exact q
      · exfalso
        unfold R0 at hr
        split at hr <;> first | (split at hr <;> first | omega | cases hr) | cases hr
    rw [List.all_eq_true] at h2
    have h3 := h2 a (List.mem_range.mpr ha)
    rw [List.all_eq_true] at h3
    have h4 := h3 j (List.mem_range.mpr hj)
    rw [hr] at h4
    exact of_decide_eq_true h4
