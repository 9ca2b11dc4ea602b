/-! OPERATIONS AT THE KNOWN CELLS (under Wf); numbers as nI -/
def Tn (t : Nat) : Prop := t = 2 ∨ t = 42
def Fl (f : Nat) : Prop := f = 118 ∨ f = 139 ∨ f = 201
def fst_ (f : Nat) : Nat := if f = 201 then 164 else 91
theorem Tn_2 : Tn 2 := Or.inl rfl
theorem Tn_42 : Tn 42 := Or.inr rfl
theorem Fl_118 : Fl 118 := Or.inl rfl
theorem Fl_139 : Fl 139 := Or.inr (Or.inl rfl)
theorem Fl_201 : Fl 201 := Or.inr (Or.inr rfl)
section
variable {σ : ah_H} {α : Type} {t f j k c : Nat} {x : Int32} {y : Int64}
theorem Wf.gM (h : Wf σ) {ci j a : Nat} (hs : S0[a]? = some (.inr ci)) : op_gR ci j σ a = ah_R σ a j := by
  unfold op_gR; rw [h.1, if_pos hs]
theorem Wf.pR (h : Wf σ) {ci j a b : Nat} (hs : S0[a]? = some (.inr ci)) : op_pR ci j σ a b = some (ah_wR σ a j (some b)) := by
  unfold op_pR; rw [h.1, if_pos hs]

theorem ck_0 (h : Wf σ) {k : Option α} : op_ck 11 σ (0) k = k := h.ck (S0_0)
theorem gI_0 (h : Wf σ) : op_gI 11 j σ (0) = some (ah_I σ (0) j) := h.gI (S0_0)
theorem gL_0 (h : Wf σ) : op_gL 11 j σ (0) = some (ah_L σ (0) j) := h.gL (S0_0)
theorem pI_0 (h : Wf σ) : op_pI 11 j σ (0) x = some (ah_wI σ (0) j x) := h.pI (S0_0)
theorem pZ0_0 (h : Wf σ) : op_pZ 11 j σ (0) (nI 0) = some (ah_wI σ (0) j (nI 0)) := h.pZ (S0_0) (Or.inl rfl)
theorem pZ1_0 (h : Wf σ) : op_pZ 11 j σ (0) (nI 1) = some (ah_wI σ (0) j (nI 1)) := h.pZ (S0_0) (Or.inr rfl)
theorem pL_0 (h : Wf σ) : op_pL 11 j σ (0) y = some (ah_wL σ (0) j y) := h.pL (S0_0)
theorem ck_82 (h : Wf σ) {k : Option α} : op_ck 7 σ (82) k = k := h.ck (S0_82)
theorem gI_82 (h : Wf σ) : op_gI 7 j σ (82) = some (ah_I σ (82) j) := h.gI (S0_82)
theorem gL_82 (h : Wf σ) : op_gL 7 j σ (82) = some (ah_L σ (82) j) := h.gL (S0_82)
theorem pI_82 (h : Wf σ) : op_pI 7 j σ (82) x = some (ah_wI σ (82) j x) := h.pI (S0_82)
theorem pZ0_82 (h : Wf σ) : op_pZ 7 j σ (82) (nI 0) = some (ah_wI σ (82) j (nI 0)) := h.pZ (S0_82) (Or.inl rfl)
theorem pZ1_82 (h : Wf σ) : op_pZ 7 j σ (82) (nI 1) = some (ah_wI σ (82) j (nI 1)) := h.pZ (S0_82) (Or.inr rfl)
theorem pL_82 (h : Wf σ) : op_pL 7 j σ (82) y = some (ah_wL σ (82) j y) := h.pL (S0_82)
theorem ck_83 (h : Wf σ) {k : Option α} : op_ck 8 σ (83) k = k := h.ck (S0_83)
theorem gI_83 (h : Wf σ) : op_gI 8 j σ (83) = some (ah_I σ (83) j) := h.gI (S0_83)
theorem gL_83 (h : Wf σ) : op_gL 8 j σ (83) = some (ah_L σ (83) j) := h.gL (S0_83)
theorem pI_83 (h : Wf σ) : op_pI 8 j σ (83) x = some (ah_wI σ (83) j x) := h.pI (S0_83)
theorem pZ0_83 (h : Wf σ) : op_pZ 8 j σ (83) (nI 0) = some (ah_wI σ (83) j (nI 0)) := h.pZ (S0_83) (Or.inl rfl)
theorem pZ1_83 (h : Wf σ) : op_pZ 8 j σ (83) (nI 1) = some (ah_wI σ (83) j (nI 1)) := h.pZ (S0_83) (Or.inr rfl)
theorem pL_83 (h : Wf σ) : op_pL 8 j σ (83) y = some (ah_wL σ (83) j y) := h.pL (S0_83)
theorem ck_88 (h : Wf σ) {k : Option α} : op_ck 2 σ (88) k = k := h.ck (S0_88)
theorem gI_88 (h : Wf σ) : op_gI 2 j σ (88) = some (ah_I σ (88) j) := h.gI (S0_88)
theorem gL_88 (h : Wf σ) : op_gL 2 j σ (88) = some (ah_L σ (88) j) := h.gL (S0_88)
theorem pI_88 (h : Wf σ) : op_pI 2 j σ (88) x = some (ah_wI σ (88) j x) := h.pI (S0_88)
theorem pZ0_88 (h : Wf σ) : op_pZ 2 j σ (88) (nI 0) = some (ah_wI σ (88) j (nI 0)) := h.pZ (S0_88) (Or.inl rfl)
theorem pZ1_88 (h : Wf σ) : op_pZ 2 j σ (88) (nI 1) = some (ah_wI σ (88) j (nI 1)) := h.pZ (S0_88) (Or.inr rfl)
theorem pL_88 (h : Wf σ) : op_pL 2 j σ (88) y = some (ah_wL σ (88) j y) := h.pL (S0_88)
theorem ck_90 (h : Wf σ) {k : Option α} : op_ck 5 σ (90) k = k := h.ck (S0_90)
theorem gI_90 (h : Wf σ) : op_gI 5 j σ (90) = some (ah_I σ (90) j) := h.gI (S0_90)
theorem gL_90 (h : Wf σ) : op_gL 5 j σ (90) = some (ah_L σ (90) j) := h.gL (S0_90)
theorem pI_90 (h : Wf σ) : op_pI 5 j σ (90) x = some (ah_wI σ (90) j x) := h.pI (S0_90)
theorem pZ0_90 (h : Wf σ) : op_pZ 5 j σ (90) (nI 0) = some (ah_wI σ (90) j (nI 0)) := h.pZ (S0_90) (Or.inl rfl)
theorem pZ1_90 (h : Wf σ) : op_pZ 5 j σ (90) (nI 1) = some (ah_wI σ (90) j (nI 1)) := h.pZ (S0_90) (Or.inr rfl)
theorem pL_90 (h : Wf σ) : op_pL 5 j σ (90) y = some (ah_wL σ (90) j y) := h.pL (S0_90)
theorem ck_117 (h : Wf σ) {k : Option α} : op_ck 3 σ (117) k = k := h.ck (S0_117)
theorem gI_117 (h : Wf σ) : op_gI 3 j σ (117) = some (ah_I σ (117) j) := h.gI (S0_117)
theorem gL_117 (h : Wf σ) : op_gL 3 j σ (117) = some (ah_L σ (117) j) := h.gL (S0_117)
theorem pI_117 (h : Wf σ) : op_pI 3 j σ (117) x = some (ah_wI σ (117) j x) := h.pI (S0_117)
theorem pZ0_117 (h : Wf σ) : op_pZ 3 j σ (117) (nI 0) = some (ah_wI σ (117) j (nI 0)) := h.pZ (S0_117) (Or.inl rfl)
theorem pZ1_117 (h : Wf σ) : op_pZ 3 j σ (117) (nI 1) = some (ah_wI σ (117) j (nI 1)) := h.pZ (S0_117) (Or.inr rfl)
theorem pL_117 (h : Wf σ) : op_pL 3 j σ (117) y = some (ah_wL σ (117) j y) := h.pL (S0_117)
theorem ck_160 (h : Wf σ) {k : Option α} : op_ck 10 σ (160) k = k := h.ck (S0_160)
theorem gI_160 (h : Wf σ) : op_gI 10 j σ (160) = some (ah_I σ (160) j) := h.gI (S0_160)
theorem gL_160 (h : Wf σ) : op_gL 10 j σ (160) = some (ah_L σ (160) j) := h.gL (S0_160)
theorem pI_160 (h : Wf σ) : op_pI 10 j σ (160) x = some (ah_wI σ (160) j x) := h.pI (S0_160)
theorem pZ0_160 (h : Wf σ) : op_pZ 10 j σ (160) (nI 0) = some (ah_wI σ (160) j (nI 0)) := h.pZ (S0_160) (Or.inl rfl)
theorem pZ1_160 (h : Wf σ) : op_pZ 10 j σ (160) (nI 1) = some (ah_wI σ (160) j (nI 1)) := h.pZ (S0_160) (Or.inr rfl)
theorem pL_160 (h : Wf σ) : op_pL 10 j σ (160) y = some (ah_wL σ (160) j y) := h.pL (S0_160)
theorem ck_163 (h : Wf σ) {k : Option α} : op_ck 0 σ (163) k = k := h.ck (S0_163)
theorem gI_163 (h : Wf σ) : op_gI 0 j σ (163) = some (ah_I σ (163) j) := h.gI (S0_163)
theorem gL_163 (h : Wf σ) : op_gL 0 j σ (163) = some (ah_L σ (163) j) := h.gL (S0_163)
theorem pI_163 (h : Wf σ) : op_pI 0 j σ (163) x = some (ah_wI σ (163) j x) := h.pI (S0_163)
theorem pZ0_163 (h : Wf σ) : op_pZ 0 j σ (163) (nI 0) = some (ah_wI σ (163) j (nI 0)) := h.pZ (S0_163) (Or.inl rfl)
theorem pZ1_163 (h : Wf σ) : op_pZ 0 j σ (163) (nI 1) = some (ah_wI σ (163) j (nI 1)) := h.pZ (S0_163) (Or.inr rfl)
theorem pL_163 (h : Wf σ) : op_pL 0 j σ (163) y = some (ah_wL σ (163) j y) := h.pL (S0_163)
theorem ck_222 (h : Wf σ) {k : Option α} : op_ck 6 σ (222) k = k := h.ck (S0_222)
theorem gI_222 (h : Wf σ) : op_gI 6 j σ (222) = some (ah_I σ (222) j) := h.gI (S0_222)
theorem gL_222 (h : Wf σ) : op_gL 6 j σ (222) = some (ah_L σ (222) j) := h.gL (S0_222)
theorem pI_222 (h : Wf σ) : op_pI 6 j σ (222) x = some (ah_wI σ (222) j x) := h.pI (S0_222)
theorem pZ0_222 (h : Wf σ) : op_pZ 6 j σ (222) (nI 0) = some (ah_wI σ (222) j (nI 0)) := h.pZ (S0_222) (Or.inl rfl)
theorem pZ1_222 (h : Wf σ) : op_pZ 6 j σ (222) (nI 1) = some (ah_wI σ (222) j (nI 1)) := h.pZ (S0_222) (Or.inr rfl)
theorem pL_222 (h : Wf σ) : op_pL 6 j σ (222) y = some (ah_wL σ (222) j y) := h.pL (S0_222)
theorem ck_225 (h : Wf σ) {k : Option α} : op_ck 12 σ (225) k = k := h.ck (S0_225)
theorem gI_225 (h : Wf σ) : op_gI 12 j σ (225) = some (ah_I σ (225) j) := h.gI (S0_225)
theorem gL_225 (h : Wf σ) : op_gL 12 j σ (225) = some (ah_L σ (225) j) := h.gL (S0_225)
theorem pI_225 (h : Wf σ) : op_pI 12 j σ (225) x = some (ah_wI σ (225) j x) := h.pI (S0_225)
theorem pZ0_225 (h : Wf σ) : op_pZ 12 j σ (225) (nI 0) = some (ah_wI σ (225) j (nI 0)) := h.pZ (S0_225) (Or.inl rfl)
theorem pZ1_225 (h : Wf σ) : op_pZ 12 j σ (225) (nI 1) = some (ah_wI σ (225) j (nI 1)) := h.pZ (S0_225) (Or.inr rfl)
theorem pL_225 (h : Wf σ) : op_pL 12 j σ (225) y = some (ah_wL σ (225) j y) := h.pL (S0_225)
theorem S0_t (ht : Tn t) : S0[t]? = some (.inr 9) := by rcases ht with rfl | rfl <;> decide +kernel
theorem ck_t (h : Wf σ) (ht : Tn t) {k : Option α} : op_ck 9 σ (t) k = k := h.ck (S0_t ht)
theorem gI_t (h : Wf σ) (ht : Tn t) : op_gI 9 j σ (t) = some (ah_I σ (t) j) := h.gI (S0_t ht)
theorem gL_t (h : Wf σ) (ht : Tn t) : op_gL 9 j σ (t) = some (ah_L σ (t) j) := h.gL (S0_t ht)
theorem pI_t (h : Wf σ) (ht : Tn t) : op_pI 9 j σ (t) x = some (ah_wI σ (t) j x) := h.pI (S0_t ht)
theorem pZ0_t (h : Wf σ) (ht : Tn t) : op_pZ 9 j σ (t) (nI 0) = some (ah_wI σ (t) j (nI 0)) := h.pZ (S0_t ht) (Or.inl rfl)
theorem pZ1_t (h : Wf σ) (ht : Tn t) : op_pZ 9 j σ (t) (nI 1) = some (ah_wI σ (t) j (nI 1)) := h.pZ (S0_t ht) (Or.inr rfl)
theorem pL_t (h : Wf σ) (ht : Tn t) : op_pL 9 j σ (t) y = some (ah_wL σ (t) j y) := h.pL (S0_t ht)
theorem S0_w (ht : Tn t) : S0[t+33]? = some (.inr 4) := by rcases ht with rfl | rfl <;> decide +kernel
theorem ck_w (h : Wf σ) (ht : Tn t) {k : Option α} : op_ck 4 σ (t+33) k = k := h.ck (S0_w ht)
theorem gI_w (h : Wf σ) (ht : Tn t) : op_gI 4 j σ (t+33) = some (ah_I σ (t+33) j) := h.gI (S0_w ht)
theorem gL_w (h : Wf σ) (ht : Tn t) : op_gL 4 j σ (t+33) = some (ah_L σ (t+33) j) := h.gL (S0_w ht)
theorem pI_w (h : Wf σ) (ht : Tn t) : op_pI 4 j σ (t+33) x = some (ah_wI σ (t+33) j x) := h.pI (S0_w ht)
theorem pZ0_w (h : Wf σ) (ht : Tn t) : op_pZ 4 j σ (t+33) (nI 0) = some (ah_wI σ (t+33) j (nI 0)) := h.pZ (S0_w ht) (Or.inl rfl)
theorem pZ1_w (h : Wf σ) (ht : Tn t) : op_pZ 4 j σ (t+33) (nI 1) = some (ah_wI σ (t+33) j (nI 1)) := h.pZ (S0_w ht) (Or.inr rfl)
theorem pL_w (h : Wf σ) (ht : Tn t) : op_pL 4 j σ (t+33) y = some (ah_wL σ (t+33) j y) := h.pL (S0_w ht)
theorem S0_f (ht : Fl f) : S0[f]? = some (.inr 1) := by rcases ht with rfl | rfl | rfl <;> decide +kernel
theorem ck_f (h : Wf σ) (ht : Fl f) {k : Option α} : op_ck 1 σ (f) k = k := h.ck (S0_f ht)
theorem gI_f (h : Wf σ) (ht : Fl f) : op_gI 1 j σ (f) = some (ah_I σ (f) j) := h.gI (S0_f ht)
theorem gL_f (h : Wf σ) (ht : Fl f) : op_gL 1 j σ (f) = some (ah_L σ (f) j) := h.gL (S0_f ht)
theorem pI_f (h : Wf σ) (ht : Fl f) : op_pI 1 j σ (f) x = some (ah_wI σ (f) j x) := h.pI (S0_f ht)
theorem pZ0_f (h : Wf σ) (ht : Fl f) : op_pZ 1 j σ (f) (nI 0) = some (ah_wI σ (f) j (nI 0)) := h.pZ (S0_f ht) (Or.inl rfl)
theorem pZ1_f (h : Wf σ) (ht : Fl f) : op_pZ 1 j σ (f) (nI 1) = some (ah_wI σ (f) j (nI 1)) := h.pZ (S0_f ht) (Or.inr rfl)
theorem pL_f (h : Wf σ) (ht : Fl f) : op_pL 1 j σ (f) y = some (ah_wL σ (f) j y) := h.pL (S0_f ht)
theorem gR_0_0 (h : Wf σ) : op_gR 11 0 σ 0 = some 1 := h.gR S0_0 rfl (by decide)
theorem gR_0_2 (h : Wf σ) : op_gR 11 2 σ 0 = ah_R σ 0 2 := h.gM S0_0
theorem pR_0_2 (h : Wf σ) {b : Nat} : op_pR 11 2 σ 0 b = some (ah_wR σ 0 2 (some b)) := h.pR S0_0
theorem gR_0_3 (h : Wf σ) : op_gR 11 3 σ 0 = ah_R σ 0 3 := h.gM S0_0
theorem pR_0_3 (h : Wf σ) {b : Nat} : op_pR 11 3 σ 0 b = some (ah_wR σ 0 3 (some b)) := h.pR S0_0
theorem gR_0_4 (h : Wf σ) : op_gR 11 4 σ 0 = some 82 := h.gR S0_0 rfl (by decide)
theorem gR_0_5 (h : Wf σ) : op_gR 11 5 σ 0 = some 90 := h.gR S0_0 rfl (by decide)
theorem gR_0_6 (h : Wf σ) : op_gR 11 6 σ 0 = some 117 := h.gR S0_0 rfl (by decide)
theorem gR_0_7 (h : Wf σ) : op_gR 11 7 σ 0 = some 160 := h.gR S0_0 rfl (by decide)
theorem gR_0_8 (h : Wf σ) : op_gR 11 8 σ 0 = some 222 := h.gR S0_0 rfl (by decide)
theorem gR_82_0 (h : Wf σ) : op_gR 7 0 σ 82 = some 83 := h.gR S0_82 rfl (by decide)
theorem gR_82_1 (h : Wf σ) : op_gR 7 1 σ 82 = some 88 := h.gR S0_82 rfl (by decide)
theorem gR_82_2 (h : Wf σ) : op_gR 7 2 σ 82 = ah_R σ 82 2 := h.gM S0_82
theorem pR_82_2 (h : Wf σ) {b : Nat} : op_pR 7 2 σ 82 b = some (ah_wR σ 82 2 (some b)) := h.pR S0_82
theorem gR_83_0 (h : Wf σ) : op_gR 8 0 σ 83 = some 1 := h.gR S0_83 rfl (by decide)
theorem gR_83_1 (h : Wf σ) : op_gR 8 1 σ 83 = some 84 := h.gR S0_83 rfl (by decide)
theorem gR_83_2 (h : Wf σ) : op_gR 8 2 σ 83 = some 85 := h.gR S0_83 rfl (by decide)
theorem gR_83_3 (h : Wf σ) : op_gR 8 3 σ 83 = some 86 := h.gR S0_83 rfl (by decide)
theorem gR_83_4 (h : Wf σ) : op_gR 8 4 σ 83 = some 87 := h.gR S0_83 rfl (by decide)
theorem gR_88_0 (h : Wf σ) : op_gR 2 0 σ 88 = some 83 := h.gR S0_88 rfl (by decide)
theorem gR_88_1 (h : Wf σ) : op_gR 2 1 σ 88 = some 89 := h.gR S0_88 rfl (by decide)
theorem gR_88_2 (h : Wf σ) : op_gR 2 2 σ 88 = ah_R σ 88 2 := h.gM S0_88
theorem pR_88_2 (h : Wf σ) {b : Nat} : op_pR 2 2 σ 88 b = some (ah_wR σ 88 2 (some b)) := h.pR S0_88
theorem gR_90_0 (h : Wf σ) : op_gR 5 0 σ 90 = some 91 := h.gR S0_90 rfl (by decide)
theorem gR_90_1 (h : Wf σ) : op_gR 5 1 σ 90 = some 92 := h.gR S0_90 rfl (by decide)
theorem gR_90_2 (h : Wf σ) : op_gR 5 2 σ 90 = some 93 := h.gR S0_90 rfl (by decide)
theorem gR_90_3 (h : Wf σ) : op_gR 5 3 σ 90 = some 94 := h.gR S0_90 rfl (by decide)
theorem gR_90_6 (h : Wf σ) : op_gR 5 6 σ 90 = some 95 := h.gR S0_90 rfl (by decide)
theorem gR_90_8 (h : Wf σ) : op_gR 5 8 σ 90 = some 116 := h.gR S0_90 rfl (by decide)
theorem gR_117_0 (h : Wf σ) : op_gR 3 0 σ 117 = some 118 := h.gR S0_117 rfl (by decide)
theorem gR_117_1 (h : Wf σ) : op_gR 3 1 σ 117 = some 139 := h.gR S0_117 rfl (by decide)
theorem gR_117_5 (h : Wf σ) : op_gR 3 5 σ 117 = some 90 := h.gR S0_117 rfl (by decide)
theorem gR_117_6 (h : Wf σ) : op_gR 3 6 σ 117 = ah_R σ 117 6 := h.gM S0_117
theorem pR_117_6 (h : Wf σ) {b : Nat} : op_pR 3 6 σ 117 b = some (ah_wR σ 117 6 (some b)) := h.pR S0_117
theorem gR_160_3 (h : Wf σ) : op_gR 10 3 σ 160 = some 163 := h.gR S0_160 rfl (by decide)
theorem gR_160_4 (h : Wf σ) : op_gR 10 4 σ 160 = some 161 := h.gR S0_160 rfl (by decide)
theorem gR_160_5 (h : Wf σ) : op_gR 10 5 σ 160 = some 162 := h.gR S0_160 rfl (by decide)
theorem gR_160_6 (h : Wf σ) : op_gR 10 6 σ 160 = ah_R σ 160 6 := h.gM S0_160
theorem pR_160_6 (h : Wf σ) {b : Nat} : op_pR 10 6 σ 160 b = some (ah_wR σ 160 6 (some b)) := h.pR S0_160
theorem gR_163_1 (h : Wf σ) : op_gR 0 1 σ 163 = some 164 := h.gR S0_163 rfl (by decide)
theorem gR_163_2 (h : Wf σ) : op_gR 0 2 σ 163 = some 201 := h.gR S0_163 rfl (by decide)
theorem gR_163_3 (h : Wf σ) : op_gR 0 3 σ 163 = some 165 := h.gR S0_163 rfl (by decide)
theorem gR_163_5 (h : Wf σ) : op_gR 0 5 σ 163 = some 166 := h.gR S0_163 rfl (by decide)
theorem gR_163_6 (h : Wf σ) : op_gR 0 6 σ 163 = some 167 := h.gR S0_163 rfl (by decide)
theorem gR_163_7 (h : Wf σ) : op_gR 0 7 σ 163 = some 168 := h.gR S0_163 rfl (by decide)
theorem gR_163_9 (h : Wf σ) : op_gR 0 9 σ 163 = some 169 := h.gR S0_163 rfl (by decide)
theorem gR_163_10 (h : Wf σ) : op_gR 0 10 σ 163 = some 177 := h.gR S0_163 rfl (by decide)
theorem gR_163_11 (h : Wf σ) : op_gR 0 11 σ 163 = some 185 := h.gR S0_163 rfl (by decide)
theorem gR_163_12 (h : Wf σ) : op_gR 0 12 σ 163 = some 186 := h.gR S0_163 rfl (by decide)
theorem gR_163_13 (h : Wf σ) : op_gR 0 13 σ 163 = some 187 := h.gR S0_163 rfl (by decide)
theorem gR_163_14 (h : Wf σ) : op_gR 0 14 σ 163 = some 188 := h.gR S0_163 rfl (by decide)
theorem gR_163_15 (h : Wf σ) : op_gR 0 15 σ 163 = some 196 := h.gR S0_163 rfl (by decide)
theorem gR_163_17 (h : Wf σ) : op_gR 0 17 σ 163 = ah_R σ 163 17 := h.gM S0_163
theorem pR_163_17 (h : Wf σ) {b : Nat} : op_pR 0 17 σ 163 b = some (ah_wR σ 163 17 (some b)) := h.pR S0_163
theorem gR_222_1 (h : Wf σ) : op_gR 6 1 σ 222 = some 223 := h.gR S0_222 rfl (by decide)
theorem gR_222_2 (h : Wf σ) : op_gR 6 2 σ 222 = some 224 := h.gR S0_222 rfl (by decide)
theorem gR_222_3 (h : Wf σ) : op_gR 6 3 σ 222 = some 90 := h.gR S0_222 rfl (by decide)
theorem gR_222_4 (h : Wf σ) : op_gR 6 4 σ 222 = ah_R σ 222 4 := h.gM S0_222
theorem pR_222_4 (h : Wf σ) {b : Nat} : op_pR 6 4 σ 222 b = some (ah_wR σ 222 4 (some b)) := h.pR S0_222
theorem gR_225_1 (h : Wf σ) : op_gR 12 1 σ 225 = some 226 := h.gR S0_225 rfl (by decide)
theorem gR_225_3 (h : Wf σ) : op_gR 12 3 σ 225 = some 227 := h.gR S0_225 rfl (by decide)
theorem gR_225_4 (h : Wf σ) : op_gR 12 4 σ 225 = some 228 := h.gR S0_225 rfl (by decide)
theorem gR_225_5 (h : Wf σ) : op_gR 12 5 σ 225 = some 229 := h.gR S0_225 rfl (by decide)
theorem gR_225_6 (h : Wf σ) : op_gR 12 6 σ 225 = some 230 := h.gR S0_225 rfl (by decide)
theorem gR_225_7 (h : Wf σ) : op_gR 12 7 σ 225 = some 231 := h.gR S0_225 rfl (by decide)
theorem gR_225_8 (h : Wf σ) : op_gR 12 8 σ 225 = some 232 := h.gR S0_225 rfl (by decide)
theorem gR_225_9 (h : Wf σ) : op_gR 12 9 σ 225 = some 233 := h.gR S0_225 rfl (by decide)
theorem gR_225_10 (h : Wf σ) : op_gR 12 10 σ 225 = some 234 := h.gR S0_225 rfl (by decide)
theorem gR_225_11 (h : Wf σ) : op_gR 12 11 σ 225 = some 235 := h.gR S0_225 rfl (by decide)
theorem gR_225_12 (h : Wf σ) : op_gR 12 12 σ 225 = some 236 := h.gR S0_225 rfl (by decide)
theorem gR_225_13 (h : Wf σ) : op_gR 12 13 σ 225 = some 237 := h.gR S0_225 rfl (by decide)
theorem gR_225_14 (h : Wf σ) : op_gR 12 14 σ 225 = some 238 := h.gR S0_225 rfl (by decide)
theorem gR_225_15 (h : Wf σ) : op_gR 12 15 σ 225 = some 239 := h.gR S0_225 rfl (by decide)
theorem gR_225_16 (h : Wf σ) : op_gR 12 16 σ 225 = some 240 := h.gR S0_225 rfl (by decide)
theorem gR_225_17 (h : Wf σ) : op_gR 12 17 σ 225 = some 241 := h.gR S0_225 rfl (by decide)
theorem gR_225_18 (h : Wf σ) : op_gR 12 18 σ 225 = some 242 := h.gR S0_225 rfl (by decide)
theorem gR_225_19 (h : Wf σ) : op_gR 12 19 σ 225 = some 243 := h.gR S0_225 rfl (by decide)
theorem gR_225_20 (h : Wf σ) : op_gR 12 20 σ 225 = some 244 := h.gR S0_225 rfl (by decide)
theorem gR_225_21 (h : Wf σ) : op_gR 12 21 σ 225 = some 245 := h.gR S0_225 rfl (by decide)
theorem gR_225_35 (h : Wf σ) : op_gR 12 35 σ 225 = some 246 := h.gR S0_225 rfl (by decide)
theorem gR_225_36 (h : Wf σ) : op_gR 12 36 σ 225 = some 247 := h.gR S0_225 rfl (by decide)
theorem gR_225_38 (h : Wf σ) : op_gR 12 38 σ 225 = some 248 := h.gR S0_225 rfl (by decide)
theorem gR_225_39 (h : Wf σ) : op_gR 12 39 σ 225 = some 249 := h.gR S0_225 rfl (by decide)
theorem gR_225_40 (h : Wf σ) : op_gR 12 40 σ 225 = some 250 := h.gR S0_225 rfl (by decide)
theorem gR_225_41 (h : Wf σ) : op_gR 12 41 σ 225 = some 251 := h.gR S0_225 rfl (by decide)
theorem gR_225_43 (h : Wf σ) : op_gR 12 43 σ 225 = some 252 := h.gR S0_225 rfl (by decide)
theorem gR_225_44 (h : Wf σ) : op_gR 12 44 σ 225 = some 253 := h.gR S0_225 rfl (by decide)
theorem gR_225_45 (h : Wf σ) : op_gR 12 45 σ 225 = some 254 := h.gR S0_225 rfl (by decide)
theorem gR_225_48 (h : Wf σ) : op_gR 12 48 σ 225 = some 255 := h.gR S0_225 rfl (by decide)
theorem gR_225_49 (h : Wf σ) : op_gR 12 49 σ 225 = some 256 := h.gR S0_225 rfl (by decide)
theorem gR_225_50 (h : Wf σ) : op_gR 12 50 σ 225 = some 257 := h.gR S0_225 rfl (by decide)
theorem gR_225_51 (h : Wf σ) : op_gR 12 51 σ 225 = some 258 := h.gR S0_225 rfl (by decide)
theorem gR_225_53 (h : Wf σ) : op_gR 12 53 σ 225 = some 259 := h.gR S0_225 rfl (by decide)
theorem gR_225_54 (h : Wf σ) : op_gR 12 54 σ 225 = some 260 := h.gR S0_225 rfl (by decide)
theorem gR_225_55 (h : Wf σ) : op_gR 12 55 σ 225 = some 261 := h.gR S0_225 rfl (by decide)
theorem gR_225_56 (h : Wf σ) : op_gR 12 56 σ 225 = some 262 := h.gR S0_225 rfl (by decide)
theorem gR_225_58 (h : Wf σ) : op_gR 12 58 σ 225 = some 263 := h.gR S0_225 rfl (by decide)
theorem gR_225_59 (h : Wf σ) : op_gR 12 59 σ 225 = some 264 := h.gR S0_225 rfl (by decide)
theorem gR_225_60 (h : Wf σ) : op_gR 12 60 σ 225 = some 265 := h.gR S0_225 rfl (by decide)
theorem gR_225_61 (h : Wf σ) : op_gR 12 61 σ 225 = some 266 := h.gR S0_225 rfl (by decide)
theorem gR_225_62 (h : Wf σ) : op_gR 12 62 σ 225 = some 267 := h.gR S0_225 rfl (by decide)
theorem gR_225_63 (h : Wf σ) : op_gR 12 63 σ 225 = some 268 := h.gR S0_225 rfl (by decide)
theorem gR_225_66 (h : Wf σ) : op_gR 12 66 σ 225 = some 269 := h.gR S0_225 rfl (by decide)
theorem gR_225_67 (h : Wf σ) : op_gR 12 67 σ 225 = some 270 := h.gR S0_225 rfl (by decide)
theorem gR_t_1 (h : Wf σ) (ht : Tn t) : op_gR 9 1 σ (t) = some (t+1) := h.gR (S0_t ht) (by rcases ht with rfl | rfl <;> rfl) (by rcases ht with rfl | rfl <;> decide)
theorem gR_t_5 (h : Wf σ) (ht : Tn t) : op_gR 9 5 σ (t) = some (t+9) := h.gR (S0_t ht) (by rcases ht with rfl | rfl <;> rfl) (by rcases ht with rfl | rfl <;> decide)
theorem gR_t_7 (h : Wf σ) (ht : Tn t) : op_gR 9 7 σ (t) = some (t+20) := h.gR (S0_t ht) (by rcases ht with rfl | rfl <;> rfl) (by rcases ht with rfl | rfl <;> decide)
theorem gR_t_9 (h : Wf σ) (ht : Tn t) : op_gR 9 9 σ (t) = some (t+25) := h.gR (S0_t ht) (by rcases ht with rfl | rfl <;> rfl) (by rcases ht with rfl | rfl <;> decide)
theorem gR_t_10 (h : Wf σ) (ht : Tn t) : op_gR 9 10 σ (t) = some (t+26) := h.gR (S0_t ht) (by rcases ht with rfl | rfl <;> rfl) (by rcases ht with rfl | rfl <;> decide)
theorem gR_t_11 (h : Wf σ) (ht : Tn t) : op_gR 9 11 σ (t) = some (t+31) := h.gR (S0_t ht) (by rcases ht with rfl | rfl <;> rfl) (by rcases ht with rfl | rfl <;> decide)
theorem gR_t_12 (h : Wf σ) (ht : Tn t) : op_gR 9 12 σ (t) = some (t+32) := h.gR (S0_t ht) (by rcases ht with rfl | rfl <;> rfl) (by rcases ht with rfl | rfl <;> decide)
theorem gR_t_15 (h : Wf σ) (ht : Tn t) : op_gR 9 15 σ (t) = some (t+33) := h.gR (S0_t ht) (by rcases ht with rfl | rfl <;> rfl) (by rcases ht with rfl | rfl <;> decide)
theorem gR_w_2 (h : Wf σ) (ht : Tn t) : op_gR 4 2 σ (t+33) = some (t+34) := h.gR (S0_w ht) (by rcases ht with rfl | rfl <;> rfl) (by rcases ht with rfl | rfl <;> decide)
theorem gR_w_3 (h : Wf σ) (ht : Tn t) : op_gR 4 3 σ (t+33) = some (t+35) := h.gR (S0_w ht) (by rcases ht with rfl | rfl <;> rfl) (by rcases ht with rfl | rfl <;> decide)
theorem gR_w_4 (h : Wf σ) (ht : Tn t) : op_gR 4 4 σ (t+33) = some (t+36) := h.gR (S0_w ht) (by rcases ht with rfl | rfl <;> rfl) (by rcases ht with rfl | rfl <;> decide)
theorem gR_w_5 (h : Wf σ) (ht : Tn t) : op_gR 4 5 σ (t+33) = some (t+37) := h.gR (S0_w ht) (by rcases ht with rfl | rfl <;> rfl) (by rcases ht with rfl | rfl <;> decide)
theorem gR_w_6 (h : Wf σ) (ht : Tn t) : op_gR 4 6 σ (t+33) = some (t+38) := h.gR (S0_w ht) (by rcases ht with rfl | rfl <;> rfl) (by rcases ht with rfl | rfl <;> decide)
theorem gR_w_7 (h : Wf σ) (ht : Tn t) : op_gR 4 7 σ (t+33) = some (t+39) := h.gR (S0_w ht) (by rcases ht with rfl | rfl <;> rfl) (by rcases ht with rfl | rfl <;> decide)
theorem gR_f_0 (h : Wf σ) (ht : Fl f) : op_gR 1 0 σ (f) = some (f+1) := h.gR (S0_f ht) (by rcases ht with rfl | rfl | rfl <;> rfl) (by rcases ht with rfl | rfl | rfl <;> decide)
theorem gR_f_1 (h : Wf σ) (ht : Fl f) : op_gR 1 1 σ (f) = some (f+9) := h.gR (S0_f ht) (by rcases ht with rfl | rfl | rfl <;> rfl) (by rcases ht with rfl | rfl | rfl <;> decide)
theorem gR_f_2 (h : Wf σ) (ht : Fl f) : op_gR 1 2 σ (f) = some (f+17) := h.gR (S0_f ht) (by rcases ht with rfl | rfl | rfl <;> rfl) (by rcases ht with rfl | rfl | rfl <;> decide)
theorem gR_f_3 (h : Wf σ) (ht : Fl f) : op_gR 1 3 σ (f) = some (f+18) := h.gR (S0_f ht) (by rcases ht with rfl | rfl | rfl <;> rfl) (by rcases ht with rfl | rfl | rfl <;> decide)
theorem gR_f_4 (h : Wf σ) (ht : Fl f) : op_gR 1 4 σ (f) = some (f+19) := h.gR (S0_f ht) (by rcases ht with rfl | rfl | rfl <;> rfl) (by rcases ht with rfl | rfl | rfl <;> decide)
theorem gR_f_5 (h : Wf σ) (ht : Fl f) : op_gR 1 5 σ (f) = some (f+20) := h.gR (S0_f ht) (by rcases ht with rfl | rfl | rfl <;> rfl) (by rcases ht with rfl | rfl | rfl <;> decide)
theorem gR_f_7 (h : Wf σ) (ht : Fl f) : op_gR 1 7 σ (f) = some (fst_ f) := h.gR (S0_f ht) (by rcases ht with rfl | rfl | rfl <;> rfl) (by rcases ht with rfl | rfl | rfl <;> decide)
theorem gR_f_8 (h : Wf σ) (ht : Fl f) : op_gR 1 8 σ f = ah_R σ f 8 := h.gM (S0_f ht)
theorem pR_f_8 (h : Wf σ) (ht : Fl f) {b : Nat} : op_pR 1 8 σ f b = some (ah_wR σ f 8 (some b)) := h.pR (S0_f ht)
theorem S0_past (hc : c < 20) : S0[96+c]? = some (.inl (.int, 28)) := (by decide +kernel : ∀ c, c < 20 → S0[96+c]? = some (.inl (.int, 28))) c hc
theorem aR_past (h : Wf σ) (hc : c < 20) : op_aR .int σ (95) (nI c) = some (96+c) := h.aR (S0_95) hc (by decide) ((by decide +kernel : ∀ c, c < 20 → R0 (95) c = some (96+c)) c hc) ((by decide +kernel : ∀ c, c < 20 → ((95, c) : Nat × Nat) ∉ mut0) c hc)
theorem aI_past (h : Wf σ) (hc : c < 20) (hk : k < 28) : op_aI σ (96+c) (nI k) = some (ah_I σ (96+c) k) := h.aI (S0_past hc) hk (by decide)
theorem sI_past (h : Wf σ) (hc : c < 20) (hk : k < 28) : op_sI σ (96+c) (nI k) x = some (ah_wI σ (96+c) k x) := h.sI (S0_past hc) hk (by decide)
theorem len_past (h : Wf σ) (hc : c < 20) : op_len .int σ (96+c) = some 28 := h.len (S0_past hc)
theorem S0_exact (hc : c < 7) : S0[170+c]? = some (.inl (.long, 104)) := (by decide +kernel : ∀ c, c < 7 → S0[170+c]? = some (.inl (.long, 104))) c hc
theorem aR_exact (h : Wf σ) (hc : c < 7) : op_aR .long σ (169) (nI c) = some (170+c) := h.aR (S0_169) hc (by decide) ((by decide +kernel : ∀ c, c < 7 → R0 (169) c = some (170+c)) c hc) ((by decide +kernel : ∀ c, c < 7 → ((169, c) : Nat × Nat) ∉ mut0) c hc)
theorem aL_exact (h : Wf σ) (hc : c < 7) (hk : k < 104) : op_aL σ (170+c) (nI k) = some (ah_L σ (170+c) k) := h.aL (S0_exact hc) hk (by decide)
theorem sL_exact (h : Wf σ) (hc : c < 7) (hk : k < 104) : op_sL σ (170+c) (nI k) y = some (ah_wL σ (170+c) k y) := h.sL (S0_exact hc) hk (by decide)
theorem len_exact (h : Wf σ) (hc : c < 7) : op_len .long σ (170+c) = some 104 := h.len (S0_exact hc)
theorem S0_under (hc : c < 7) : S0[178+c]? = some (.inl (.long, 104)) := (by decide +kernel : ∀ c, c < 7 → S0[178+c]? = some (.inl (.long, 104))) c hc
theorem aR_under (h : Wf σ) (hc : c < 7) : op_aR .long σ (177) (nI c) = some (178+c) := h.aR (S0_177) hc (by decide) ((by decide +kernel : ∀ c, c < 7 → R0 (177) c = some (178+c)) c hc) ((by decide +kernel : ∀ c, c < 7 → ((177, c) : Nat × Nat) ∉ mut0) c hc)
theorem aL_under (h : Wf σ) (hc : c < 7) (hk : k < 104) : op_aL σ (178+c) (nI k) = some (ah_L σ (178+c) k) := h.aL (S0_under hc) hk (by decide)
theorem sL_under (h : Wf σ) (hc : c < 7) (hk : k < 104) : op_sL σ (178+c) (nI k) y = some (ah_wL σ (178+c) k y) := h.sL (S0_under hc) hk (by decide)
theorem len_under (h : Wf σ) (hc : c < 7) : op_len .long σ (178+c) = some 104 := h.len (S0_under hc)
theorem S0_digg (hc : c < 7) : S0[189+c]? = some (.inl (.long, 52)) := (by decide +kernel : ∀ c, c < 7 → S0[189+c]? = some (.inl (.long, 52))) c hc
theorem aR_digg (h : Wf σ) (hc : c < 7) : op_aR .long σ (188) (nI c) = some (189+c) := h.aR (S0_188) hc (by decide) ((by decide +kernel : ∀ c, c < 7 → R0 (188) c = some (189+c)) c hc) ((by decide +kernel : ∀ c, c < 7 → ((188, c) : Nat × Nat) ∉ mut0) c hc)
theorem aL_digg (h : Wf σ) (hc : c < 7) (hk : k < 52) : op_aL σ (189+c) (nI k) = some (ah_L σ (189+c) k) := h.aL (S0_digg hc) hk (by decide)
theorem sL_digg (h : Wf σ) (hc : c < 7) (hk : k < 52) : op_sL σ (189+c) (nI k) y = some (ah_wL σ (189+c) k y) := h.sL (S0_digg hc) hk (by decide)
theorem len_digg (h : Wf σ) (hc : c < 7) : op_len .long σ (189+c) = some 52 := h.len (S0_digg hc)
theorem S0_carr (hc : c < 4) : S0[197+c]? = some (.inl (.long, 100)) := (by decide +kernel : ∀ c, c < 4 → S0[197+c]? = some (.inl (.long, 100))) c hc
theorem aR_carr (h : Wf σ) (hc : c < 4) : op_aR .long σ (196) (nI c) = some (197+c) := h.aR (S0_196) hc (by decide) ((by decide +kernel : ∀ c, c < 4 → R0 (196) c = some (197+c)) c hc) ((by decide +kernel : ∀ c, c < 4 → ((196, c) : Nat × Nat) ∉ mut0) c hc)
theorem aL_carr (h : Wf σ) (hc : c < 4) (hk : k < 100) : op_aL σ (197+c) (nI k) = some (ah_L σ (197+c) k) := h.aL (S0_carr hc) hk (by decide)
theorem sL_carr (h : Wf σ) (hc : c < 4) (hk : k < 100) : op_sL σ (197+c) (nI k) y = some (ah_wL σ (197+c) k y) := h.sL (S0_carr hc) hk (by decide)
theorem len_carr (h : Wf σ) (hc : c < 4) : op_len .long σ (197+c) = some 100 := h.len (S0_carr hc)
theorem aB_1 (h : Wf σ) (hk : k < 700) : op_aB σ (1) (nI k) = some (ah_I σ (1) k) := h.aB (S0_1) hk (by decide)
theorem sB_1 (h : Wf σ) (hk : k < 700) : op_sB σ (1) (nI k) x = some (ah_wI σ (1) k (vp_nar .byte x)) := h.sB (S0_1) hk (by decide)
theorem len_1 (h : Wf σ) : op_len .byte σ (1) = some 700 := h.len (S0_1)
theorem aI_84 (h : Wf σ) (hk : k < 24) : op_aI σ (84) (nI k) = some (ah_I σ (84) k) := h.aI (S0_84) hk (by decide)
theorem sI_84 (h : Wf σ) (hk : k < 24) : op_sI σ (84) (nI k) x = some (ah_wI σ (84) k x) := h.sI (S0_84) hk (by decide)
theorem len_84 (h : Wf σ) : op_len .int σ (84) = some 24 := h.len (S0_84)
theorem aI_85 (h : Wf σ) (hk : k < 701) : op_aI σ (85) (nI k) = some (ah_I σ (85) k) := h.aI (S0_85) hk (by decide)
theorem sI_85 (h : Wf σ) (hk : k < 701) : op_sI σ (85) (nI k) x = some (ah_wI σ (85) k x) := h.sI (S0_85) hk (by decide)
theorem len_85 (h : Wf σ) : op_len .int σ (85) = some 701 := h.len (S0_85)
theorem aI_86 (h : Wf σ) (hk : k < 701) : op_aI σ (86) (nI k) = some (ah_I σ (86) k) := h.aI (S0_86) hk (by decide)
theorem sI_86 (h : Wf σ) (hk : k < 701) : op_sI σ (86) (nI k) x = some (ah_wI σ (86) k x) := h.sI (S0_86) hk (by decide)
theorem len_86 (h : Wf σ) : op_len .int σ (86) = some 701 := h.len (S0_86)
theorem aI_87 (h : Wf σ) (hk : k < 701) : op_aI σ (87) (nI k) = some (ah_I σ (87) k) := h.aI (S0_87) hk (by decide)
theorem sI_87 (h : Wf σ) (hk : k < 701) : op_sI σ (87) (nI k) x = some (ah_wI σ (87) k x) := h.sI (S0_87) hk (by decide)
theorem len_87 (h : Wf σ) : op_len .int σ (87) = some 701 := h.len (S0_87)
theorem aI_89 (h : Wf σ) (hk : k < 72) : op_aI σ (89) (nI k) = some (ah_I σ (89) k) := h.aI (S0_89) hk (by decide)
theorem sI_89 (h : Wf σ) (hk : k < 72) : op_sI σ (89) (nI k) x = some (ah_wI σ (89) k x) := h.sI (S0_89) hk (by decide)
theorem len_89 (h : Wf σ) : op_len .int σ (89) = some 72 := h.len (S0_89)
theorem aI_91 (h : Wf σ) (hk : k < 7) : op_aI σ (91) (nI k) = some (ah_I σ (91) k) := h.aI (S0_91) hk (by decide)
theorem sI_91 (h : Wf σ) (hk : k < 7) : op_sI σ (91) (nI k) x = some (ah_wI σ (91) k x) := h.sI (S0_91) hk (by decide)
theorem len_91 (h : Wf σ) : op_len .int σ (91) = some 7 := h.len (S0_91)
theorem aI_92 (h : Wf σ) (hk : k < 7) : op_aI σ (92) (nI k) = some (ah_I σ (92) k) := h.aI (S0_92) hk (by decide)
theorem sI_92 (h : Wf σ) (hk : k < 7) : op_sI σ (92) (nI k) x = some (ah_wI σ (92) k x) := h.sI (S0_92) hk (by decide)
theorem len_92 (h : Wf σ) : op_len .int σ (92) = some 7 := h.len (S0_92)
theorem aI_93 (h : Wf σ) (hk : k < 7) : op_aI σ (93) (nI k) = some (ah_I σ (93) k) := h.aI (S0_93) hk (by decide)
theorem sI_93 (h : Wf σ) (hk : k < 7) : op_sI σ (93) (nI k) x = some (ah_wI σ (93) k x) := h.sI (S0_93) hk (by decide)
theorem len_93 (h : Wf σ) : op_len .int σ (93) = some 7 := h.len (S0_93)
theorem aI_94 (h : Wf σ) (hk : k < 7) : op_aI σ (94) (nI k) = some (ah_I σ (94) k) := h.aI (S0_94) hk (by decide)
theorem sI_94 (h : Wf σ) (hk : k < 7) : op_sI σ (94) (nI k) x = some (ah_wI σ (94) k x) := h.sI (S0_94) hk (by decide)
theorem len_94 (h : Wf σ) : op_len .int σ (94) = some 7 := h.len (S0_94)
theorem aI_116 (h : Wf σ) (hk : k < 28) : op_aI σ (116) (nI k) = some (ah_I σ (116) k) := h.aI (S0_116) hk (by decide)
theorem sI_116 (h : Wf σ) (hk : k < 28) : op_sI σ (116) (nI k) x = some (ah_wI σ (116) k x) := h.sI (S0_116) hk (by decide)
theorem len_116 (h : Wf σ) : op_len .int σ (116) = some 28 := h.len (S0_116)
theorem aL_161 (h : Wf σ) (hk : k < 1024) : op_aL σ (161) (nI k) = some (ah_L σ (161) k) := h.aL (S0_161) hk (by decide)
theorem sL_161 (h : Wf σ) (hk : k < 1024) : op_sL σ (161) (nI k) y = some (ah_wL σ (161) k y) := h.sL (S0_161) hk (by decide)
theorem len_161 (h : Wf σ) : op_len .long σ (161) = some 1024 := h.len (S0_161)
theorem aL_162 (h : Wf σ) (hk : k < 1024) : op_aL σ (162) (nI k) = some (ah_L σ (162) k) := h.aL (S0_162) hk (by decide)
theorem sL_162 (h : Wf σ) (hk : k < 1024) : op_sL σ (162) (nI k) y = some (ah_wL σ (162) k y) := h.sL (S0_162) hk (by decide)
theorem len_162 (h : Wf σ) : op_len .long σ (162) = some 1024 := h.len (S0_162)
theorem aI_164 (h : Wf σ) (hk : k < 7) : op_aI σ (164) (nI k) = some (ah_I σ (164) k) := h.aI (S0_164) hk (by decide)
theorem sI_164 (h : Wf σ) (hk : k < 7) : op_sI σ (164) (nI k) x = some (ah_wI σ (164) k x) := h.sI (S0_164) hk (by decide)
theorem len_164 (h : Wf σ) : op_len .int σ (164) = some 7 := h.len (S0_164)
theorem aI_165 (h : Wf σ) (hk : k < 7) : op_aI σ (165) (nI k) = some (ah_I σ (165) k) := h.aI (S0_165) hk (by decide)
theorem sI_165 (h : Wf σ) (hk : k < 7) : op_sI σ (165) (nI k) x = some (ah_wI σ (165) k x) := h.sI (S0_165) hk (by decide)
theorem len_165 (h : Wf σ) : op_len .int σ (165) = some 7 := h.len (S0_165)
theorem aI_166 (h : Wf σ) (hk : k < 7) : op_aI σ (166) (nI k) = some (ah_I σ (166) k) := h.aI (S0_166) hk (by decide)
theorem sI_166 (h : Wf σ) (hk : k < 7) : op_sI σ (166) (nI k) x = some (ah_wI σ (166) k x) := h.sI (S0_166) hk (by decide)
theorem len_166 (h : Wf σ) : op_len .int σ (166) = some 7 := h.len (S0_166)
theorem aI_167 (h : Wf σ) (hk : k < 7) : op_aI σ (167) (nI k) = some (ah_I σ (167) k) := h.aI (S0_167) hk (by decide)
theorem sI_167 (h : Wf σ) (hk : k < 7) : op_sI σ (167) (nI k) x = some (ah_wI σ (167) k x) := h.sI (S0_167) hk (by decide)
theorem len_167 (h : Wf σ) : op_len .int σ (167) = some 7 := h.len (S0_167)
theorem aI_168 (h : Wf σ) (hk : k < 7) : op_aI σ (168) (nI k) = some (ah_I σ (168) k) := h.aI (S0_168) hk (by decide)
theorem sI_168 (h : Wf σ) (hk : k < 7) : op_sI σ (168) (nI k) x = some (ah_wI σ (168) k x) := h.sI (S0_168) hk (by decide)
theorem len_168 (h : Wf σ) : op_len .int σ (168) = some 7 := h.len (S0_168)
theorem aL_185 (h : Wf σ) (hk : k < 104) : op_aL σ (185) (nI k) = some (ah_L σ (185) k) := h.aL (S0_185) hk (by decide)
theorem sL_185 (h : Wf σ) (hk : k < 104) : op_sL σ (185) (nI k) y = some (ah_wL σ (185) k y) := h.sL (S0_185) hk (by decide)
theorem len_185 (h : Wf σ) : op_len .long σ (185) = some 104 := h.len (S0_185)
theorem aL_186 (h : Wf σ) (hk : k < 104) : op_aL σ (186) (nI k) = some (ah_L σ (186) k) := h.aL (S0_186) hk (by decide)
theorem sL_186 (h : Wf σ) (hk : k < 104) : op_sL σ (186) (nI k) y = some (ah_wL σ (186) k y) := h.sL (S0_186) hk (by decide)
theorem len_186 (h : Wf σ) : op_len .long σ (186) = some 104 := h.len (S0_186)
theorem aL_187 (h : Wf σ) (hk : k < 13) : op_aL σ (187) (nI k) = some (ah_L σ (187) k) := h.aL (S0_187) hk (by decide)
theorem sL_187 (h : Wf σ) (hk : k < 13) : op_sL σ (187) (nI k) y = some (ah_wL σ (187) k y) := h.sL (S0_187) hk (by decide)
theorem len_187 (h : Wf σ) : op_len .long σ (187) = some 13 := h.len (S0_187)
theorem aI_223 (h : Wf σ) (hk : k < 7) : op_aI σ (223) (nI k) = some (ah_I σ (223) k) := h.aI (S0_223) hk (by decide)
theorem sI_223 (h : Wf σ) (hk : k < 7) : op_sI σ (223) (nI k) x = some (ah_wI σ (223) k x) := h.sI (S0_223) hk (by decide)
theorem len_223 (h : Wf σ) : op_len .int σ (223) = some 7 := h.len (S0_223)
theorem aL_224 (h : Wf σ) (hk : k < 128) : op_aL σ (224) (nI k) = some (ah_L σ (224) k) := h.aL (S0_224) hk (by decide)
theorem sL_224 (h : Wf σ) (hk : k < 128) : op_sL σ (224) (nI k) y = some (ah_wL σ (224) k y) := h.sL (S0_224) hk (by decide)
theorem len_224 (h : Wf σ) : op_len .long σ (224) = some 128 := h.len (S0_224)
theorem aI_226 (h : Wf σ) (hk : k < 700) : op_aI σ (226) (nI k) = some (ah_I σ (226) k) := h.aI (S0_226) hk (by decide)
theorem sI_226 (h : Wf σ) (hk : k < 700) : op_sI σ (226) (nI k) x = some (ah_wI σ (226) k x) := h.sI (S0_226) hk (by decide)
theorem len_226 (h : Wf σ) : op_len .int σ (226) = some 700 := h.len (S0_226)
theorem aI_227 (h : Wf σ) (hk : k < 24) : op_aI σ (227) (nI k) = some (ah_I σ (227) k) := h.aI (S0_227) hk (by decide)
theorem sI_227 (h : Wf σ) (hk : k < 24) : op_sI σ (227) (nI k) x = some (ah_wI σ (227) k x) := h.sI (S0_227) hk (by decide)
theorem len_227 (h : Wf σ) : op_len .int σ (227) = some 24 := h.len (S0_227)
theorem aI_228 (h : Wf σ) (hk : k < 14) : op_aI σ (228) (nI k) = some (ah_I σ (228) k) := h.aI (S0_228) hk (by decide)
theorem sI_228 (h : Wf σ) (hk : k < 14) : op_sI σ (228) (nI k) x = some (ah_wI σ (228) k x) := h.sI (S0_228) hk (by decide)
theorem len_228 (h : Wf σ) : op_len .int σ (228) = some 14 := h.len (S0_228)
theorem aI_229 (h : Wf σ) (hk : k < 14) : op_aI σ (229) (nI k) = some (ah_I σ (229) k) := h.aI (S0_229) hk (by decide)
theorem sI_229 (h : Wf σ) (hk : k < 14) : op_sI σ (229) (nI k) x = some (ah_wI σ (229) k x) := h.sI (S0_229) hk (by decide)
theorem len_229 (h : Wf σ) : op_len .int σ (229) = some 14 := h.len (S0_229)
theorem aI_230 (h : Wf σ) (hk : k < 14) : op_aI σ (230) (nI k) = some (ah_I σ (230) k) := h.aI (S0_230) hk (by decide)
theorem sI_230 (h : Wf σ) (hk : k < 14) : op_sI σ (230) (nI k) x = some (ah_wI σ (230) k x) := h.sI (S0_230) hk (by decide)
theorem len_230 (h : Wf σ) : op_len .int σ (230) = some 14 := h.len (S0_230)
theorem aI_231 (h : Wf σ) (hk : k < 14) : op_aI σ (231) (nI k) = some (ah_I σ (231) k) := h.aI (S0_231) hk (by decide)
theorem sI_231 (h : Wf σ) (hk : k < 14) : op_sI σ (231) (nI k) x = some (ah_wI σ (231) k x) := h.sI (S0_231) hk (by decide)
theorem len_231 (h : Wf σ) : op_len .int σ (231) = some 14 := h.len (S0_231)
theorem aI_232 (h : Wf σ) (hk : k < 20) : op_aI σ (232) (nI k) = some (ah_I σ (232) k) := h.aI (S0_232) hk (by decide)
theorem sI_232 (h : Wf σ) (hk : k < 20) : op_sI σ (232) (nI k) x = some (ah_wI σ (232) k x) := h.sI (S0_232) hk (by decide)
theorem len_232 (h : Wf σ) : op_len .int σ (232) = some 20 := h.len (S0_232)
theorem aI_233 (h : Wf σ) (hk : k < 20) : op_aI σ (233) (nI k) = some (ah_I σ (233) k) := h.aI (S0_233) hk (by decide)
theorem sI_233 (h : Wf σ) (hk : k < 20) : op_sI σ (233) (nI k) x = some (ah_wI σ (233) k x) := h.sI (S0_233) hk (by decide)
theorem len_233 (h : Wf σ) : op_len .int σ (233) = some 20 := h.len (S0_233)
theorem aI_234 (h : Wf σ) (hk : k < 20) : op_aI σ (234) (nI k) = some (ah_I σ (234) k) := h.aI (S0_234) hk (by decide)
theorem sI_234 (h : Wf σ) (hk : k < 20) : op_sI σ (234) (nI k) x = some (ah_wI σ (234) k x) := h.sI (S0_234) hk (by decide)
theorem len_234 (h : Wf σ) : op_len .int σ (234) = some 20 := h.len (S0_234)
theorem aI_235 (h : Wf σ) (hk : k < 20) : op_aI σ (235) (nI k) = some (ah_I σ (235) k) := h.aI (S0_235) hk (by decide)
theorem sI_235 (h : Wf σ) (hk : k < 20) : op_sI σ (235) (nI k) x = some (ah_wI σ (235) k x) := h.sI (S0_235) hk (by decide)
theorem len_235 (h : Wf σ) : op_len .int σ (235) = some 20 := h.len (S0_235)
theorem aI_236 (h : Wf σ) (hk : k < 20) : op_aI σ (236) (nI k) = some (ah_I σ (236) k) := h.aI (S0_236) hk (by decide)
theorem sI_236 (h : Wf σ) (hk : k < 20) : op_sI σ (236) (nI k) x = some (ah_wI σ (236) k x) := h.sI (S0_236) hk (by decide)
theorem len_236 (h : Wf σ) : op_len .int σ (236) = some 20 := h.len (S0_236)
theorem aI_237 (h : Wf σ) (hk : k < 8) : op_aI σ (237) (nI k) = some (ah_I σ (237) k) := h.aI (S0_237) hk (by decide)
theorem sI_237 (h : Wf σ) (hk : k < 8) : op_sI σ (237) (nI k) x = some (ah_wI σ (237) k x) := h.sI (S0_237) hk (by decide)
theorem len_237 (h : Wf σ) : op_len .int σ (237) = some 8 := h.len (S0_237)
theorem aI_238 (h : Wf σ) (hk : k < 8) : op_aI σ (238) (nI k) = some (ah_I σ (238) k) := h.aI (S0_238) hk (by decide)
theorem sI_238 (h : Wf σ) (hk : k < 8) : op_sI σ (238) (nI k) x = some (ah_wI σ (238) k x) := h.sI (S0_238) hk (by decide)
theorem len_238 (h : Wf σ) : op_len .int σ (238) = some 8 := h.len (S0_238)
theorem aI_239 (h : Wf σ) (hk : k < 8) : op_aI σ (239) (nI k) = some (ah_I σ (239) k) := h.aI (S0_239) hk (by decide)
theorem sI_239 (h : Wf σ) (hk : k < 8) : op_sI σ (239) (nI k) x = some (ah_wI σ (239) k x) := h.sI (S0_239) hk (by decide)
theorem len_239 (h : Wf σ) : op_len .int σ (239) = some 8 := h.len (S0_239)
theorem aI_240 (h : Wf σ) (hk : k < 8) : op_aI σ (240) (nI k) = some (ah_I σ (240) k) := h.aI (S0_240) hk (by decide)
theorem sI_240 (h : Wf σ) (hk : k < 8) : op_sI σ (240) (nI k) x = some (ah_wI σ (240) k x) := h.sI (S0_240) hk (by decide)
theorem len_240 (h : Wf σ) : op_len .int σ (240) = some 8 := h.len (S0_240)
theorem aI_241 (h : Wf σ) (hk : k < 48) : op_aI σ (241) (nI k) = some (ah_I σ (241) k) := h.aI (S0_241) hk (by decide)
theorem sI_241 (h : Wf σ) (hk : k < 48) : op_sI σ (241) (nI k) x = some (ah_wI σ (241) k x) := h.sI (S0_241) hk (by decide)
theorem len_241 (h : Wf σ) : op_len .int σ (241) = some 48 := h.len (S0_241)
theorem aI_242 (h : Wf σ) (hk : k < 6) : op_aI σ (242) (nI k) = some (ah_I σ (242) k) := h.aI (S0_242) hk (by decide)
theorem sI_242 (h : Wf σ) (hk : k < 6) : op_sI σ (242) (nI k) x = some (ah_wI σ (242) k x) := h.sI (S0_242) hk (by decide)
theorem len_242 (h : Wf σ) : op_len .int σ (242) = some 6 := h.len (S0_242)
theorem aI_243 (h : Wf σ) (hk : k < 6) : op_aI σ (243) (nI k) = some (ah_I σ (243) k) := h.aI (S0_243) hk (by decide)
theorem sI_243 (h : Wf σ) (hk : k < 6) : op_sI σ (243) (nI k) x = some (ah_wI σ (243) k x) := h.sI (S0_243) hk (by decide)
theorem len_243 (h : Wf σ) : op_len .int σ (243) = some 6 := h.len (S0_243)
theorem aI_244 (h : Wf σ) (hk : k < 128) : op_aI σ (244) (nI k) = some (ah_I σ (244) k) := h.aI (S0_244) hk (by decide)
theorem sI_244 (h : Wf σ) (hk : k < 128) : op_sI σ (244) (nI k) x = some (ah_wI σ (244) k x) := h.sI (S0_244) hk (by decide)
theorem len_244 (h : Wf σ) : op_len .int σ (244) = some 128 := h.len (S0_244)
theorem aI_245 (h : Wf σ) (hk : k < 128) : op_aI σ (245) (nI k) = some (ah_I σ (245) k) := h.aI (S0_245) hk (by decide)
theorem sI_245 (h : Wf σ) (hk : k < 128) : op_sI σ (245) (nI k) x = some (ah_wI σ (245) k x) := h.sI (S0_245) hk (by decide)
theorem len_245 (h : Wf σ) : op_len .int σ (245) = some 128 := h.len (S0_245)
theorem aL_246 (h : Wf σ) (hk : k < 6) : op_aL σ (246) (nI k) = some (ah_L σ (246) k) := h.aL (S0_246) hk (by decide)
theorem sL_246 (h : Wf σ) (hk : k < 6) : op_sL σ (246) (nI k) y = some (ah_wL σ (246) k y) := h.sL (S0_246) hk (by decide)
theorem len_246 (h : Wf σ) : op_len .long σ (246) = some 6 := h.len (S0_246)
theorem aL_247 (h : Wf σ) (hk : k < 64) : op_aL σ (247) (nI k) = some (ah_L σ (247) k) := h.aL (S0_247) hk (by decide)
theorem sL_247 (h : Wf σ) (hk : k < 64) : op_sL σ (247) (nI k) y = some (ah_wL σ (247) k y) := h.sL (S0_247) hk (by decide)
theorem len_247 (h : Wf σ) : op_len .long σ (247) = some 64 := h.len (S0_247)
theorem aI_248 (h : Wf σ) (hk : k < 14) : op_aI σ (248) (nI k) = some (ah_I σ (248) k) := h.aI (S0_248) hk (by decide)
theorem sI_248 (h : Wf σ) (hk : k < 14) : op_sI σ (248) (nI k) x = some (ah_wI σ (248) k x) := h.sI (S0_248) hk (by decide)
theorem len_248 (h : Wf σ) : op_len .int σ (248) = some 14 := h.len (S0_248)
theorem aI_249 (h : Wf σ) (hk : k < 14) : op_aI σ (249) (nI k) = some (ah_I σ (249) k) := h.aI (S0_249) hk (by decide)
theorem sI_249 (h : Wf σ) (hk : k < 14) : op_sI σ (249) (nI k) x = some (ah_wI σ (249) k x) := h.sI (S0_249) hk (by decide)
theorem len_249 (h : Wf σ) : op_len .int σ (249) = some 14 := h.len (S0_249)
theorem aI_250 (h : Wf σ) (hk : k < 14) : op_aI σ (250) (nI k) = some (ah_I σ (250) k) := h.aI (S0_250) hk (by decide)
theorem sI_250 (h : Wf σ) (hk : k < 14) : op_sI σ (250) (nI k) x = some (ah_wI σ (250) k x) := h.sI (S0_250) hk (by decide)
theorem len_250 (h : Wf σ) : op_len .int σ (250) = some 14 := h.len (S0_250)
theorem aI_251 (h : Wf σ) (hk : k < 14) : op_aI σ (251) (nI k) = some (ah_I σ (251) k) := h.aI (S0_251) hk (by decide)
theorem sI_251 (h : Wf σ) (hk : k < 14) : op_sI σ (251) (nI k) x = some (ah_wI σ (251) k x) := h.sI (S0_251) hk (by decide)
theorem len_251 (h : Wf σ) : op_len .int σ (251) = some 14 := h.len (S0_251)
theorem aL_252 (h : Wf σ) (hk : k < 840) : op_aL σ (252) (nI k) = some (ah_L σ (252) k) := h.aL (S0_252) hk (by decide)
theorem sL_252 (h : Wf σ) (hk : k < 840) : op_sL σ (252) (nI k) y = some (ah_wL σ (252) k y) := h.sL (S0_252) hk (by decide)
theorem len_252 (h : Wf σ) : op_len .long σ (252) = some 840 := h.len (S0_252)
theorem aL_253 (h : Wf σ) (hk : k < 840) : op_aL σ (253) (nI k) = some (ah_L σ (253) k) := h.aL (S0_253) hk (by decide)
theorem sL_253 (h : Wf σ) (hk : k < 840) : op_sL σ (253) (nI k) y = some (ah_wL σ (253) k y) := h.sL (S0_253) hk (by decide)
theorem len_253 (h : Wf σ) : op_len .long σ (253) = some 840 := h.len (S0_253)
theorem aZ_254 (h : Wf σ) (hk : k < 7) : op_aZ σ (254) (nI k) = some (ah_I σ (254) k) := h.aZ (S0_254) hk (by decide)
theorem sZ_254 (h : Wf σ) (hk : k < 7) : op_sZ σ (254) (nI k) x = some (ah_wI σ (254) k (vp_nar .boolean x)) := h.sZ (S0_254) hk (by decide)
theorem len_254 (h : Wf σ) : op_len .boolean σ (254) = some 7 := h.len (S0_254)
theorem aI_255 (h : Wf σ) (hk : k < 140) : op_aI σ (255) (nI k) = some (ah_I σ (255) k) := h.aI (S0_255) hk (by decide)
theorem sI_255 (h : Wf σ) (hk : k < 140) : op_sI σ (255) (nI k) x = some (ah_wI σ (255) k x) := h.sI (S0_255) hk (by decide)
theorem len_255 (h : Wf σ) : op_len .int σ (255) = some 140 := h.len (S0_255)
theorem aI_256 (h : Wf σ) (hk : k < 140) : op_aI σ (256) (nI k) = some (ah_I σ (256) k) := h.aI (S0_256) hk (by decide)
theorem sI_256 (h : Wf σ) (hk : k < 140) : op_sI σ (256) (nI k) x = some (ah_wI σ (256) k x) := h.sI (S0_256) hk (by decide)
theorem len_256 (h : Wf σ) : op_len .int σ (256) = some 140 := h.len (S0_256)
theorem aI_257 (h : Wf σ) (hk : k < 140) : op_aI σ (257) (nI k) = some (ah_I σ (257) k) := h.aI (S0_257) hk (by decide)
theorem sI_257 (h : Wf σ) (hk : k < 140) : op_sI σ (257) (nI k) x = some (ah_wI σ (257) k x) := h.sI (S0_257) hk (by decide)
theorem len_257 (h : Wf σ) : op_len .int σ (257) = some 140 := h.len (S0_257)
theorem aI_258 (h : Wf σ) (hk : k < 140) : op_aI σ (258) (nI k) = some (ah_I σ (258) k) := h.aI (S0_258) hk (by decide)
theorem sI_258 (h : Wf σ) (hk : k < 140) : op_sI σ (258) (nI k) x = some (ah_wI σ (258) k x) := h.sI (S0_258) hk (by decide)
theorem len_258 (h : Wf σ) : op_len .int σ (258) = some 140 := h.len (S0_258)
theorem aI_259 (h : Wf σ) (hk : k < 7) : op_aI σ (259) (nI k) = some (ah_I σ (259) k) := h.aI (S0_259) hk (by decide)
theorem sI_259 (h : Wf σ) (hk : k < 7) : op_sI σ (259) (nI k) x = some (ah_wI σ (259) k x) := h.sI (S0_259) hk (by decide)
theorem len_259 (h : Wf σ) : op_len .int σ (259) = some 7 := h.len (S0_259)
theorem aI_260 (h : Wf σ) (hk : k < 7) : op_aI σ (260) (nI k) = some (ah_I σ (260) k) := h.aI (S0_260) hk (by decide)
theorem sI_260 (h : Wf σ) (hk : k < 7) : op_sI σ (260) (nI k) x = some (ah_wI σ (260) k x) := h.sI (S0_260) hk (by decide)
theorem len_260 (h : Wf σ) : op_len .int σ (260) = some 7 := h.len (S0_260)
theorem aI_261 (h : Wf σ) (hk : k < 7) : op_aI σ (261) (nI k) = some (ah_I σ (261) k) := h.aI (S0_261) hk (by decide)
theorem sI_261 (h : Wf σ) (hk : k < 7) : op_sI σ (261) (nI k) x = some (ah_wI σ (261) k x) := h.sI (S0_261) hk (by decide)
theorem len_261 (h : Wf σ) : op_len .int σ (261) = some 7 := h.len (S0_261)
theorem aI_262 (h : Wf σ) (hk : k < 7) : op_aI σ (262) (nI k) = some (ah_I σ (262) k) := h.aI (S0_262) hk (by decide)
theorem sI_262 (h : Wf σ) (hk : k < 7) : op_sI σ (262) (nI k) x = some (ah_wI σ (262) k x) := h.sI (S0_262) hk (by decide)
theorem len_262 (h : Wf σ) : op_len .int σ (262) = some 7 := h.len (S0_262)
theorem aI_263 (h : Wf σ) (hk : k < 7) : op_aI σ (263) (nI k) = some (ah_I σ (263) k) := h.aI (S0_263) hk (by decide)
theorem sI_263 (h : Wf σ) (hk : k < 7) : op_sI σ (263) (nI k) x = some (ah_wI σ (263) k x) := h.sI (S0_263) hk (by decide)
theorem len_263 (h : Wf σ) : op_len .int σ (263) = some 7 := h.len (S0_263)
theorem aL_264 (h : Wf σ) (hk : k < 364) : op_aL σ (264) (nI k) = some (ah_L σ (264) k) := h.aL (S0_264) hk (by decide)
theorem sL_264 (h : Wf σ) (hk : k < 364) : op_sL σ (264) (nI k) y = some (ah_wL σ (264) k y) := h.sL (S0_264) hk (by decide)
theorem len_264 (h : Wf σ) : op_len .long σ (264) = some 364 := h.len (S0_264)
theorem aL_265 (h : Wf σ) (hk : k < 7) : op_aL σ (265) (nI k) = some (ah_L σ (265) k) := h.aL (S0_265) hk (by decide)
theorem sL_265 (h : Wf σ) (hk : k < 7) : op_sL σ (265) (nI k) y = some (ah_wL σ (265) k y) := h.sL (S0_265) hk (by decide)
theorem len_265 (h : Wf σ) : op_len .long σ (265) = some 7 := h.len (S0_265)
theorem aI_266 (h : Wf σ) (hk : k < 7) : op_aI σ (266) (nI k) = some (ah_I σ (266) k) := h.aI (S0_266) hk (by decide)
theorem sI_266 (h : Wf σ) (hk : k < 7) : op_sI σ (266) (nI k) x = some (ah_wI σ (266) k x) := h.sI (S0_266) hk (by decide)
theorem len_266 (h : Wf σ) : op_len .int σ (266) = some 7 := h.len (S0_266)
theorem aI_267 (h : Wf σ) (hk : k < 7) : op_aI σ (267) (nI k) = some (ah_I σ (267) k) := h.aI (S0_267) hk (by decide)
theorem sI_267 (h : Wf σ) (hk : k < 7) : op_sI σ (267) (nI k) x = some (ah_wI σ (267) k x) := h.sI (S0_267) hk (by decide)
theorem len_267 (h : Wf σ) : op_len .int σ (267) = some 7 := h.len (S0_267)
theorem aI_268 (h : Wf σ) (hk : k < 7) : op_aI σ (268) (nI k) = some (ah_I σ (268) k) := h.aI (S0_268) hk (by decide)
theorem sI_268 (h : Wf σ) (hk : k < 7) : op_sI σ (268) (nI k) x = some (ah_wI σ (268) k x) := h.sI (S0_268) hk (by decide)
theorem len_268 (h : Wf σ) : op_len .int σ (268) = some 7 := h.len (S0_268)
theorem aI_269 (h : Wf σ) (hk : k < 7) : op_aI σ (269) (nI k) = some (ah_I σ (269) k) := h.aI (S0_269) hk (by decide)
theorem sI_269 (h : Wf σ) (hk : k < 7) : op_sI σ (269) (nI k) x = some (ah_wI σ (269) k x) := h.sI (S0_269) hk (by decide)
theorem len_269 (h : Wf σ) : op_len .int σ (269) = some 7 := h.len (S0_269)
theorem aI_270 (h : Wf σ) (hk : k < 7) : op_aI σ (270) (nI k) = some (ah_I σ (270) k) := h.aI (S0_270) hk (by decide)
theorem sI_270 (h : Wf σ) (hk : k < 7) : op_sI σ (270) (nI k) x = some (ah_wI σ (270) k x) := h.sI (S0_270) hk (by decide)
theorem len_270 (h : Wf σ) : op_len .int σ (270) = some 7 := h.len (S0_270)
theorem aL_271 (h : Wf σ) (hk : k < 1) : op_aL σ (271) (nI k) = some (ah_L σ (271) k) := h.aL (S0_271) hk (by decide)
theorem sL_271 (h : Wf σ) (hk : k < 1) : op_sL σ (271) (nI k) y = some (ah_wL σ (271) k y) := h.sL (S0_271) hk (by decide)
theorem len_271 (h : Wf σ) : op_len .long σ (271) = some 1 := h.len (S0_271)
theorem S0_t1 (ht : Tn t) : S0[t+1]? = some (.inl (.array .int, 7)) := by rcases ht with rfl | rfl <;> decide +kernel
theorem S0_crow (ht : Tn t) (hc : c < 7) : S0[t+2+c]? = some (.inl (.int, 4)) := by
  rcases ht with rfl | rfl
  · exact (by decide +kernel : ∀ c, c < 7 → S0[2+2+c]? = some (.inl (.int, 4))) c hc
  · exact (by decide +kernel : ∀ c, c < 7 → S0[42+2+c]? = some (.inl (.int, 4))) c hc
theorem aR_crow (h : Wf σ) (ht : Tn t) (hc : c < 7) : op_aR .int σ (t+1) (nI c) = some (t+2+c) := by
  refine h.aR (S0_t1 ht) hc (by decide) ?_ ?_
  · rcases ht with rfl | rfl
    · exact (by decide +kernel : ∀ c, c < 7 → R0 (2+1) c = some (2+2+c)) c hc
    · exact (by decide +kernel : ∀ c, c < 7 → R0 (42+1) c = some (42+2+c)) c hc
  · rcases ht with rfl | rfl
    · exact (by decide +kernel : ∀ c, c < 7 → ((2+1, c) : Nat × Nat) ∉ mut0) c hc
    · exact (by decide +kernel : ∀ c, c < 7 → ((42+1, c) : Nat × Nat) ∉ mut0) c hc
theorem aI_crow (h : Wf σ) (ht : Tn t) (hc : c < 7) (hk : k < 4) : op_aI σ (t+2+c) (nI k) = some (ah_I σ (t+2+c) k) := h.aI (S0_crow ht hc) hk (by decide)
theorem sI_crow (h : Wf σ) (ht : Tn t) (hc : c < 7) (hk : k < 4) : op_sI σ (t+2+c) (nI k) x = some (ah_wI σ (t+2+c) k x) := h.sI (S0_crow ht hc) hk (by decide)
theorem len_crow (h : Wf σ) (ht : Tn t) (hc : c < 7) : op_len .int σ (t+2+c) = some 4 := h.len (S0_crow ht hc)
theorem S0_t9 (ht : Tn t) : S0[t+9]? = some (.inl (.array .int, 10)) := by rcases ht with rfl | rfl <;> decide +kernel
theorem S0_srow (ht : Tn t) (hc : c < 10) : S0[t+10+c]? = some (.inl (.int, 5)) := by
  rcases ht with rfl | rfl
  · exact (by decide +kernel : ∀ c, c < 10 → S0[2+10+c]? = some (.inl (.int, 5))) c hc
  · exact (by decide +kernel : ∀ c, c < 10 → S0[42+10+c]? = some (.inl (.int, 5))) c hc
theorem aR_srow (h : Wf σ) (ht : Tn t) (hc : c < 10) : op_aR .int σ (t+9) (nI c) = some (t+10+c) := by
  refine h.aR (S0_t9 ht) hc (by decide) ?_ ?_
  · rcases ht with rfl | rfl
    · exact (by decide +kernel : ∀ c, c < 10 → R0 (2+9) c = some (2+10+c)) c hc
    · exact (by decide +kernel : ∀ c, c < 10 → R0 (42+9) c = some (42+10+c)) c hc
  · rcases ht with rfl | rfl
    · exact (by decide +kernel : ∀ c, c < 10 → ((2+9, c) : Nat × Nat) ∉ mut0) c hc
    · exact (by decide +kernel : ∀ c, c < 10 → ((42+9, c) : Nat × Nat) ∉ mut0) c hc
theorem aI_srow (h : Wf σ) (ht : Tn t) (hc : c < 10) (hk : k < 5) : op_aI σ (t+10+c) (nI k) = some (ah_I σ (t+10+c) k) := h.aI (S0_srow ht hc) hk (by decide)
theorem sI_srow (h : Wf σ) (ht : Tn t) (hc : c < 10) (hk : k < 5) : op_sI σ (t+10+c) (nI k) x = some (ah_wI σ (t+10+c) k x) := h.sI (S0_srow ht hc) hk (by decide)
theorem len_srow (h : Wf σ) (ht : Tn t) (hc : c < 10) : op_len .int σ (t+10+c) = some 5 := h.len (S0_srow ht hc)
theorem S0_t20 (ht : Tn t) : S0[t+20]? = some (.inl (.array .int, 4)) := by rcases ht with rfl | rfl <;> decide +kernel
theorem S0_prow (ht : Tn t) (hc : c < 4) : S0[t+21+c]? = some (.inl (.int, 2)) := by
  rcases ht with rfl | rfl
  · exact (by decide +kernel : ∀ c, c < 4 → S0[2+21+c]? = some (.inl (.int, 2))) c hc
  · exact (by decide +kernel : ∀ c, c < 4 → S0[42+21+c]? = some (.inl (.int, 2))) c hc
theorem aR_prow (h : Wf σ) (ht : Tn t) (hc : c < 4) : op_aR .int σ (t+20) (nI c) = some (t+21+c) := by
  refine h.aR (S0_t20 ht) hc (by decide) ?_ ?_
  · rcases ht with rfl | rfl
    · exact (by decide +kernel : ∀ c, c < 4 → R0 (2+20) c = some (2+21+c)) c hc
    · exact (by decide +kernel : ∀ c, c < 4 → R0 (42+20) c = some (42+21+c)) c hc
  · rcases ht with rfl | rfl
    · exact (by decide +kernel : ∀ c, c < 4 → ((2+20, c) : Nat × Nat) ∉ mut0) c hc
    · exact (by decide +kernel : ∀ c, c < 4 → ((42+20, c) : Nat × Nat) ∉ mut0) c hc
theorem aI_prow (h : Wf σ) (ht : Tn t) (hc : c < 4) (hk : k < 2) : op_aI σ (t+21+c) (nI k) = some (ah_I σ (t+21+c) k) := h.aI (S0_prow ht hc) hk (by decide)
theorem sI_prow (h : Wf σ) (ht : Tn t) (hc : c < 4) (hk : k < 2) : op_sI σ (t+21+c) (nI k) x = some (ah_wI σ (t+21+c) k x) := h.sI (S0_prow ht hc) hk (by decide)
theorem len_prow (h : Wf σ) (ht : Tn t) (hc : c < 4) : op_len .int σ (t+21+c) = some 2 := h.len (S0_prow ht hc)
theorem S0_t26 (ht : Tn t) : S0[t+26]? = some (.inl (.array .int, 4)) := by rcases ht with rfl | rfl <;> decide +kernel
theorem S0_rrow (ht : Tn t) (hc : c < 4) : S0[t+27+c]? = some (.inl (.int, 6)) := by
  rcases ht with rfl | rfl
  · exact (by decide +kernel : ∀ c, c < 4 → S0[2+27+c]? = some (.inl (.int, 6))) c hc
  · exact (by decide +kernel : ∀ c, c < 4 → S0[42+27+c]? = some (.inl (.int, 6))) c hc
theorem aR_rrow (h : Wf σ) (ht : Tn t) (hc : c < 4) : op_aR .int σ (t+26) (nI c) = some (t+27+c) := by
  refine h.aR (S0_t26 ht) hc (by decide) ?_ ?_
  · rcases ht with rfl | rfl
    · exact (by decide +kernel : ∀ c, c < 4 → R0 (2+26) c = some (2+27+c)) c hc
    · exact (by decide +kernel : ∀ c, c < 4 → R0 (42+26) c = some (42+27+c)) c hc
  · rcases ht with rfl | rfl
    · exact (by decide +kernel : ∀ c, c < 4 → ((2+26, c) : Nat × Nat) ∉ mut0) c hc
    · exact (by decide +kernel : ∀ c, c < 4 → ((42+26, c) : Nat × Nat) ∉ mut0) c hc
theorem aI_rrow (h : Wf σ) (ht : Tn t) (hc : c < 4) (hk : k < 6) : op_aI σ (t+27+c) (nI k) = some (ah_I σ (t+27+c) k) := h.aI (S0_rrow ht hc) hk (by decide)
theorem sI_rrow (h : Wf σ) (ht : Tn t) (hc : c < 4) (hk : k < 6) : op_sI σ (t+27+c) (nI k) x = some (ah_wI σ (t+27+c) k x) := h.sI (S0_rrow ht hc) hk (by decide)
theorem len_rrow (h : Wf σ) (ht : Tn t) (hc : c < 4) : op_len .int σ (t+27+c) = some 6 := h.len (S0_rrow ht hc)
theorem S0_t25 (ht : Tn t) : S0[t+25]? = some (.inl (.int, 4)) := by rcases ht with rfl | rfl <;> decide +kernel
theorem aI_t25 (h : Wf σ) (ht : Tn t) (hk : k < 4) : op_aI σ (t+25) (nI k) = some (ah_I σ (t+25) k) := h.aI (S0_t25 ht) hk (by decide)
theorem sI_t25 (h : Wf σ) (ht : Tn t) (hk : k < 4) : op_sI σ (t+25) (nI k) x = some (ah_wI σ (t+25) k x) := h.sI (S0_t25 ht) hk (by decide)
theorem len_t25 (h : Wf σ) (ht : Tn t) : op_len .int σ (t+25) = some 4 := h.len (S0_t25 ht)
theorem S0_t31 (ht : Tn t) : S0[t+31]? = some (.inl (.int, 2)) := by rcases ht with rfl | rfl <;> decide +kernel
theorem aI_t31 (h : Wf σ) (ht : Tn t) (hk : k < 2) : op_aI σ (t+31) (nI k) = some (ah_I σ (t+31) k) := h.aI (S0_t31 ht) hk (by decide)
theorem sI_t31 (h : Wf σ) (ht : Tn t) (hk : k < 2) : op_sI σ (t+31) (nI k) x = some (ah_wI σ (t+31) k x) := h.sI (S0_t31 ht) hk (by decide)
theorem len_t31 (h : Wf σ) (ht : Tn t) : op_len .int σ (t+31) = some 2 := h.len (S0_t31 ht)
theorem S0_t32 (ht : Tn t) : S0[t+32]? = some (.inl (.int, 2)) := by rcases ht with rfl | rfl <;> decide +kernel
theorem aI_t32 (h : Wf σ) (ht : Tn t) (hk : k < 2) : op_aI σ (t+32) (nI k) = some (ah_I σ (t+32) k) := h.aI (S0_t32 ht) hk (by decide)
theorem sI_t32 (h : Wf σ) (ht : Tn t) (hk : k < 2) : op_sI σ (t+32) (nI k) x = some (ah_wI σ (t+32) k x) := h.sI (S0_t32 ht) hk (by decide)
theorem len_t32 (h : Wf σ) (ht : Tn t) : op_len .int σ (t+32) = some 2 := h.len (S0_t32 ht)
theorem S0_t34 (ht : Tn t) : S0[t+34]? = some (.inl (.int, 64)) := by rcases ht with rfl | rfl <;> decide +kernel
theorem aI_t34 (h : Wf σ) (ht : Tn t) (hk : k < 64) : op_aI σ (t+34) (nI k) = some (ah_I σ (t+34) k) := h.aI (S0_t34 ht) hk (by decide)
theorem sI_t34 (h : Wf σ) (ht : Tn t) (hk : k < 64) : op_sI σ (t+34) (nI k) x = some (ah_wI σ (t+34) k x) := h.sI (S0_t34 ht) hk (by decide)
theorem len_t34 (h : Wf σ) (ht : Tn t) : op_len .int σ (t+34) = some 64 := h.len (S0_t34 ht)
theorem S0_t35 (ht : Tn t) : S0[t+35]? = some (.inl (.int, 64)) := by rcases ht with rfl | rfl <;> decide +kernel
theorem aI_t35 (h : Wf σ) (ht : Tn t) (hk : k < 64) : op_aI σ (t+35) (nI k) = some (ah_I σ (t+35) k) := h.aI (S0_t35 ht) hk (by decide)
theorem sI_t35 (h : Wf σ) (ht : Tn t) (hk : k < 64) : op_sI σ (t+35) (nI k) x = some (ah_wI σ (t+35) k x) := h.sI (S0_t35 ht) hk (by decide)
theorem len_t35 (h : Wf σ) (ht : Tn t) : op_len .int σ (t+35) = some 64 := h.len (S0_t35 ht)
theorem S0_t36 (ht : Tn t) : S0[t+36]? = some (.inl (.int, 3)) := by rcases ht with rfl | rfl <;> decide +kernel
theorem aI_t36 (h : Wf σ) (ht : Tn t) (hk : k < 3) : op_aI σ (t+36) (nI k) = some (ah_I σ (t+36) k) := h.aI (S0_t36 ht) hk (by decide)
theorem sI_t36 (h : Wf σ) (ht : Tn t) (hk : k < 3) : op_sI σ (t+36) (nI k) x = some (ah_wI σ (t+36) k x) := h.sI (S0_t36 ht) hk (by decide)
theorem len_t36 (h : Wf σ) (ht : Tn t) : op_len .int σ (t+36) = some 3 := h.len (S0_t36 ht)
theorem S0_t37 (ht : Tn t) : S0[t+37]? = some (.inl (.int, 3)) := by rcases ht with rfl | rfl <;> decide +kernel
theorem aI_t37 (h : Wf σ) (ht : Tn t) (hk : k < 3) : op_aI σ (t+37) (nI k) = some (ah_I σ (t+37) k) := h.aI (S0_t37 ht) hk (by decide)
theorem sI_t37 (h : Wf σ) (ht : Tn t) (hk : k < 3) : op_sI σ (t+37) (nI k) x = some (ah_wI σ (t+37) k x) := h.sI (S0_t37 ht) hk (by decide)
theorem len_t37 (h : Wf σ) (ht : Tn t) : op_len .int σ (t+37) = some 3 := h.len (S0_t37 ht)
theorem S0_t38 (ht : Tn t) : S0[t+38]? = some (.inl (.long, 6)) := by rcases ht with rfl | rfl <;> decide +kernel
theorem aL_t38 (h : Wf σ) (ht : Tn t) (hk : k < 6) : op_aL σ (t+38) (nI k) = some (ah_L σ (t+38) k) := h.aL (S0_t38 ht) hk (by decide)
theorem sL_t38 (h : Wf σ) (ht : Tn t) (hk : k < 6) : op_sL σ (t+38) (nI k) y = some (ah_wL σ (t+38) k y) := h.sL (S0_t38 ht) hk (by decide)
theorem len_t38 (h : Wf σ) (ht : Tn t) : op_len .long σ (t+38) = some 6 := h.len (S0_t38 ht)
theorem S0_t39 (ht : Tn t) : S0[t+39]? = some (.inl (.long, 64)) := by rcases ht with rfl | rfl <;> decide +kernel
theorem aL_t39 (h : Wf σ) (ht : Tn t) (hk : k < 64) : op_aL σ (t+39) (nI k) = some (ah_L σ (t+39) k) := h.aL (S0_t39 ht) hk (by decide)
theorem sL_t39 (h : Wf σ) (ht : Tn t) (hk : k < 64) : op_sL σ (t+39) (nI k) y = some (ah_wL σ (t+39) k y) := h.sL (S0_t39 ht) hk (by decide)
theorem len_t39 (h : Wf σ) (ht : Tn t) : op_len .long σ (t+39) = some 64 := h.len (S0_t39 ht)
theorem S0_f1 (ht : Fl f) : S0[f+1]? = some (.inl (.array .long, 7)) := by rcases ht with rfl | rfl | rfl <;> decide +kernel
theorem S0_water (ht : Fl f) (hc : c < 7) : S0[f+2+c]? = some (.inl (.long, 120)) := by
  rcases ht with rfl | rfl | rfl
  · exact (by decide +kernel : ∀ c, c < 7 → S0[118+2+c]? = some (.inl (.long, 120))) c hc
  · exact (by decide +kernel : ∀ c, c < 7 → S0[139+2+c]? = some (.inl (.long, 120))) c hc
  · exact (by decide +kernel : ∀ c, c < 7 → S0[201+2+c]? = some (.inl (.long, 120))) c hc
theorem aR_water (h : Wf σ) (ht : Fl f) (hc : c < 7) : op_aR .long σ (f+1) (nI c) = some (f+2+c) := by
  refine h.aR (S0_f1 ht) hc (by decide) ?_ ?_
  · rcases ht with rfl | rfl | rfl
    · exact (by decide +kernel : ∀ c, c < 7 → R0 (118+1) c = some (118+2+c)) c hc
    · exact (by decide +kernel : ∀ c, c < 7 → R0 (139+1) c = some (139+2+c)) c hc
    · exact (by decide +kernel : ∀ c, c < 7 → R0 (201+1) c = some (201+2+c)) c hc
  · rcases ht with rfl | rfl | rfl
    · exact (by decide +kernel : ∀ c, c < 7 → ((118+1, c) : Nat × Nat) ∉ mut0) c hc
    · exact (by decide +kernel : ∀ c, c < 7 → ((139+1, c) : Nat × Nat) ∉ mut0) c hc
    · exact (by decide +kernel : ∀ c, c < 7 → ((201+1, c) : Nat × Nat) ∉ mut0) c hc
theorem aL_water (h : Wf σ) (ht : Fl f) (hc : c < 7) (hk : k < 120) : op_aL σ (f+2+c) (nI k) = some (ah_L σ (f+2+c) k) := h.aL (S0_water ht hc) hk (by decide)
theorem sL_water (h : Wf σ) (ht : Fl f) (hc : c < 7) (hk : k < 120) : op_sL σ (f+2+c) (nI k) y = some (ah_wL σ (f+2+c) k y) := h.sL (S0_water ht hc) hk (by decide)
theorem len_water (h : Wf σ) (ht : Fl f) (hc : c < 7) : op_len .long σ (f+2+c) = some 120 := h.len (S0_water ht hc)
theorem S0_f9 (ht : Fl f) : S0[f+9]? = some (.inl (.array .long, 7)) := by rcases ht with rfl | rfl | rfl <;> decide +kernel
theorem S0_spill (ht : Fl f) (hc : c < 7) : S0[f+10+c]? = some (.inl (.long, 120)) := by
  rcases ht with rfl | rfl | rfl
  · exact (by decide +kernel : ∀ c, c < 7 → S0[118+10+c]? = some (.inl (.long, 120))) c hc
  · exact (by decide +kernel : ∀ c, c < 7 → S0[139+10+c]? = some (.inl (.long, 120))) c hc
  · exact (by decide +kernel : ∀ c, c < 7 → S0[201+10+c]? = some (.inl (.long, 120))) c hc
theorem aR_spill (h : Wf σ) (ht : Fl f) (hc : c < 7) : op_aR .long σ (f+9) (nI c) = some (f+10+c) := by
  refine h.aR (S0_f9 ht) hc (by decide) ?_ ?_
  · rcases ht with rfl | rfl | rfl
    · exact (by decide +kernel : ∀ c, c < 7 → R0 (118+9) c = some (118+10+c)) c hc
    · exact (by decide +kernel : ∀ c, c < 7 → R0 (139+9) c = some (139+10+c)) c hc
    · exact (by decide +kernel : ∀ c, c < 7 → R0 (201+9) c = some (201+10+c)) c hc
  · rcases ht with rfl | rfl | rfl
    · exact (by decide +kernel : ∀ c, c < 7 → ((118+9, c) : Nat × Nat) ∉ mut0) c hc
    · exact (by decide +kernel : ∀ c, c < 7 → ((139+9, c) : Nat × Nat) ∉ mut0) c hc
    · exact (by decide +kernel : ∀ c, c < 7 → ((201+9, c) : Nat × Nat) ∉ mut0) c hc
theorem aL_spill (h : Wf σ) (ht : Fl f) (hc : c < 7) (hk : k < 120) : op_aL σ (f+10+c) (nI k) = some (ah_L σ (f+10+c) k) := h.aL (S0_spill ht hc) hk (by decide)
theorem sL_spill (h : Wf σ) (ht : Fl f) (hc : c < 7) (hk : k < 120) : op_sL σ (f+10+c) (nI k) y = some (ah_wL σ (f+10+c) k y) := h.sL (S0_spill ht hc) hk (by decide)
theorem len_spill (h : Wf σ) (ht : Fl f) (hc : c < 7) : op_len .long σ (f+10+c) = some 120 := h.len (S0_spill ht hc)
theorem S0_f17 (ht : Fl f) : S0[f+17]? = some (.inl (.long, 7)) := by rcases ht with rfl | rfl | rfl <;> decide +kernel
theorem aL_f17 (h : Wf σ) (ht : Fl f) (hk : k < 7) : op_aL σ (f+17) (nI k) = some (ah_L σ (f+17) k) := h.aL (S0_f17 ht) hk (by decide)
theorem sL_f17 (h : Wf σ) (ht : Fl f) (hk : k < 7) : op_sL σ (f+17) (nI k) y = some (ah_wL σ (f+17) k y) := h.sL (S0_f17 ht) hk (by decide)
theorem len_f17 (h : Wf σ) (ht : Fl f) : op_len .long σ (f+17) = some 7 := h.len (S0_f17 ht)
theorem S0_f18 (ht : Fl f) : S0[f+18]? = some (.inl (.int, 7)) := by rcases ht with rfl | rfl | rfl <;> decide +kernel
theorem aI_f18 (h : Wf σ) (ht : Fl f) (hk : k < 7) : op_aI σ (f+18) (nI k) = some (ah_I σ (f+18) k) := h.aI (S0_f18 ht) hk (by decide)
theorem sI_f18 (h : Wf σ) (ht : Fl f) (hk : k < 7) : op_sI σ (f+18) (nI k) x = some (ah_wI σ (f+18) k x) := h.sI (S0_f18 ht) hk (by decide)
theorem len_f18 (h : Wf σ) (ht : Fl f) : op_len .int σ (f+18) = some 7 := h.len (S0_f18 ht)
theorem S0_f19 (ht : Fl f) : S0[f+19]? = some (.inl (.int, 7)) := by rcases ht with rfl | rfl | rfl <;> decide +kernel
theorem aI_f19 (h : Wf σ) (ht : Fl f) (hk : k < 7) : op_aI σ (f+19) (nI k) = some (ah_I σ (f+19) k) := h.aI (S0_f19 ht) hk (by decide)
theorem sI_f19 (h : Wf σ) (ht : Fl f) (hk : k < 7) : op_sI σ (f+19) (nI k) x = some (ah_wI σ (f+19) k x) := h.sI (S0_f19 ht) hk (by decide)
theorem len_f19 (h : Wf σ) (ht : Fl f) : op_len .int σ (f+19) = some 7 := h.len (S0_f19 ht)
theorem S0_f20 (ht : Fl f) : S0[f+20]? = some (.inl (.int, 7)) := by rcases ht with rfl | rfl | rfl <;> decide +kernel
theorem aI_f20 (h : Wf σ) (ht : Fl f) (hk : k < 7) : op_aI σ (f+20) (nI k) = some (ah_I σ (f+20) k) := h.aI (S0_f20 ht) hk (by decide)
theorem sI_f20 (h : Wf σ) (ht : Fl f) (hk : k < 7) : op_sI σ (f+20) (nI k) x = some (ah_wI σ (f+20) k x) := h.sI (S0_f20 ht) hk (by decide)
theorem len_f20 (h : Wf σ) (ht : Fl f) : op_len .int σ (f+20) = some 7 := h.len (S0_f20 ht)
theorem S0_fst (ht : Fl f) : S0[fst_ f]? = some (.inl (.int, 7)) := by rcases ht with rfl | rfl | rfl <;> decide +kernel
theorem aI_fst (h : Wf σ) (ht : Fl f) (hk : k < 7) : op_aI σ (fst_ f) (nI k) = some (ah_I σ (fst_ f) k) := h.aI (S0_fst ht) hk (by decide)
theorem sI_fst (h : Wf σ) (ht : Fl f) (hk : k < 7) : op_sI σ (fst_ f) (nI k) x = some (ah_wI σ (fst_ f) k x) := h.sI (S0_fst ht) hk (by decide)
theorem len_fst (h : Wf σ) (ht : Fl f) : op_len .int σ (fst_ f) = some 7 := h.len (S0_fst ht)
end
