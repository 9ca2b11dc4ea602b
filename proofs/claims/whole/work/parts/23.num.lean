/-! NUMBERS: ints as nI, longs as iL; frames -/
def ix (x : Int32) : Nat := x.toNatClampNeg
theorem ix_nI {n : Nat} (h : n < 2147483648) : ix (nI n) = n := nI_clamp h
theorem l_0 : (0 : Int32) = nI 0 := by decide
theorem l_1 : (1 : Int32) = nI 1 := by decide
theorem l_2 : (2 : Int32) = nI 2 := by decide
theorem l_3 : (3 : Int32) = nI 3 := by decide
theorem l_4 : (4 : Int32) = nI 4 := by decide
theorem l_5 : (5 : Int32) = nI 5 := by decide
theorem l_6 : (6 : Int32) = nI 6 := by decide
theorem l_7 : (7 : Int32) = nI 7 := by decide
theorem l_8 : (8 : Int32) = nI 8 := by decide
theorem l_9 : (9 : Int32) = nI 9 := by decide
theorem l_10 : (10 : Int32) = nI 10 := by decide
theorem l_11 : (11 : Int32) = nI 11 := by decide
theorem l_12 : (12 : Int32) = nI 12 := by decide
theorem l_13 : (13 : Int32) = nI 13 := by decide
theorem l_14 : (14 : Int32) = nI 14 := by decide
theorem l_15 : (15 : Int32) = nI 15 := by decide
theorem l_16 : (16 : Int32) = nI 16 := by decide
theorem l_17 : (17 : Int32) = nI 17 := by decide
theorem l_18 : (18 : Int32) = nI 18 := by decide
theorem l_19 : (19 : Int32) = nI 19 := by decide
theorem l_20 : (20 : Int32) = nI 20 := by decide
theorem l_21 : (21 : Int32) = nI 21 := by decide
theorem l_22 : (22 : Int32) = nI 22 := by decide
theorem l_23 : (23 : Int32) = nI 23 := by decide
theorem l_24 : (24 : Int32) = nI 24 := by decide
theorem l_25 : (25 : Int32) = nI 25 := by decide
theorem l_26 : (26 : Int32) = nI 26 := by decide
theorem l_27 : (27 : Int32) = nI 27 := by decide
theorem l_28 : (28 : Int32) = nI 28 := by decide
theorem l_29 : (29 : Int32) = nI 29 := by decide
theorem l_30 : (30 : Int32) = nI 30 := by decide
theorem l_31 : (31 : Int32) = nI 31 := by decide
theorem l_32 : (32 : Int32) = nI 32 := by decide
theorem l_40 : (40 : Int32) = nI 40 := by decide
theorem l_41 : (41 : Int32) = nI 41 := by decide
theorem l_42 : (42 : Int32) = nI 42 := by decide
theorem l_43 : (43 : Int32) = nI 43 := by decide
theorem l_44 : (44 : Int32) = nI 44 := by decide
theorem l_45 : (45 : Int32) = nI 45 := by decide
theorem l_46 : (46 : Int32) = nI 46 := by decide
theorem l_47 : (47 : Int32) = nI 47 := by decide
theorem l_48 : (48 : Int32) = nI 48 := by decide
theorem l_49 : (49 : Int32) = nI 49 := by decide
theorem l_50 : (50 : Int32) = nI 50 := by decide
theorem l_51 : (51 : Int32) = nI 51 := by decide
theorem l_52 : (52 : Int32) = nI 52 := by decide
theorem l_53 : (53 : Int32) = nI 53 := by decide
theorem l_54 : (54 : Int32) = nI 54 := by decide
theorem l_55 : (55 : Int32) = nI 55 := by decide
theorem l_56 : (56 : Int32) = nI 56 := by decide
theorem l_57 : (57 : Int32) = nI 57 := by decide
theorem l_58 : (58 : Int32) = nI 58 := by decide
theorem l_59 : (59 : Int32) = nI 59 := by decide
theorem l_60 : (60 : Int32) = nI 60 := by decide
theorem l_61 : (61 : Int32) = nI 61 := by decide
theorem l_62 : (62 : Int32) = nI 62 := by decide
theorem l_63 : (63 : Int32) = nI 63 := by decide
theorem l_64 : (64 : Int32) = nI 64 := by decide
theorem l_72 : (72 : Int32) = nI 72 := by decide
theorem l_97 : (97 : Int32) = nI 97 := by decide
theorem l_99 : (99 : Int32) = nI 99 := by decide
theorem l_100 : (100 : Int32) = nI 100 := by decide
theorem l_104 : (104 : Int32) = nI 104 := by decide
theorem l_120 : (120 : Int32) = nI 120 := by decide
theorem l_122 : (122 : Int32) = nI 122 := by decide
theorem l_128 : (128 : Int32) = nI 128 := by decide
theorem l_140 : (140 : Int32) = nI 140 := by decide
theorem l_255 : (255 : Int32) = nI 255 := by decide
theorem l_256 : (256 : Int32) = nI 256 := by decide
theorem l_257 : (257 : Int32) = nI 257 := by decide
theorem l_258 : (258 : Int32) = nI 258 := by decide
theorem l_260 : (260 : Int32) = nI 260 := by decide
theorem l_261 : (261 : Int32) = nI 261 := by decide
theorem l_262 : (262 : Int32) = nI 262 := by decide
theorem l_364 : (364 : Int32) = nI 364 := by decide
theorem l_680 : (680 : Int32) = nI 680 := by decide
theorem l_700 : (700 : Int32) = nI 700 := by decide
theorem l_701 : (701 : Int32) = nI 701 := by decide
theorem l_840 : (840 : Int32) = nI 840 := by decide
theorem l_999 : (999 : Int32) = nI 999 := by decide
theorem l_1023 : (1023 : Int32) = nI 1023 := by decide
theorem l_1024 : (1024 : Int32) = nI 1024 := by decide
theorem l_9999 : (9999 : Int32) = nI 9999 := by decide
theorem l_10000 : (10000 : Int32) = nI 10000 := by decide
theorem l_1000000 : (1000000 : Int32) = nI 1000000 := by decide
theorem nI_t {n : Nat} (h : n < 2147483648) : (nI n).toInt = (n : Int) := nI_toInt h
theorem zadd (a b : Nat) : nI a + nI b = nI (a + b) := by
  unfold nI
  exact (Int32.ofNat_add a b).symm
theorem zmul (a b : Nat) : nI a * nI b = nI (a * b) := by
  unfold nI
  exact (Int32.ofNat_mul a b).symm
theorem zsub {a b : Nat} (h : b ≤ a) : nI a - nI b = nI (a - b) := by
  have h1 : nI a = nI (a - b) + nI b := by rw [zadd]; congr 1; omega
  rw [h1]
  exact Int32.add_sub_cancel _ _
theorem le_nI {a b : Nat} (ha : a < 2147483648) (hb : b < 2147483648) : (nI a ≤ nI b) = (a ≤ b) := by
  rw [Int32.le_iff_toInt_le, nI_t ha, nI_t hb]
  exact propext Int.ofNat_le
theorem lt_nI {a b : Nat} (ha : a < 2147483648) (hb : b < 2147483648) : (nI a < nI b) = (a < b) := by
  rw [Int32.lt_iff_toInt_lt, nI_t ha, nI_t hb]
  exact propext Int.ofNat_lt
theorem eq_nI {a b : Nat} (ha : a < 2147483648) (hb : b < 2147483648) : (nI a = nI b) = (a = b) := by
  refine propext ⟨fun h => ?_, fun h => by rw [h]⟩
  have h1 := nI_t ha
  rw [h, nI_t hb] at h1
  exact (Int.ofNat.inj h1).symm
def mI (k : Nat) : Int32 := - nI k
theorem lm (k : Nat) : - nI k = mI k := by
  have h : mI k = - nI k := rfl
  exact h ▸ rfl
theorem mI_t {k : Nat} (h : k < 2147483648) : (mI k).toInt = -(k : Int) := by
  unfold mI
  have h1 := nI_t h
  rw [Int32.toInt_neg, h1]
  exact Int.bmod_eq_of_le (by omega) (by omega)
theorem neg_nI {a k : Nat} (hk : 0 < k) (hk2 : k < 2147483648) (ha : a < 2147483648) : (nI a = mI k) = False := by
  refine propext ⟨fun h => ?_, fun h => h.elim⟩
  have h1 := nI_t ha
  rw [h, mI_t hk2] at h1
  omega
theorem gen_nI {a k : Nat} (hk : 0 < k) (hk2 : k < 2147483648) (ha : a < 2147483648) : (mI k = nI a) = False := by
  rw [← neg_nI hk hk2 ha]; exact propext ⟨Eq.symm, Eq.symm⟩
theorem neg_lt {a k : Nat} (hk : 0 < k) (hk2 : k < 2147483648) (ha : a < 2147483648) : (mI k < nI a) = True := by
  refine propext ⟨fun _ => trivial, fun _ => ?_⟩
  rw [Int32.lt_iff_toInt_lt, nI_t ha, mI_t hk2]
  omega
theorem neg_lt' {a k : Nat} (hk : 0 < k) (hk2 : k < 2147483648) (ha : a < 2147483648) : (nI a < mI k) = False := by
  refine propext ⟨fun h => ?_, fun h => h.elim⟩
  rw [Int32.lt_iff_toInt_lt, nI_t ha, mI_t hk2] at h
  omega
theorem neg_le {a k : Nat} (hk : 0 < k) (hk2 : k < 2147483648) (ha : a < 2147483648) : (nI a ≤ mI k) = False := by
  refine propext ⟨fun h => ?_, fun h => h.elim⟩
  rw [Int32.le_iff_toInt_le, nI_t ha, mI_t hk2] at h
  omega
theorem neg_le' {a k : Nat} (hk : 0 < k) (hk2 : k < 2147483648) (ha : a < 2147483648) : (mI k ≤ nI a) = True := by
  refine propext ⟨fun _ => trivial, fun _ => ?_⟩
  rw [Int32.le_iff_toInt_le, nI_t ha, mI_t hk2]
  omega
theorem nI_lt0 {a : Nat} (ha : a < 2147483648) : (nI a < nI 0) = False := by
  rw [lt_nI ha (by decide)]; exact propext ⟨fun h => by omega, fun h => h.elim⟩
/-- a raw number between 0 and a bound -/
theorem nI_rng {x : Int32} {n : Nat} (hn : n < 2147483648) (h0 : ¬ x < nI 0) (h1 : ¬ nI n ≤ x) : ∃ k, k < n ∧ x = nI k := by
  refine ⟨ix x, ?_, ?_⟩
  · rw [Int32.le_iff_toInt_le, nI_t hn] at h1
    rw [Int32.lt_iff_toInt_lt, nI_t (by decide)] at h0
    have h2 : ix x = x.toInt.toNat := rfl
    omega
  · rw [Int32.lt_iff_toInt_lt, nI_t (by decide)] at h0
    have h2 : ix x = x.toInt.toNat := rfl
    have h3 := x.toInt_lt
    apply Int32.toInt_inj.mp
    rw [nI_t (by omega)]
    omega
theorem rz_0 : op_rz (nI 0) = some (nI 0) := rfl
theorem rz_1 : op_rz (nI 1) = some (nI 1) := rfl
/-- a natural at most b -/
def Nn (x : Int32) (b : Nat) : Prop := x = nI (ix x) ∧ ix x ≤ b
theorem Nn.eq {x : Int32} {b : Nat} (h : Nn x b) : x = nI (ix x) := h.1
theorem Nn.le {x : Int32} {b : Nat} (h : Nn x b) : ix x ≤ b := h.2
theorem Nn.mk {n b : Nat} (h : n ≤ b) (hb : b < 2147483648) : Nn (nI n) b := by
  have h1 : ix (nI n) = n := ix_nI (by omega)
  exact ⟨by rw [h1], by rw [h1]; exact h⟩
/-- places outside X are as they were -/
def Fr (X : Nat → Nat → Prop) (σ τ : ah_H) : Prop := (∀ a j, ¬ X a j → ah_I τ a j = ah_I σ a j ∧ ah_L τ a j = ah_L σ a j) ∧ (∀ a j, (a, j) ∉ mut0 ∨ ¬ X a j → ah_R τ a j = ah_R σ a j) ∧ ah_S τ = ah_S σ
theorem Fr.rfl {X : Nat → Nat → Prop} {σ : ah_H} : Fr X σ σ := ⟨fun _ _ _ => ⟨Eq.refl _, Eq.refl _⟩, fun _ _ _ => Eq.refl _, Eq.refl _⟩
theorem Fr.trans {X : Nat → Nat → Prop} {σ τ ρ : ah_H} (h : Fr X σ τ) (g : Fr X τ ρ) : Fr X σ ρ :=
  ⟨fun a j n => ⟨(g.1 a j n).1.trans (h.1 a j n).1, (g.1 a j n).2.trans (h.1 a j n).2⟩, fun a j n => (g.2.1 a j n).trans (h.2.1 a j n), g.2.2.trans h.2.2⟩
theorem Fr.mono {X Y : Nat → Nat → Prop} {σ τ : ah_H} (h : Fr X σ τ) (hXY : ∀ a j, X a j → Y a j) : Fr Y σ τ :=
  ⟨fun a j n => h.1 a j (fun q => n (hXY a j q)), fun a j n => h.2.1 a j (n.imp (fun q => q) (fun q r => q (hXY a j r))), h.2.2⟩
theorem Fr.I {X : Nat → Nat → Prop} {σ τ : ah_H} (h : Fr X σ τ) {a j : Nat} (n : ¬ X a j) : ah_I τ a j = ah_I σ a j := (h.1 a j n).1
theorem Fr.L {X : Nat → Nat → Prop} {σ τ : ah_H} (h : Fr X σ τ) {a j : Nat} (n : ¬ X a j) : ah_L τ a j = ah_L σ a j := (h.1 a j n).2
theorem Fr.R {X : Nat → Nat → Prop} {σ τ : ah_H} (h : Fr X σ τ) {a j : Nat} (n : (a, j) ∉ mut0 ∨ ¬ X a j) : ah_R τ a j = ah_R σ a j := h.2.1 a j n
theorem Fr.wI {X : Nat → Nat → Prop} {σ τ : ah_H} (h : Fr X σ τ) {a i : Nat} {x : Int32} (hx : X a i) : Fr X σ (ah_wI τ a i x) := by
  refine h.trans ⟨fun b j n => ⟨?_, Eq.refl _⟩, fun _ _ _ => Eq.refl _, Eq.refl _⟩
  rw [ah_I_wI, if_neg]
  rintro ⟨e1, e2⟩
  rw [e1, e2] at n
  exact n hx
theorem Fr.wL {X : Nat → Nat → Prop} {σ τ : ah_H} (h : Fr X σ τ) {a i : Nat} {x : Int64} (hx : X a i) : Fr X σ (ah_wL τ a i x) := by
  refine h.trans ⟨fun b j n => ⟨Eq.refl _, ?_⟩, fun _ _ _ => Eq.refl _, Eq.refl _⟩
  rw [ah_L_wL, if_neg]
  rintro ⟨e1, e2⟩
  rw [e1, e2] at n
  exact n hx
theorem Fr.wR {X : Nat → Nat → Prop} {σ τ : ah_H} (h : Fr X σ τ) {a i : Nat} {x : Option Nat} (hm : (a, i) ∈ mut0) (hx : X a i) : Fr X σ (ah_wR τ a i x) := by
  refine h.trans ⟨fun b j n => ⟨Eq.refl _, Eq.refl _⟩, fun b j n => ?_, Eq.refl _⟩
  rw [ah_R_wR, if_neg]
  rintro ⟨e1, e2⟩
  rw [e1, e2] at n
  exact n.elim (fun q => q hm) (fun q => q hx)
theorem Wf.fr {X : Nat → Nat → Prop} {σ τ : ah_H} (h : Wf σ) (g : Fr X σ τ) : Wf τ :=
  ⟨g.2.2.trans h.1, fun a j b hr hm => (g.2.1 a j (Or.inl hm)).trans (h.2 a j b hr hm)⟩
theorem Wf.wR {σ : ah_H} (h : Wf σ) {a i : Nat} {x : Option Nat} (hm : (a, i) ∈ mut0) : Wf (ah_wR σ a i x) :=
  h.fr (Fr.wR (X := fun _ _ => True) Fr.rfl hm trivial)
theorem rI_ne {σ : ah_H} {a i b j : Nat} {x : Int32} (h : b ≠ a ∨ j ≠ i) : ah_I (ah_wI σ a i x) b j = ah_I σ b j := by
  rw [ah_I_wI, if_neg]; rintro ⟨e1, e2⟩; exact h.elim (fun q => q e1) (fun q => q e2)
theorem rI_eq {σ : ah_H} {a i : Nat} {x : Int32} : ah_I (ah_wI σ a i x) a i = x := by
  rw [ah_I_wI, if_pos ⟨rfl, rfl⟩]
theorem rL_ne {σ : ah_H} {a i b j : Nat} {x : Int64} (h : b ≠ a ∨ j ≠ i) : ah_L (ah_wL σ a i x) b j = ah_L σ b j := by
  rw [ah_L_wL, if_neg]; rintro ⟨e1, e2⟩; exact h.elim (fun q => q e1) (fun q => q e2)
theorem rL_eq {σ : ah_H} {a i : Nat} {x : Int64} : ah_L (ah_wL σ a i x) a i = x := by
  rw [ah_L_wL, if_pos ⟨rfl, rfl⟩]
theorem rR_ne {σ : ah_H} {a i b j : Nat} {x : Option Nat} (h : b ≠ a ∨ j ≠ i) : ah_R (ah_wR σ a i x) b j = ah_R σ b j := by
  rw [ah_R_wR, if_neg]; rintro ⟨e1, e2⟩; exact h.elim (fun q => q e1) (fun q => q e2)
theorem rR_eq {σ : ah_H} {a i : Nat} {x : Option Nat} : ah_R (ah_wR σ a i x) a i = x := by
  rw [ah_R_wR, if_pos ⟨rfl, rfl⟩]
abbrev UU {α β : Type} (_ : α → Option β) : Type := Unit
def UU_u {α β : Type} (f : α → Option β) : UU f := ()
/-- bind, so that simp doesn't look into what comes later -/
def bq {α β : Type} (f : α → Option β) (_ : UU f) (o : Option α) : Option β := o.bind f
theorem to_bq {α β : Type} (o : Option α) (f : α → Option β) : o.bind f = bq f (Unit.unit : Unit) o := rfl
theorem bq_s {α β : Type} (f : α → Option β) (u : UU f) (x : α) : bq f u (some x) = f x := rfl
theorem mp_s {α β : Type} (x : α) (f : α → β) : (some x).map f = some (f x) := rfl
/-- truths as ints -/
def bI (p : Prop) [Decidable p] : Int32 := if p then nI 1 else nI 0
theorem bI_0 (p : Prop) [Decidable p] : (bI p = nI 0) = ¬ p := by
  unfold bI
  by_cases h : p
  · rw [if_pos h]; exact propext ⟨fun q => absurd q (by decide), fun q => absurd h q⟩
  · rw [if_neg h]; exact propext ⟨fun _ => h, fun _ => rfl⟩
theorem bI_rz (p : Prop) [Decidable p] : op_rz (bI p) = some (bI p) := by
  unfold bI; split <;> rfl
