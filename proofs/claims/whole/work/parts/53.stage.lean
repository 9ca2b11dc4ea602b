/-! STAGES: what they cost at least, and in which order -/
def NEV : Nat := 4611686018427387903
/-- corners not in a set -/
def mis (D : DD) (Q : Nat) : Nat := sm (fun c => if Q.testBit c then 0 else 1) (nC D)
/-- areas of those not in it, of the first k -/
def aou (D : DD) (Q : Nat) : Nat → Nat := sm (fun c => if Q.testBit c then 0 else are D c)
def crt (D : DD) (Q : Nat) : Nat := ct D * aou D Q (nC D)
/-- those that can be built next -/
def blb (D : DD) (Q c : Nat) : Prop := ¬ Q.testBit c = true ∧ ∃ y, nx D (stD D) c = some y ∧ Q.testBit y = true
noncomputable def stB (D : DD) (Q c : Nat) : Option Nat := cif (blb D Q c) (some 0) none
noncomputable def Vst (D : DD) : Nat → Nat → Nat
  | 0, _ => 0
  | m + 1, Q => if Q = 2 ^ nC D - 1 then 0 else match bsl (stB D Q) (fun c => crt D Q + Vst D m (Q ||| 2 ^ c)) (nC D) with
    | none => NEV
    | some a => min NEV (crt D Q + Vst D m (Q ||| 2 ^ a))
noncomputable def Rst (D : DD) (Q : Nat) : Nat := Vst D (nC D) Q
noncomputable def fvs (D : DD) (Q c : Nat) : Nat := crt D Q + Rst D (Q ||| 2 ^ c)
noncomputable def gst (D : DD) (Q : Nat) : Option Nat := bsl (stB D Q) (fvs D Q) (nC D)
theorem stB_n {D : DD} {Q c : Nat} : stB D Q c ≠ none ↔ blb D Q c := by
  unfold stB
  by_cases q : blb D Q c
  · rw [cif_t q]; exact ⟨fun _ => q, fun _ z => by cases z⟩
  · rw [cif_f q]; exact ⟨fun z => absurd rfl z, fun z => absurd z q⟩
theorem bsl_cg {st : Nat → Option Nat} {f g : Nat → Nat} {n : Nat} (h : ∀ c, c < n → st c ≠ none → f c = g c) : bsl st f n = bsl st g n := by
  induction n with
  | zero => rfl
  | succ n ih =>
    have e := ih (fun c hc => h c (by omega))
    unfold bsl
    rw [e]
    by_cases q : st n = none
    · rw [if_pos q, if_pos q]
    · rw [if_neg q, if_neg q]
      cases hb : bsl st g n with
      | none => rfl
      | some b =>
        obtain ⟨h1, h2⟩ := bsl_in hb
        show (if f n < f b then some n else some b) = (if g n < g b then some n else some b)
        rw [h n (by omega) q, h b (by omega) h2]
theorem bsl_ex {st : Nat → Option Nat} {f : Nat → Nat} {n c : Nat} (hc : c < n) (hs : st c ≠ none) : ∃ a, bsl st f n = some a ∧ f a ≤ f c := by
  induction n with
  | zero => omega
  | succ n ih =>
    unfold bsl
    by_cases q : st n = none
    · rw [if_pos q]
      exact ih (by
        have : c ≠ n := fun e => hs (e ▸ q)
        omega)
    · rw [if_neg q]
      by_cases e : c = n
      · subst e
        cases hb : bsl st f c with
        | none => exact ⟨c, rfl, Nat.le_refl _⟩
        | some b =>
          show ∃ a, (if f c < f b then some c else some b) = some a ∧ _
          by_cases z : f c < f b
          · rw [if_pos z]; exact ⟨c, rfl, Nat.le_refl _⟩
          · rw [if_neg z]; exact ⟨b, rfl, by omega⟩
      · obtain ⟨a, h1, h2⟩ := ih (by omega)
        rw [h1]
        show ∃ a', (if f n < f a then some n else some a) = some a' ∧ _
        by_cases z : f n < f a
        · rw [if_pos z]; exact ⟨n, rfl, by omega⟩
        · rw [if_neg z]; exact ⟨a, rfl, h2⟩
/-- it is the first of the least -/
theorem bsl_lt {st : Nat → Option Nat} {f : Nat → Nat} {n a : Nat} (h : bsl st f n = some a) : ∀ c, c < a → st c ≠ none → f a < f c := by
  induction n generalizing a with
  | zero => cases h
  | succ n ih =>
    unfold bsl at h
    by_cases q : st n = none
    · rw [if_pos q] at h; exact ih h
    · rw [if_neg q] at h
      cases hb : bsl st f n with
      | none =>
        rw [hb] at h
        cases h
        intro c hc hs
        obtain ⟨a, h1, -⟩ := bsl_ex (f := f) hc hs
        rw [hb] at h1; cases h1
      | some b =>
        rw [hb] at h
        have h : (if f n < f b then some n else some b) = some a := h
        by_cases z : f n < f b
        · rw [if_pos z] at h
          cases h
          intro c hc hs
          obtain ⟨a, h1, h2⟩ := bsl_ex (f := f) hc hs
          rw [hb] at h1; cases h1
          omega
        · rw [if_neg z] at h
          cases h
          exact ih hb
theorem bsl_fp {st : Nat → Option Nat} {f : Nat → Nat} {n a : Nat} (h : bsl st f n = some a) : fp (fun c => st c ≠ none ∧ f a = f c) 0 n = some a := by
  obtain ⟨h1, h2⟩ := bsl_in h
  have h3 := bsl_lt h
  have : ∀ m k, k + m = n → k ≤ a → fp (fun c => st c ≠ none ∧ f a = f c) k m = some a := by
    intro m
    induction m with
    | zero => intro k hk hka; omega
    | succ m ih =>
      intro k hk hka
      show cif _ _ _ = _
      by_cases e : k = a
      · subst e; rw [cif_t ⟨h2, rfl⟩]
      · rw [cif_f (fun z => by have := h3 k (by omega) z.1; omega)]
        exact ih (k + 1) (by omega) (by omega)
  exact this n 0 (by omega) (by omega)
section
variable {D : DD}
theorem mis_set {Q c : Nat} (hc : c < nC D) (hq : ¬ Q.testBit c = true) : mis D Q = mis D (Q ||| 2 ^ c) + 1 := by
  refine sm_one hc (fun o _ ho => ?_) ?_
  · show (if _ then _ else _) = (if _ then _ else _)
    by_cases z : Q.testBit o = true
    · rw [if_pos z, if_pos ((tb_set Q c o).mpr (Or.inl z))]
    · rw [if_neg z, if_neg (fun w => ((tb_set Q c o).mp w).elim z ho)]
  · show (if _ then _ else _) = (if _ then _ else _) + 1
    rw [if_neg hq, if_pos ((tb_set Q c c).mpr (Or.inr rfl))]
theorem mis_b (Q : Nat) : mis D Q ≤ nC D := sm_1 (fun c _ => by show (if _ then _ else _) ≤ 1; split <;> omega)
theorem mis_0 {Q : Nat} (hQ : Q < 2 ^ nC D) : mis D Q = 0 ↔ Q = 2 ^ nC D - 1 := by
  rw [full_iff hQ]
  constructor
  · intro h c hc
    have := sm_z h c hc
    by_cases z : Q.testBit c = true
    · exact z
    · rw [if_neg z] at this; omega
  · intro h
    exact sm_0 (fun c hc => if_pos (h c hc))
theorem Vst_st : ∀ m Q, Q < 2 ^ nC D → mis D Q ≤ m → Vst D (m + 1) Q = Vst D m Q := by
  intro m
  induction m with
  | zero =>
    intro Q hQ hm
    show (if _ then _ else _) = 0
    rw [if_pos ((mis_0 hQ).mp (by omega))]
  | succ m ih =>
    intro Q hQ hm
    show (if _ then _ else _) = (if _ then _ else _)
    by_cases q : Q = 2 ^ nC D - 1
    · rw [if_pos q, if_pos q]
    rw [if_neg q, if_neg q]
    have hst : ∀ c, c < nC D → stB D Q c ≠ none → Vst D (m + 1) (Q ||| 2 ^ c) = Vst D m (Q ||| 2 ^ c) := fun c hc hs => ih _ (or_b hQ (pw_b hc)) (by have := mis_set (D := D) hc (stB_n.mp hs).1; omega)
    rw [bsl_cg (g := fun c => crt D Q + Vst D m (Q ||| 2 ^ c)) (fun c hc hs => by rw [hst c hc hs])]
    cases hb : bsl (stB D Q) (fun c => crt D Q + Vst D m (Q ||| 2 ^ c)) (nC D) with
    | none => rfl
    | some a =>
      obtain ⟨h1, h2⟩ := bsl_in hb
      show min NEV _ = min NEV _
      rw [hst a h1 h2]
theorem Rst_eq {Q : Nat} (hQ : Q < 2 ^ nC D) : Rst D Q = if Q = 2 ^ nC D - 1 then 0 else match gst D Q with
    | none => NEV
    | some a => min NEV (fvs D Q a) := by
  show Vst D (nC D) Q = _
  rw [← Vst_st (nC D) Q hQ (mis_b Q)]
  rfl
theorem aou_b (ht : MT D) (Q : Nat) : ∀ k, k ≤ nC D → aou D Q k ≤ 99 * k := by
  intro k hk
  have := sm_le (f := fun c => if Q.testBit c then 0 else are D c) (n := k) (B := 99) (fun o ho => by
    show (if _ then _ else _) ≤ 99
    split
    · omega
    · exact ht.qare9 (by omega))
  unfold aou
  omega
theorem crt_b (ht : MT D) (Q : Nat) : crt D Q ≤ 68607 := by
  have b := ht.qc7
  have h1 := aou_b ht Q (nC D) (Nat.le_refl _)
  exact Nat.le_trans (Nat.mul_le_mul ht.qct99 (show aou D Q (nC D) ≤ 693 by omega)) (by decide)
/-- some corner can be built next -/
theorem bl_ex (ht : MT D) (hn : MN D) (hj : jnd D) {Q : Nat} (hQ : Q < 2 ^ nC D) (hr : Q.testBit (riv D) = true) (hne : Q ≠ 2 ^ nC D - 1) : ∃ c, c < nC D ∧ blb D Q c := by
  have h1 : ∃ c, c < nC D ∧ ¬ Q.testBit c = true := by
    apply Classical.byContradiction
    intro z
    exact hne ((full_iff hQ).mpr (fun c hc => Classical.byContradiction (fun w => z ⟨c, hc, w⟩)))
  obtain ⟨c, hc, hq⟩ := h1
  obtain ⟨j, hi⟩ := hj.2 c hc
  induction j generalizing c with
  | zero => exact absurd ((Option.some.inj hi) ▸ hr) hq
  | succ j ih =>
    have hi : (nx D (stD D) c).bind (itn (nx D (stD D)) j) = some (riv D) := hi
    cases hy : nx D (stD D) c with
    | none => rw [hy] at hi; cases hi
    | some y =>
      rw [hy] at hi
      have hi : itn (nx D (stD D)) j y = some (riv D) := hi
      by_cases z : Q.testBit y = true
      · exact ⟨c, hc, hq, y, hy, z⟩
      · exact ih y (stD_nxl ht hn c y hc hy) z hi
theorem gst_in {Q a : Nat} (h : gst D Q = some a) : a < nC D ∧ blb D Q a := ⟨(bsl_in h).1, stB_n.mp (bsl_in h).2⟩
theorem Rst_b (ht : MT D) (hn : MN D) (hj : jnd D) : ∀ m Q, mis D Q = m → Q < 2 ^ nC D → Q.testBit (riv D) = true → Rst D Q ≤ m * 68607 := by
  have b := ht.qc7
  intro m
  induction m with
  | zero =>
    intro Q hm hQ hr
    rw [Rst_eq hQ, if_pos ((mis_0 hQ).mp hm)]
    omega
  | succ m ih =>
    intro Q hm hQ hr
    have hne : Q ≠ 2 ^ nC D - 1 := fun e => by have := (mis_0 hQ).mpr e; omega
    rw [Rst_eq hQ, if_neg hne]
    obtain ⟨c, hc, hb⟩ := bl_ex ht hn hj hQ hr hne
    obtain ⟨a, h1, h2⟩ := bsl_ex (st := stB D Q) (f := fvs D Q) hc (stB_n.mpr hb)
    have h1 : gst D Q = some a := h1
    rw [h1]
    obtain ⟨h3, h4⟩ := gst_in h1
    have := ih (Q ||| 2 ^ a) (by have := mis_set (D := D) h3 h4.1; omega) (or_b hQ (pw_b h3)) ((tb_set Q a _).mpr (Or.inl hr))
    have hcr := crt_b ht Q
    show min NEV (crt D Q + Rst D (Q ||| 2 ^ a)) ≤ _
    omega
theorem Rst_riv (ht : MT D) (hn : MN D) (hj : jnd D) {Q : Nat} (hQ : Q < 2 ^ nC D) (hr : Q.testBit (riv D) = true) (hne : Q ≠ 2 ^ nC D - 1) : ∃ a, gst D Q = some a ∧ a < nC D ∧ blb D Q a ∧ Rst D Q = fvs D Q a ∧ fvs D Q a ≤ 1000000 := by
  have b := ht.qc7
  obtain ⟨c, hc, hb⟩ := bl_ex ht hn hj hQ hr hne
  obtain ⟨a, h1, h2⟩ := bsl_ex (st := stB D Q) (f := fvs D Q) hc (stB_n.mpr hb)
  have h1 : gst D Q = some a := h1
  obtain ⟨h3, h4⟩ := gst_in h1
  have h5 := Rst_b ht hn hj _ (Q ||| 2 ^ a) rfl (or_b hQ (pw_b h3)) ((tb_set Q a _).mpr (Or.inl hr))
  have h6 := mis_b (D := D) (Q ||| 2 ^ a)
  have hcr := crt_b ht Q
  have h7 : mis D (Q ||| 2 ^ a) * 68607 ≤ 7 * 68607 := Nat.mul_le_mul_right _ (by omega)
  have h8 : fvs D Q a ≤ 1000000 := by unfold fvs; omega
  refine ⟨a, h1, h3, h4, ?_, h8⟩
  rw [Rst_eq hQ, if_neg hne, h1]
  show min NEV (fvs D Q a) = _
  unfold NEV
  omega
/-- the order in which they are built from a set on -/
noncomputable def grd (D : DD) : Nat → Nat → Nat
  | Q, 0 => (gst D Q).getD 0
  | Q, i + 1 => grd D (Q ||| 2 ^ (gst D Q).getD 0) i
/-- a set that water runs out of -/
def Good (D : DD) (Q : Nat) : Prop := Q < 2 ^ nC D ∧ Q.testBit (riv D) = true ∧ ∀ c, Q.testBit c = true → c ≠ riv D → ∃ y, nx D (stD D) c = some y ∧ Q.testBit y = true
theorem Good_0 (ht : MT D) (hj : jnd D) : Good D (2 ^ riv D) := by
  refine ⟨pw_b (ht.rv hj.1).2.1, Nat.testBit_two_pow_self, fun c hc hr => ?_⟩
  rw [Nat.testBit_two_pow] at hc
  have : riv D = c := by simpa using hc
  exact absurd this.symm hr
theorem Good_add {Q c : Nat} (h : Good D Q) (hc : c < nC D) (hb : blb D Q c) : Good D (Q ||| 2 ^ c) := by
  refine ⟨or_b h.1 (pw_b hc), (tb_set Q c _).mpr (Or.inl h.2.1), fun o ho hr => ?_⟩
  rcases (tb_set Q c o).mp ho with z | z
  · obtain ⟨y, h1, h2⟩ := h.2.2 o z hr
    exact ⟨y, h1, (tb_set Q c y).mpr (Or.inl h2)⟩
  · obtain ⟨y, h1, h2⟩ := hb.2
    exact ⟨y, z ▸ h1, (tb_set Q c y).mpr (Or.inl h2)⟩
end
