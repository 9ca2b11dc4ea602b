/-! THE REFERENCE: the levels of an expression -/
def oqE (k : TK) : Nat := if tS k = 0 ∧ tV k = 15 then 262 else 0
def oqC (k : TK) : Nat := if tS k = 0 ∧ tV k = 16 then 261 else 0
def oqS (k : TK) : Nat := if tS k = 3 ∧ (tV k = 43 ∨ tV k = 45) then tV k else 0
def oqP (k : TK) : Nat := if tS k = 3 ∧ (tV k = 42 ∨ tV k = 47) then tV k else 0
section
variable {T : Nat → Nat} {n : Nat} {d : Nat} {σ : ah_H}
theorem f_exS (d w x : Nat) (σ : ah_H) : f_ex (d + 1) w x σ = if w = 0 then b_X12_expression (f_ex d) x σ else if w = 1 then b_X12_conjunction (f_ex d) x σ else if w = 2 then b_X12_negation (f_ex d) x σ else if w = 3 then b_X12_sum (f_ex d) x σ else if w = 4 then b_X12_product (f_ex d) x σ else b_X12_primary (f_ex d) x σ := rfl
/-- where a fault stands nothing is read -/
theorem f_exF : ∀ d w σ, w ≤ 5 → 6 - w ≤ d → Wf σ → ah_I σ 225 29 ≠ nI 0 → f_ex d w 225 σ = some σ := by
  intro d
  induction d with
  | zero => intro w σ h1 h2; omega
  | succ d ih =>
    intro w σ h1 h2 hW hf
    rw [f_exS]
    have lE : ∀ S fu, f_X12_expression_4 S (fu + 1) 225 σ = some σ := fun S fu => by
      show f_X12_expression_4_b S _ _ _ = _
      unfold f_X12_expression_4_b
      rw [m_isWordF hW hf, bd_s]; rfl
    have lC : ∀ S fu, f_X12_conjunction_4 S (fu + 1) 225 σ = some σ := fun S fu => by
      show f_X12_conjunction_4_b S _ _ _ = _
      unfold f_X12_conjunction_4_b
      rw [m_isWordF hW hf, bd_s]; rfl
    have lS : ∀ S fu, f_X12_sum_4 S (fu + 1) 225 σ = some σ := fun S fu => by
      show f_X12_sum_4_b S _ _ _ = _
      unfold f_X12_sum_4_b
      rw [m_isSignF hW hf, bd_s]
      show (f_X12_isSign 225 _ σ).bind _ = _
      rw [m_isSignF hW hf, bd_s]; rfl
    have lP : ∀ S fu, f_X12_product_4 S (fu + 1) 225 σ = some σ := fun S fu => by
      show f_X12_product_4_b S _ _ _ = _
      unfold f_X12_product_4_b
      rw [m_isSignF hW hf, bd_s]
      show (f_X12_isSign 225 _ σ).bind _ = _
      rw [m_isSignF hW hf, bd_s]; rfl
    have h29 : op_gI 12 29 σ 225 = some (ah_I σ 225 29) := gI_225 hW
    by_cases z0 : w = 0
    · rw [if_pos z0]
      unfold b_X12_expression f_X12_expression_0
      rw [ck_225 hW, ih 1 σ (by omega) (by omega) hW hf, bd_s]
      exact lE _ 4999
    rw [if_neg z0]
    by_cases z1 : w = 1
    · rw [if_pos z1]
      unfold b_X12_conjunction f_X12_conjunction_0
      rw [ck_225 hW, ih 2 σ (by omega) (by omega) hW hf, bd_s]
      exact lC _ 4999
    rw [if_neg z1]
    by_cases z2 : w = 2
    · rw [if_pos z2]
      unfold b_X12_negation f_X12_negation_0
      rw [ck_225 hW, m_isWordF hW hf, bd_s]
      show ((f_ex d 3 225 σ).bind _) = _
      rw [ih 3 σ (by omega) (by omega) hW hf, bd_s, h29, bd_s]
      exact if_neg hf
    rw [if_neg z2]
    by_cases z3 : w = 3
    · rw [if_pos z3]
      unfold b_X12_sum f_X12_sum_0
      rw [ck_225 hW, ih 4 σ (by omega) (by omega) hW hf, bd_s]
      exact lS _ 4999
    rw [if_neg z3]
    by_cases z4 : w = 4
    · rw [if_pos z4]
      unfold b_X12_product f_X12_product_0
      rw [ck_225 hW, ih 5 σ (by omega) (by omega) hW hf, bd_s]
      exact lP _ 4999
    rw [if_neg z4]
    unfold b_X12_primary f_X12_primary_0
    rw [ck_225 hW, h29, bd_s]
    exact if_neg hf
def dpt (w c p : Nat) : Nat := (64 - c) + 6 * (8 - p) + (6 - w) + 10
/-- what is known of the levels below -/
def XpH (T : Nat → Nat) (n d : Nat) : Prop := ∀ w σ i o S p c, w ≤ 5 → XpR σ T n i o p c → topb S ≤ tlv w → ntk w (tks T n i) S → dpt w c p ≤ d → ∃ σ', f_ex d w 225 σ = some σ' ∧ Fr Xxp σ σ' ∧ XpO T n w (i, o, S, p, c, true) o S p c σ'
theorem x_E (H : XpH T n d) {i p c : Nat} {o : List (Nat × Nat)} {S : List Nat} (hX : XpR σ T n i o p c) (hS : topb S ≤ tlv 0) (hnt : ntk 0 (tks T n i) S) (hd : dpt 0 c p ≤ d + 1) : ∃ σ', f_ex (d + 1) 0 225 σ = some σ' ∧ Fr Xxp σ σ' ∧ XpO T n 0 (i, o, S, p, c, true) o S p c σ' := by
  unfold dpt at hd
  have hfin := x_lev (w := 0) (opq := oqE) (LP := fun fu σ => f_X12_expression_4 (f_ex d) fu 225 σ) (Sub := f_ex d 1 225) (Or.inl rfl) (fun k hk => ?_) (fun k P hk hf => ?_) (fun fu σ i o p c hX hk => ?_) (fun fu σ i o p c hX hk => ?_) (fun fu σ hW hf => ?_) (fun σ hW hf => f_exF d 1 σ (by omega) (by omega) hW hf) (fun σ i o S c' hX hc hS hnt => H 1 σ i o S p c' (by omega) hX hS hnt (by unfold dpt; omega)) hS hnt hX
  · rw [f_exS, if_pos rfl]
    unfold b_X12_expression f_X12_expression_0
    rw [ck_225 hX.1.w]
    exact hfin
  · unfold oqE at hk ⊢
    by_cases z : tS k = 0 ∧ tV k = 15
    · rw [if_pos z]
      exact ⟨by decide, by omega, by omega, by unfold jsg; rw [if_pos z], by omega, by omega, by omega⟩
    · rw [if_neg z] at hk; exact absurd rfl hk
  · unfold oqE at hk
    have z : ¬ (tS k = 0 ∧ tV k = 15) := fun z => by rw [if_pos z] at hk; omega
    exact ⟨fun _ => hf.1 (by omega), fun _ => hf.2.1 (by omega), fun _ => hf.2.2.1 (by omega), fun _ => hf.2.2.2.1 (by omega), fun _ => z⟩
  · unfold oqE at hk
    have z : ¬ (tS (tks T n i) = 0 ∧ tV (tks T n i) = 15) := fun z => by rw [if_pos z] at hk; omega
    show f_X12_expression_4_b _ _ _ _ = _
    unfold f_X12_expression_4_b
    rw [show f_X12_isWord 225 (15 : Int32) σ = _ from m_isWord (w := 15) hX.1 hX.2.1 (by omega), bd_s, cI_f z]; rfl
  · unfold oqE at hk ⊢
    by_cases z : tS (tks T n i) = 0 ∧ tV (tks T n i) = 15
    · rw [if_pos z]
      show f_X12_expression_4_b _ _ _ _ = _
      unfold f_X12_expression_4_b
      rw [show f_X12_isWord 225 (15 : Int32) σ = _ from m_isWord (w := 15) hX.1 hX.2.1 (by omega), bd_s, cI_t z]; rfl
    · rw [if_neg z] at hk; exact absurd rfl hk
  · show f_X12_expression_4_b _ _ _ _ = _
    unfold f_X12_expression_4_b
    rw [m_isWordF hW hf, bd_s]; rfl
theorem x_C (H : XpH T n d) {i p c : Nat} {o : List (Nat × Nat)} {S : List Nat} (hX : XpR σ T n i o p c) (hS : topb S ≤ tlv 1) (hnt : ntk 1 (tks T n i) S) (hd : dpt 1 c p ≤ d + 1) : ∃ σ', f_ex (d + 1) 1 225 σ = some σ' ∧ Fr Xxp σ σ' ∧ XpO T n 1 (i, o, S, p, c, true) o S p c σ' := by
  unfold dpt at hd
  have hfin := x_lev (w := 1) (opq := oqC) (LP := fun fu σ => f_X12_conjunction_4 (f_ex d) fu 225 σ) (Sub := f_ex d 2 225) (Or.inr (Or.inl rfl)) (fun k hk => ?_) (fun k P hk hf => ?_) (fun fu σ i o p c hX hk => ?_) (fun fu σ i o p c hX hk => ?_) (fun fu σ hW hf => ?_) (fun σ hW hf => f_exF d 2 σ (by omega) (by omega) hW hf) (fun σ i o S c' hX hc hS hnt => H 2 σ i o S p c' (by omega) hX hS hnt (by unfold dpt; omega)) hS hnt hX
  · rw [f_exS, if_neg (by omega), if_pos rfl]
    unfold b_X12_conjunction f_X12_conjunction_0
    rw [ck_225 hX.1.w]
    exact hfin
  · unfold oqC at hk ⊢
    by_cases z : tS k = 0 ∧ tV k = 16
    · rw [if_pos z]
      exact ⟨by decide, by omega, by omega, by unfold jsg; rw [if_neg (by omega), if_pos z], by omega, by omega, by omega⟩
    · rw [if_neg z] at hk; exact absurd rfl hk
  · unfold oqC at hk
    have z : ¬ (tS k = 0 ∧ tV k = 16) := fun z => by rw [if_pos z] at hk; omega
    exact ⟨fun _ => hf.1 (by omega), fun _ => hf.2.1 (by omega), fun _ => hf.2.2.1 (by omega), fun _ => z, fun w => by omega⟩
  · unfold oqC at hk
    have z : ¬ (tS (tks T n i) = 0 ∧ tV (tks T n i) = 16) := fun z => by rw [if_pos z] at hk; omega
    show f_X12_conjunction_4_b _ _ _ _ = _
    unfold f_X12_conjunction_4_b
    rw [show f_X12_isWord 225 (16 : Int32) σ = _ from m_isWord (w := 16) hX.1 hX.2.1 (by omega), bd_s, cI_f z]; rfl
  · unfold oqC at hk ⊢
    by_cases z : tS (tks T n i) = 0 ∧ tV (tks T n i) = 16
    · rw [if_pos z]
      show f_X12_conjunction_4_b _ _ _ _ = _
      unfold f_X12_conjunction_4_b
      rw [show f_X12_isWord 225 (16 : Int32) σ = _ from m_isWord (w := 16) hX.1 hX.2.1 (by omega), bd_s, cI_t z]; rfl
    · rw [if_neg z] at hk; exact absurd rfl hk
  · show f_X12_conjunction_4_b _ _ _ _ = _
    unfold f_X12_conjunction_4_b
    rw [m_isWordF hW hf, bd_s]; rfl
theorem x_S (H : XpH T n d) {i p c : Nat} {o : List (Nat × Nat)} {S : List Nat} (hX : XpR σ T n i o p c) (hS : topb S ≤ tlv 3) (hnt : ntk 3 (tks T n i) S) (hd : dpt 3 c p ≤ d + 1) : ∃ σ', f_ex (d + 1) 3 225 σ = some σ' ∧ Fr Xxp σ σ' ∧ XpO T n 3 (i, o, S, p, c, true) o S p c σ' := by
  unfold dpt at hd
  have hfin := x_lev (w := 3) (opq := oqS) (LP := fun fu σ => f_X12_sum_4 (f_ex d) fu 225 σ) (Sub := f_ex d 4 225) (Or.inr (Or.inr (Or.inl rfl))) (fun k hk => ?_) (fun k P hk hf => ?_) (fun fu σ i o p c hX hk => ?_) (fun fu σ i o p c hX hk => ?_) (fun fu σ hW hf => ?_) (fun σ hW hf => f_exF d 4 σ (by omega) (by omega) hW hf) (fun σ i o S c' hX hc hS hnt => H 4 σ i o S p c' (by omega) hX hS hnt (by unfold dpt; omega)) hS hnt hX
  · rw [f_exS, if_neg (by omega), if_neg (by omega), if_neg (by omega), if_pos rfl]
    unfold b_X12_sum f_X12_sum_0
    rw [ck_225 hX.1.w]
    exact hfin
  · unfold oqS at hk ⊢
    by_cases z : tS k = 3 ∧ (tV k = 43 ∨ tV k = 45)
    · rw [if_pos z]
      refine ⟨?_, by omega, by omega, ?_, by omega, by omega, by omega⟩
      · rcases z.2 with y | y <;> rw [y] <;> decide
      · unfold jsg; rw [if_neg (by omega), if_neg (by omega), if_pos z.1]
    · rw [if_neg z] at hk; exact absurd rfl hk
  · unfold oqS at hk
    have z : ¬ (tS k = 3 ∧ (tV k = 43 ∨ tV k = 45)) := fun z => by rw [if_pos z] at hk; omega
    exact ⟨fun _ => hf.1 (by omega), fun _ => z, fun w => by omega, fun w => by omega, fun w => by omega⟩
  · unfold oqS at hk
    have z : ¬ (tS (tks T n i) = 3 ∧ (tV (tks T n i) = 43 ∨ tV (tks T n i) = 45)) := fun z => by rw [if_pos z] at hk; omega
    show f_X12_sum_4_b _ _ _ _ = _
    unfold f_X12_sum_4_b
    rw [show f_X12_isSign 225 (43 : Int32) σ = _ from m_isSign (w := 43) hX.1 hX.2.1 (by omega), bd_s, cI_f (by omega)]
    show (f_X12_isSign 225 (45 : Int32) σ).bind _ = _
    rw [show f_X12_isSign 225 (45 : Int32) σ = _ from m_isSign (w := 45) hX.1 hX.2.1 (by omega), bd_s, cI_f (by omega)]; rfl
  · unfold oqS at hk ⊢
    by_cases z : tS (tks T n i) = 3 ∧ (tV (tks T n i) = 43 ∨ tV (tks T n i) = 45)
    · rw [if_pos z]
      have v28 : op_gI 12 28 σ 225 = some (nI (tV (tks T n i))) := by rw [gI_225 hX.1.w, hX.1.2.2.2.2 (by omega)]
      show f_X12_sum_4_b _ _ _ _ = _
      unfold f_X12_sum_4_b
      rw [show f_X12_isSign 225 (43 : Int32) σ = _ from m_isSign (w := 43) hX.1 hX.2.1 (by omega), bd_s]
      by_cases y : tV (tks T n i) = 43
      · rw [cI_t ⟨z.1, y⟩]
        show f_X12_sum_22 _ _ _ _ = _
        unfold f_X12_sum_22
        rw [v28, bd_s]; rfl
      · rw [cI_f (fun w => y w.2)]
        show (f_X12_isSign 225 (45 : Int32) σ).bind _ = _
        rw [show f_X12_isSign 225 (45 : Int32) σ = _ from m_isSign (w := 45) hX.1 hX.2.1 (by omega), bd_s, cI_t (by omega)]
        show f_X12_sum_22 _ _ _ _ = _
        unfold f_X12_sum_22
        rw [v28, bd_s]; rfl
    · rw [if_neg z] at hk; exact absurd rfl hk
  · show f_X12_sum_4_b _ _ _ _ = _
    unfold f_X12_sum_4_b
    rw [m_isSignF hW hf, bd_s]
    show (f_X12_isSign 225 _ σ).bind _ = _
    rw [m_isSignF hW hf, bd_s]; rfl
theorem x_P (H : XpH T n d) {i p c : Nat} {o : List (Nat × Nat)} {S : List Nat} (hX : XpR σ T n i o p c) (hS : topb S ≤ tlv 4) (hnt : ntk 4 (tks T n i) S) (hd : dpt 4 c p ≤ d + 1) : ∃ σ', f_ex (d + 1) 4 225 σ = some σ' ∧ Fr Xxp σ σ' ∧ XpO T n 4 (i, o, S, p, c, true) o S p c σ' := by
  unfold dpt at hd
  have hfin := x_lev (w := 4) (opq := oqP) (LP := fun fu σ => f_X12_product_4 (f_ex d) fu 225 σ) (Sub := f_ex d 5 225) (Or.inr (Or.inr (Or.inr rfl))) (fun k hk => ?_) (fun k P hk hf => ?_) (fun fu σ i o p c hX hk => ?_) (fun fu σ i o p c hX hk => ?_) (fun fu σ hW hf => ?_) (fun σ hW hf => f_exF d 5 σ (by omega) (by omega) hW hf) (fun σ i o S c' hX hc hS hnt => H 5 σ i o S p c' (by omega) hX hS hnt (by unfold dpt; omega)) hS hnt hX
  · rw [f_exS, if_neg (by omega), if_neg (by omega), if_neg (by omega), if_neg (by omega), if_pos rfl]
    unfold b_X12_product f_X12_product_0
    rw [ck_225 hX.1.w]
    exact hfin
  · unfold oqP at hk ⊢
    by_cases z : tS k = 3 ∧ (tV k = 42 ∨ tV k = 47)
    · rw [if_pos z]
      refine ⟨?_, by omega, by omega, ?_, by omega, by omega, by omega⟩
      · rcases z.2 with y | y <;> rw [y] <;> decide
      · unfold jsg; rw [if_neg (by omega), if_neg (by omega), if_pos z.1]
    · rw [if_neg z] at hk; exact absurd rfl hk
  · unfold oqP at hk
    have z : ¬ (tS k = 3 ∧ (tV k = 42 ∨ tV k = 47)) := fun z => by rw [if_pos z] at hk; omega
    exact ⟨fun _ => z, fun w => by omega, fun w => by omega, fun w => by omega, fun w => by omega⟩
  · unfold oqP at hk
    have z : ¬ (tS (tks T n i) = 3 ∧ (tV (tks T n i) = 42 ∨ tV (tks T n i) = 47)) := fun z => by rw [if_pos z] at hk; omega
    show f_X12_product_4_b _ _ _ _ = _
    unfold f_X12_product_4_b
    rw [show f_X12_isSign 225 (42 : Int32) σ = _ from m_isSign (w := 42) hX.1 hX.2.1 (by omega), bd_s, cI_f (by omega)]
    show (f_X12_isSign 225 (47 : Int32) σ).bind _ = _
    rw [show f_X12_isSign 225 (47 : Int32) σ = _ from m_isSign (w := 47) hX.1 hX.2.1 (by omega), bd_s, cI_f (by omega)]; rfl
  · unfold oqP at hk ⊢
    by_cases z : tS (tks T n i) = 3 ∧ (tV (tks T n i) = 42 ∨ tV (tks T n i) = 47)
    · rw [if_pos z]
      have v28 : op_gI 12 28 σ 225 = some (nI (tV (tks T n i))) := by rw [gI_225 hX.1.w, hX.1.2.2.2.2 (by omega)]
      show f_X12_product_4_b _ _ _ _ = _
      unfold f_X12_product_4_b
      rw [show f_X12_isSign 225 (42 : Int32) σ = _ from m_isSign (w := 42) hX.1 hX.2.1 (by omega), bd_s]
      by_cases y : tV (tks T n i) = 42
      · rw [cI_t ⟨z.1, y⟩]
        show f_X12_product_22 _ _ _ _ = _
        unfold f_X12_product_22
        rw [v28, bd_s]; rfl
      · rw [cI_f (fun w => y w.2)]
        show (f_X12_isSign 225 (47 : Int32) σ).bind _ = _
        rw [show f_X12_isSign 225 (47 : Int32) σ = _ from m_isSign (w := 47) hX.1 hX.2.1 (by omega), bd_s, cI_t (by omega)]
        show f_X12_product_22 _ _ _ _ = _
        unfold f_X12_product_22
        rw [v28, bd_s]; rfl
    · rw [if_neg z] at hk; exact absurd rfl hk
  · show f_X12_product_4_b _ _ _ _ = _
    unfold f_X12_product_4_b
    rw [m_isSignF hW hf, bd_s]
    show (f_X12_isSign 225 _ σ).bind _ = _
    rw [m_isSignF hW hf, bd_s]; rfl
end
