/-! TREES: facts of a whole tree -/
section
variable {D : DD} {m r : Nat} {st : Nat → Option Nat}
theorem or_nxl (ht : MT D) (h : OrP D m r st) : ∀ c k, c < nC D → nx D st c = some k → k < nC D := by
  intro c k hc hx
  refine nx_lt ht (fun s hs => ?_) hx
  have hcr : c ≠ r := fun z => by rw [z, h.2.1] at hs; cases hs
  obtain ⟨s', z1, z2, -⟩ := h.1 c hc hcr
  rw [hs] at z1; cases z1; exact z2
theorem or_nr (h : OrP D m r st) {c : Nat} (hc : c < nC D) : ¬ Rg (nx D st) (nC D) c := by
  intro hr
  obtain ⟨j, hj⟩ := h.2.2.2 c hc
  have key : ∀ j x, Rg (nx D st) (nC D) x → itn (nx D st) j x = some r → False := by
    intro j
    induction j with
    | zero =>
      intro x hx hi
      rw [show x = r from Option.some.inj hi] at hx
      obtain ⟨k, hk⟩ := Rg_in hx
      unfold nx at hk
      rw [h.2.1] at hk; cases hk
    | succ j ih =>
      intro x hx hi
      have hi : (nx D st x).bind (itn (nx D st) j) = some r := hi
      cases e : nx D st x with
      | none => rw [e] at hi; cases hi
      | some y => rw [e] at hi; exact ih y (Rg_nxt hx e) hi
  exact key j c hr hj
theorem or_hd (ht : MT D) (h : OrP D m r st) {c : Nat} (hc : c < nC D) : Hd (nx D st) (nC D) (nC D) c := (Rg_or (or_nxl ht h) hc).resolve_left (or_nr h hc)
theorem or_st (h : OrP D m r st) {c : Nat} (hc : c < nC D) : ∀ s, st c = some s → s < nS D := by
  intro s hs
  have hcr : c ≠ r := fun z => by rw [z, h.2.1] at hs; cases hs
  obtain ⟨s', z1, z2, -⟩ := h.1 c hc hcr
  rw [hs] at z1; cases z1; exact z2
theorem or_nn (h : OrP D m r st) : nx D st r = none := by unfold nx; rw [h.2.1]; rfl
end
section
variable {p : DPr}
theorem lw_k (hn : ∀ c k, c < dpn p → dpx p c = some k → k < dpn p) {K : Nat → Nat} (ho : ∀ c, c < dpn p → ∀ w a b, vk (dpo p c w a b) (K c)) (hp : ∀ c k, vk (dpp p c k) 0) : ∀ d c, c < dpn p → Hd (dpx p) (dpn p) d c → ∀ v b, vk (lw p d c v b) (sub (dpx p) (dpn p) K c) := by
  intro d
  induction d with
  | zero => intro c _ h; exact h.elim
  | succ d ih =>
    intro c hc hd v b
    rw [sub_s hn _ hc hd]
    have hS : ∀ w m, vk (chsT p (lw p d) c w m) (sm (fun o => if dpx p o = some c then sub (dpx p) (dpn p) K o else 0) (dpn p)) := by
      intro w m
      refine vk_sm _ (fun o ho => ?_)
      by_cases q : dpx p o = some c
      · rw [if_pos q, if_pos q]
        exact vk_mn _ (fun v _ => vk_mn _ (fun b _ => ih o ho (hd o ho q) v b))
      · rw [if_neg q, if_neg q]
        intro x hx; cases hx; exact Nat.le_refl _
    have hJ : ∀ w m, vk (chjT p (lw p d) c w m) (sm (fun o => if dpx p o = some c then sub (dpx p) (dpn p) K o else 0) (dpn p)) := by
      intro w m
      refine vk_mn _ (fun z hz => ?_)
      by_cases q : dpx p z = some c
      · rw [if_pos q]
        refine vk_sm _ (fun o ho => ?_)
        by_cases q : dpx p o = some c
        · rw [if_pos q, if_pos q]
          by_cases q2 : o = z
          · rw [if_pos q2]
            exact vk_mn _ (fun v _ => ih o ho (hd o ho q) v m)
          · rw [if_neg q2]
            exact vk_mn _ (fun v _ => vk_mn _ (fun b _ => ih o ho (hd o ho q) v b))
        · rw [if_neg q, if_neg q]
          intro x hx; cases hx; exact Nat.le_refl _
      · rw [if_neg q]; exact vk_none _
    refine vk_mn _ (fun a _ => ?_)
    refine vk_add (vk_min (hS v a) (vk_mn _ (fun m hm => ?_))) (ho c hc v a b)
    by_cases q : a < m
    · rw [if_pos q]
      exact vk_mono (vk_add (hp c (m - a)) (hJ v m)) (by omega)
    · rw [if_neg q]; exact vk_none _
end
section
variable {D : DD} {m r c : Nat} {st : Nat → Option Nat}
theorem ownC_b (ht : MT D) (hst : ∀ s, st c = some s → s < nS D) {w a b : Nat} : vb (ownC D st (gq D st) c w a b) 99000000009801 := by
  unfold ownC
  by_cases q : nx D st c = some (riv D) ∧ (hgt D (riv D) : Int) - b < lev D
  · rw [cif_t q]; exact vb_none _
  · rw [cif_f q]; exact own_b ht hst
theorem own_key (ht : MT D) {Q : Nat → Int} {F1 F2 F3 : Nat → Int32} {w a b : Nat} : vk (own D st Q F1 F2 F3 (kyD D) c w a b) (1023 * uD D c) := by
  have b4 := ht.qp4
  have b12 := ht.qmc12
  unfold own
  cases e : st c with
  | none => exact vk_none _
  | some s =>
    intro x hx
    by_cases q : w < nP D ∧ lc D ≤ a ∧ a ≤ mc D ∧ lc D ≤ b ∧ b ≤ mc D ∧ fx (F1 c) w ∧ fx (F2 c) a ∧ fx (F3 c) b ∧ (len D s * lf D : Int) ≤ fallv D c s a b ∧ fallv D c s a b ≤ (len D s * mf D : Int) ∧ Q c ≤ carv D (wid D w) ((fallv D c s a b).tdiv (len D s))
    · have hx : cif _ _ _ = some x := hx
      rw [cif_t q] at hx
      cases hx
      show (w * 256 + a * 16 + b) * uD D c ≤ 1023 * uD D c
      exact Nat.mul_le_mul_right _ (by omega)
    · have hx : cif _ _ _ = some x := hx
      rw [cif_f q] at hx; cases hx
theorem ownC_key (ht : MT D) {w a b : Nat} : vk (ownC D st (gq D st) c w a b) (1023 * uD D c) := by
  unfold ownC
  by_cases q : nx D st c = some (riv D) ∧ (hgt D (riv D) : Int) - b < lev D
  · rw [cif_t q]; exact vk_none _
  · rw [cif_f q]; exact own_key ht
theorem pmv_key {Q : Nat → Int} {k : Nat} : vk (pmv D Q c k) 0 := by
  unfold pmv
  by_cases q : told D 2
  · rw [if_pos q]; intro x hx; cases hx; exact Nat.le_refl _
  · rw [if_neg q]; exact vk_none _
theorem uD_b : uD D c ≤ 2 ^ 50 := Nat.pow_le_pow_right (by omega) (by omega)
/-- the table of a tree -/
noncomputable def TC (D : DD) (st : Nat → Option Nat) : Tbl := lw (dpC D st) (nC D)
noncomputable def gK (D : DD) (st : Nat → Option Nat) : Nat → Nat := sub (nx D st) (nC D) (fun x => 1023 * uD D x)
theorem TC_b (ht : MT D) (h : OrP D m r st) (hc : c < nC D) (v b : Nat) : vb (TC D st c v b) 1000000000000000 ∧ vk (TC D st c v b) (gK D st c) := by
  have b7 := ht.qc7
  have b12 := ht.qmc12
  constructor
  · have h1 := lw_b (p := dpC D st) (U1 := 99000000009801) (U2 := 1000000000000) (or_nxl ht h) (fun c hc w a b => ownC_b ht (or_st h hc)) (fun c k hc hk => pmv_b ht ⟨by unfold gq; omega, by
      have := gmx_b (st := st) (cp := plain) ht hc
      unfold gq; omega⟩ (by have hk : k ≤ mc D := hk; omega)) (nC D) c hc (or_hd ht h hc) v b
    have h2 := sub_le (nx := nx D st) (n := nC D) (fun _ => 99000000009801 + 1000000000000) c (B := 100000000009801) (fun _ _ => by omega)
    exact vb_mono h1 (Nat.le_trans h2 (by omega))
  · exact lw_k (p := dpC D st) (or_nxl ht h) (fun c hc w a b => ownC_key ht) (fun c k => pmv_key) (nC D) c hc (or_hd ht h hc) v b
theorem gK_b (ht : MT D) (h : OrP D m r st) (hc : c < nC D) : sm (fun o => if nx D st o = some c then gK D st o else 0) (nC D) + 1024 * uD D c < 9223372036854775808 := by
  have b7 := ht.qc7
  have e := sub_s (or_nxl ht h) (fun x => 1023 * uD D x) hc (or_hd ht h hc)
  have h2 := sub_le (nx := nx D st) (n := nC D) (fun x => 1023 * uD D x) c (B := 1023 * 2 ^ 50) (fun x _ => Nat.mul_le_mul_left _ uD_b)
  have h3 : nC D * (1023 * 2 ^ 50) ≤ 7 * (1023 * 2 ^ 50) := Nat.mul_le_mul_right _ b7
  have h4 := uD_b (D := D) (c := c)
  show sm (fun o => if nx D st o = some c then sub (nx D st) (nC D) (fun x => 1023 * uD D x) o else 0) (nC D) + 1024 * uD D c < _
  omega
theorem vmn_no {f : Nat → VV} : ∀ k, (∀ i, i < k → f i = none) → vmn f k = none := by
  intro k
  induction k with
  | zero => intro _; rfl
  | succ k ih =>
    intro h
    show vmin (vmn f k) (f k) = none
    rw [ih (fun i hi => h i (by omega)), h k (by omega)]; rfl
theorem lw_no {p : DPr} {d c v b : Nat} (h : ∀ a, dpo p c v a b = none) : lw p d c v b = none := by
  cases d with
  | zero => rfl
  | succ d => exact vmn_no _ (fun a _ => by rw [h a, vadd_n])
theorem ownC_z {w a b : Nat} (h : own D st (gq D st) noF noF noF (kyD D) c w a b = none) : ownC D st (gq D st) c w a b = none := by
  unfold ownC
  rw [h]
  by_cases q : nx D st c = some (riv D) ∧ (hgt D (riv D) : Int) - b < lev D
  · rw [cif_t q]
  · rw [cif_f q]
theorem TC_lc {c v b : Nat} (hb : b < lc D) : TC D st c v b = none := lw_no (fun a => ownC_z (own_nb (by omega)))
theorem TC_fix (ht : MT D) (h : OrP D m r st) (hc : c < nC D) (v b : Nat) : layT (dpC D st) (TC D st) c v b = TC D st c v b := lw_st (p := dpC D st) (nC D + 1) (nC D) c (Hd_s (or_hd ht h hc)) (or_hd ht h hc) v b
theorem TC_bd (ht : MT D) (h : OrP D m r st) (hc : c < nC D) : CBd D st (TC D st) (gK D st) c := ⟨fun o ho _ v b => TC_b ht h ho v b, by have := gK_b ht h hc; omega⟩
end
