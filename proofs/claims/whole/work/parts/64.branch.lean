/-! BRANCHES: each corner lies in one -/
section
variable {nx : Nat → Option Nat} {n : Nat}
theorem br_no (hn : ∀ c k, c < n → nx c = some k → k < n) {d c o : Nat} (hc : c < n) (hd : Hd nx n d c) (ho : nx o = some c) : ¬ Rt nx o c := by
  rintro ⟨j, hj⟩
  obtain ⟨j, h1, h2⟩ := itn_short hn hc j hj
  refine Rg_nHd hn hc ⟨j, h1, ?_⟩ hd
  rw [itn_s, h2]
  exact ho
theorem br_one (hn : ∀ c k, c < n → nx c = some k → k < n) {d c o o' x : Nat} (hc : c < n) (hd : Hd nx n d c) (ho : nx o = some c) (ho' : nx o' = some c) (h1 : Rt nx o x) (h2 : Rt nx o' x) : o = o' := by
  have key : ∀ o o' j j', nx o = some c → nx o' = some c → itn nx j x = some o → itn nx j' x = some o' → j < j' → False := by
    intro o o' j j' e1 e2 e3 e4 hl
    refine br_no hn hc hd e2 ⟨j' - j - 1, ?_⟩
    rw [show j' = j + (1 + (j' - j - 1)) by omega, itn_add, e3] at e4
    have e4 : itn nx (1 + (j' - j - 1)) o = some o' := e4
    rw [itn_add, itn_1, e1] at e4
    exact e4
  obtain ⟨j, hj⟩ := h1
  obtain ⟨j', hj'⟩ := h2
  rcases Nat.lt_trichotomy j j' with q | q | q
  · exact (key o o' j j' ho ho' hj hj' q).elim
  · rw [q, hj'] at hj; exact (Option.some.inj hj).symm
  · exact (key o' o j' j ho' ho hj' hj q).elim
theorem br_in (hn : ∀ c k, c < n → nx c = some k → k < n) {c x : Nat} (hx : x < n) : Rt nx c x ↔ x = c ∨ ∃ o, o < n ∧ nx o = some c ∧ Rt nx o x := by
  constructor
  · rintro ⟨j, hj⟩
    cases j with
    | zero => exact Or.inl (Option.some.inj hj)
    | succ j =>
      rw [itn_s] at hj
      cases e : itn nx j x with
      | none => rw [e] at hj; cases hj
      | some o => rw [e] at hj; exact Or.inr ⟨o, itn_lt hn hx e, hj, j, e⟩
  · rintro (rfl | ⟨o, -, ho, j, hj⟩)
    · exact ⟨0, rfl⟩
    · exact ⟨j + 1, by rw [itn_s, hj]; exact ho⟩
theorem sm_swap (f : Nat → Nat → Nat) (k : Nat) : ∀ m, sm (fun o => sm (fun x => f o x) k) m = sm (fun x => sm (fun o => f o x) m) k := by
  intro m
  induction m with
  | zero => exact (sm_0 (fun _ _ => rfl)).symm
  | succ m ih =>
    show sm (fun o => sm (fun x => f o x) k) m + sm (fun x => f m x) k = sm (fun x => sm (fun o => f o x) m + f m x) k
    rw [ih, sm_add]
/-- a weight of a branch -/
noncomputable def sub (nx : Nat → Option Nat) (n : Nat) (g : Nat → Nat) (c : Nat) : Nat := sm (fun x => cif (Rt nx c x) (g x) 0) n
theorem sub_s (hn : ∀ c k, c < n → nx c = some k → k < n) (g : Nat → Nat) {d c : Nat} (hc : c < n) (hd : Hd nx n d c) : sub nx n g c = sm (fun o => if nx o = some c then sub nx n g o else 0) n + g c := by
  have h1 : sm (fun o => if nx o = some c then sub nx n g o else 0) n = sm (fun x => sm (fun o => if nx o = some c then cif (Rt nx o x) (g x) 0 else 0) n) n := by
    rw [← sm_swap]
    refine sm_eq (fun o ho => ?_)
    by_cases q : nx o = some c
    · rw [if_pos q]
      exact sm_eq (fun x hx => by rw [if_pos q])
    · rw [if_neg q]
      exact (sm_0 (fun x hx => by rw [if_neg q])).symm
  rw [h1]
  refine sm_one hc (fun x hx hxc => ?_) ?_
  · by_cases q : Rt nx c x
    · rw [cif_t q]
      obtain ⟨o, ho, e1, e2⟩ := ((br_in hn hx).mp q).resolve_left hxc
      have := sm_one (f := fun o => if nx o = some c then cif (Rt nx o x) (g x) 0 else 0) (g := fun _ => 0) (v := g x) ho (fun o' ho' hne => ?_) (by
        show (if nx o = some c then cif (Rt nx o x) (g x) 0 else 0) = 0 + g x
        rw [if_pos e1, cif_t e2]; omega)
      · rw [this, sm_0 (fun _ _ => rfl)]; omega
      · show (if nx o' = some c then cif (Rt nx o' x) (g x) 0 else 0) = 0
        by_cases q2 : nx o' = some c
        · rw [if_pos q2, cif_f (fun z => hne (br_one hn hc hd q2 e1 z e2))]
        · rw [if_neg q2]
    · rw [cif_f q]
      refine (sm_0 (fun o ho => ?_)).symm
      by_cases q2 : nx o = some c
      · rw [if_pos q2, cif_f (fun z => q ((br_in hn hx).mpr (Or.inr ⟨o, ho, q2, z⟩)))]
      · rw [if_neg q2]
  · show cif (Rt nx c c) (g c) 0 = sm (fun o => if nx o = some c then cif (Rt nx o c) (g c) 0 else 0) n + g c
    rw [cif_t ⟨0, rfl⟩, sm_0 (fun o ho => ?_)]
    · omega
    · by_cases q2 : nx o = some c
      · rw [if_pos q2, cif_f (br_no hn hc hd q2)]
      · rw [if_neg q2]
theorem sub_le (g : Nat → Nat) (c : Nat) {B : Nat} (h : ∀ x, x < n → g x ≤ B) : sub nx n g c ≤ n * B := by
  refine sm_le (fun x hx => ?_)
  by_cases q : Rt nx c x
  · rw [cif_t q]; exact h x hx
  · rw [cif_f q]; omega
end
section
variable {p : DPr}
theorem lw_b (hn : ∀ c k, c < dpn p → dpx p c = some k → k < dpn p) {U1 U2 : Nat} (ho : ∀ c, c < dpn p → ∀ w a b, vb (dpo p c w a b) U1) (hp : ∀ c k, c < dpn p → k ≤ dph p → vb (dpp p c k) U2) : ∀ d c, c < dpn p → Hd (dpx p) (dpn p) d c → ∀ v b, vb (lw p d c v b) (sub (dpx p) (dpn p) (fun _ => U1 + U2) c) := by
  intro d
  induction d with
  | zero => intro c _ h; exact h.elim
  | succ d ih =>
    intro c hc hd v b
    rw [sub_s hn _ hc hd]
    have hS : ∀ w m, vb (chsT p (lw p d) c w m) (sm (fun o => if dpx p o = some c then sub (dpx p) (dpn p) (fun _ => U1 + U2) o else 0) (dpn p)) := by
      intro w m
      refine vb_sm _ (fun o ho => ?_)
      by_cases q : dpx p o = some c
      · rw [if_pos q, if_pos q]
        exact vb_mn _ (fun v _ => vb_mn _ (fun b _ => ih o ho (hd o ho q) v b))
      · rw [if_neg q, if_neg q]
        intro x hx; cases hx; exact Nat.le_refl _
    have hJ : ∀ w m, vb (chjT p (lw p d) c w m) (sm (fun o => if dpx p o = some c then sub (dpx p) (dpn p) (fun _ => U1 + U2) o else 0) (dpn p)) := by
      intro w m
      refine vb_mn _ (fun z hz => ?_)
      by_cases q : dpx p z = some c
      · rw [if_pos q]
        refine vb_sm _ (fun o ho => ?_)
        by_cases q : dpx p o = some c
        · rw [if_pos q, if_pos q]
          by_cases q2 : o = z
          · rw [if_pos q2]
            exact vb_mn _ (fun v _ => ih o ho (hd o ho q) v m)
          · rw [if_neg q2]
            exact vb_mn _ (fun v _ => vb_mn _ (fun b _ => ih o ho (hd o ho q) v b))
        · rw [if_neg q, if_neg q]
          intro x hx; cases hx; exact Nat.le_refl _
      · rw [if_neg q]; exact vb_none _
    refine vb_mn _ (fun a _ => ?_)
    refine vb_mono (vb_add (A := sm (fun o => if dpx p o = some c then sub (dpx p) (dpn p) (fun _ => U1 + U2) o else 0) (dpn p) + U2) (vb_min (vb_mono (hS v a) (by omega)) (vb_mn _ (fun m hm => ?_))) (ho c hc v a b)) (by omega)
    by_cases q : a < m
    · rw [if_pos q]
      exact vb_mono (vb_add (hp c (m - a) hc (by omega)) (hJ v m)) (by omega)
    · rw [if_neg q]; exact vb_none _
end
/-! as longs -/
def lv (o : VV) : Int := match o with
  | none => 4000000000000000000
  | some x => (x.1 : Int)
theorem lv_b {o : VV} {B : Nat} (h : vb o B) (hB : B < 4000000000000000000) : 0 ≤ lv o ∧ lv o ≤ 4000000000000000000 := by
  cases o with
  | none => exact ⟨by decide, by decide⟩
  | some x =>
    have := h x rfl
    show 0 ≤ (x.1 : Int) ∧ (x.1 : Int) ≤ _
    omega
theorem lv_nev {o : VV} {B : Nat} (h : vb o B) (hB : B < 4000000000000000000) : (4000000000000000000 ≤ lv o) ↔ o = none := by
  cases o with
  | none => exact ⟨fun _ => rfl, fun _ => Int.le_refl _⟩
  | some x =>
    have := h x rfl
    have e : lv (some x) = (x.1 : Int) := rfl
    rw [e]
    exact ⟨fun z => by omega, fun z => by cases z⟩
theorem lv_min {x y : VV} {B : Nat} (h1 : vb x B) (h2 : vb y B) (hB : B < 4000000000000000000) : lv (vmin x y) = min (lv x) (lv y) := by
  cases x with
  | none =>
    have := (lv_b h2 hB).2
    show lv y = min 4000000000000000000 (lv y)
    omega
  | some a =>
    cases y with
    | none =>
      have := (lv_b h1 hB).2
      show lv (some a) = min (lv (some a)) 4000000000000000000
      omega
    | some b =>
      show lv (if vlt b a then some b else some a) = min (a.1 : Int) (b.1 : Int)
      by_cases q : vlt b a
      · rw [if_pos q]
        show (b.1 : Int) = _
        unfold vlt at q; omega
      · rw [if_neg q]
        show (a.1 : Int) = _
        unfold vlt at q; omega
section
variable {σ : ah_H} {D : DD}
theorem m_plus {x y : VV} {A B : Nat} (h1 : vb x A) (h2 : vb y B) (hB : A + B < 4000000000000000000) : f_X12_plus (iL (lv x)) (iL (lv y)) σ = some (iL (lv (vadd x y)), σ) := by
  have b1 := lv_b h1 (by omega)
  have b2 := lv_b h2 (by omega)
  unfold f_X12_plus f_X12_plus_0
  simp only [to_bq, l_0, l_1, l_2, l_3, l_4, l_5, l_6, l_7, l_8, l_9, l_10, l_11, l_12, l_13, l_14, l_15, l_16, l_17, l_18, l_19, l_20, l_21, l_22, l_23, l_24, l_25, l_26, l_27, l_28, l_29, l_30, l_31, l_32, l_40, l_41, l_42, l_43, l_44, l_45, l_46, l_47, l_48, l_49, l_50, l_51, l_52, l_53, l_54, l_55, l_56, l_57, l_58, l_59, l_60, l_61, l_62, l_63, l_64, l_72, l_97, l_99, l_100, l_104, l_120, l_122, l_128, l_140, l_255, l_256, l_257, l_258, l_260, l_261, l_262, l_364, l_680, l_700, l_701, l_840, l_999, l_1023, l_1024, l_9999, l_10000, l_1000000, lm]
  simp (disch := first | (with_reducible assumption) | omega | exact ⟨by omega, by omega⟩ | ((with_reducible first | apply Wf.wI | apply Wf.wL | apply Wf.fL | apply Wf.fI | apply Wf.fr); (repeat (with_reducible first | assumption | apply Wf.wI | apply Wf.wL | apply Wf.fL | apply Wf.fI | apply Wf.fr)))) only [q_0, q_1, q_100, q_9999, q_1000000000000, q_100000000000000000, q_4000000000000000000, q_4611686018427387903, q_9223372036854775807, iadd, isub, imul, ineg, cmp_e, cmp_le, cmp_lt, cmp_ge, cmp_gt, maxl_i, minl_i, absl_i, toL_n, ldiv_i]
  cases x with
  | none =>
    rw [if_pos (show (4000000000000000000 : Int) ≤ lv none from Int.le_refl _)]; rfl
  | some a =>
    rw [if_neg (fun z => by have := (lv_nev h1 (by omega)).mp z; cases this)]
    cases y with
    | none =>
      rw [if_neg (show ¬ lv none < (4000000000000000000 : Int) from Int.lt_irrefl _)]; rfl
    | some b =>
      have hb := h2 b rfl
      have eb : lv (some b) = (b.1 : Int) := rfl
      rw [if_pos (by rw [eb]; omega)]
      show some (iL ((a.1 : Int) + (b.1 : Int)), σ) = some (iL (((a.1 + b.1 : Nat)) : Int), σ)
      rw [Int.natCast_add]
theorem minl_v {x y : VV} {B : Nat} (h1 : vb x B) (h2 : vb y B) (hB : B < 4000000000000000000) : op_minl (iL (lv x)) (iL (lv y)) = iL (lv (vmin x y)) := by
  have b1 := lv_b h1 hB
  have b2 := lv_b h2 hB
  rw [lv_min h1 h2 hB, minl_i ⟨by omega, by omega⟩ ⟨by omega, by omega⟩]
end
