/-! A TOWN AS IT IS TOLD: streets, pipes, rains, laws -/
section
variable {E E' : DD}
theorem MB1_o (h : MB1 E) {k : Nat} (hk : k = 1 ∨ k = 2 ∨ k = 3 ∨ k = 11) (o : ∀ x, x ≠ k → E' 227 x = E 227 x) {m : Nat} (hm : E' 227 k = nI m) (hb : (k = 1 → m ≤ 10) ∧ (k = 2 ∨ k = 3 → m ≤ 4) ∧ (k = 11 → m ≤ 64)) : MB1 E' := by
  have n1 : nC E' = nC E := by unfold nC; rw [o 0 (by omega)]
  obtain ⟨b1, b2, b3, b4, b5, b6, b7, b8, b9, b10, b11, b12, b13⟩ := h
  have g : ∀ x b, (x ≠ k → Nn (E 227 x) b) → (x = k → m ≤ b) → b ≤ 64 → Nn (E' 227 x) b := fun x b h1 h2 h3 => by
    by_cases z : x = k
    · rw [z, hm]; exact Nn.mk (h2 z) (by omega)
    · rw [o x z]; exact h1 z
  refine ⟨by rw [o 0 (by omega)]; exact b1, g 1 10 (fun _ => b2) (fun z => hb.1 z.symm) (by omega), g 2 4 (fun _ => b3) (fun z => hb.2.1 (Or.inl z.symm)) (by omega), g 3 4 (fun _ => b4) (fun z => hb.2.1 (Or.inr z.symm)) (by omega), ?_, by rw [o 6 (by omega)]; exact b6, by rw [o 7 (by omega)]; exact b7, ?_, by rw [o 8 (by omega)]; exact b9, by rw [o 9 (by omega)]; exact b10, ?_, by rw [o 10 (by omega)]; exact b12, g 11 64 (fun _ => b13) (fun z => hb.2.2 z.symm) (by omega)⟩
  · rw [o 4 (by omega), o 5 (by omega), n1]; exact b5
  · unfold lf mf; rw [o 6 (by omega), o 7 (by omega)]; exact b8
  · unfold lc mc; rw [o 8 (by omega), o 9 (by omega)]; exact b11
theorem nums_o {k : Nat} (hk : k = 1 ∨ k = 2 ∨ k = 3 ∨ k = 11) (o : ∀ x, x ≠ k → E' 227 x = E 227 x) : nC E' = nC E ∧ (k ≠ 1 → nS E' = nS E) ∧ (k ≠ 2 → nP E' = nP E) ∧ (k ≠ 3 → nR E' = nR E) ∧ (k ≠ 11 → nK E' = nK E) := by
  unfold nC nS nP nR nK
  refine ⟨by rw [o 0 (by omega)], fun z => by rw [o 1 (by omega)], fun z => by rw [o 2 (by omega)], fun z => by rw [o 3 (by omega)], fun z => by rw [o 11 (by omega)]⟩
theorem eStr_r {a b l h r : Nat} : (∀ x, 237 ≤ x → eStr E a b l h r x = E x) ∧ (∀ x, 228 ≤ x → x ≤ 231 → eStr E a b l h r x = E x) ∧ (∀ j, j ≠ 1 → eStr E a b l h r 227 j = E 227 j) ∧ eStr E a b l h r 227 1 = nI (nS E + 1) ∧ (∀ x j, j ≠ nS E → 228 ≤ x → eStr E a b l h r x j = E x j) ∧ eStr E a b l h r 232 (nS E) = nI a ∧ eStr E a b l h r 233 (nS E) = nI b ∧ eStr E a b l h r 234 (nS E) = nI l ∧ eStr E a b l h r 235 (nS E) = nI h ∧ eStr E a b l h r 236 (nS E) = nI r := by
  refine ⟨fun x hx => ?_, fun x hx hx2 => ?_, fun j hj => ?_, up_e, fun x j hj hx => ?_, ?_, ?_, ?_, ?_, ?_⟩
  · unfold eStr; rw [up_r (by omega), up_r (by omega), up_r (by omega), up_r (by omega), up_r (by omega), up_r (by omega)]
  · unfold eStr; rw [up_r (by omega), up_r (by omega), up_r (by omega), up_r (by omega), up_r (by omega), up_r (by omega)]
  · unfold eStr; rw [up_j hj, up_a (by omega), up_a (by omega), up_a (by omega), up_a (by omega), up_a (by omega)]
  · unfold eStr; rw [up_a (by omega), up_j hj, up_j hj, up_j hj, up_j hj, up_j hj]
  · unfold eStr; rw [up_a (by omega), up_a (by omega), up_a (by omega), up_a (by omega), up_a (by omega), up_e]
  · unfold eStr; rw [up_a (by omega), up_a (by omega), up_a (by omega), up_a (by omega), up_e]
  · unfold eStr; rw [up_a (by omega), up_a (by omega), up_a (by omega), up_e]
  · unfold eStr; rw [up_a (by omega), up_a (by omega), up_e]
  · unfold eStr; rw [up_a (by omega), up_e]
theorem MT_str (ht : MT E) (h10 : nS E < 10) {a b l h r : Nat} (ha : a < nC E) (hb : b < nC E) (hab : a ≠ b) (hl1 : 1 ≤ l) (hl : l ≤ 99) (hh : h ≤ 3) (hr : r ≤ 99) : MT (eStr E a b l h r) := by
  obtain ⟨r1, r2, r3, r4, r5, r6, r7, r8, r9, r10⟩ := eStr_r (E := E) (a := a) (b := b) (l := l) (h := h) (r := r)
  have o1 := MB1_o ht.1 (k := 1) (by omega) r3 r4 ⟨fun _ => by omega, by omega, by omega⟩
  obtain ⟨n1, -, n2, n3, n4⟩ := nums_o (k := 1) (by omega) r3
  have n2 := n2 (by omega)
  have n3 := n3 (by omega)
  have n4 := n4 (by omega)
  have nS' : nS (eStr E a b l h r) = nS E + 1 := by unfold nS; rw [r4]; exact ix_nI (by omega)
  have h7 := ht.1.1.2
  obtain ⟨-, hc, hs, hp, hr', hk, hl'⟩ := ht
  have h7 : nC E ≤ 7 := h7
  refine ⟨o1, fun c hc' => ?_, fun s hs' => ?_, fun p hp' => ?_, fun q hq' => ?_, fun i hi' => ?_, fun k hk' => ?_⟩
  · exact MBc_cg (hc c (by omega)) (by rw [r2 _ (by omega) (by omega)]) (by rw [r2 _ (by omega) (by omega)]) (by rw [r2 _ (by omega) (by omega)])
  · rw [nS'] at hs'
    by_cases z : s = nS E
    · subst z
      unfold MBs sA sB len
      rw [r6, r7, r8, r9, r10, n1, ix_nI (by omega), ix_nI (by omega), ix_nI (by omega)]
      exact ⟨Nn.mk (by omega) (by omega), Nn.mk (by omega) (by omega), ha, hb, hab, Nn.mk hl (by omega), hl1, Nn.mk hh (by omega), Nn.mk hr (by omega)⟩
    · exact MBs_cg (hs s (by omega)) (by omega) (fun x h1 h2 => r5 _ _ z (by omega))
  · exact MBp_cg (hp p (by omega)) (fun q _ => by rw [r1 237 (by omega)]) (by rw [r1 238 (by omega)])
  · exact MBr_cg (hr' q (by omega)) (by rw [r1 240 (by omega)]) (fun _ _ => by rw [r1 241 (by omega)])
  · rw [r1 244 (by omega), r1 245 (by omega)]; exact hk i (by omega)
  · exact LawOK_cg (hl' k hk') (by rw [r1 242 (by omega)]) (by rw [r1 243 (by omega)]) (by omega) (fun j _ => by rw [r1 244 (by omega), r1 245 (by omega)]; exact ⟨rfl, rfl⟩)
theorem ePip_r {w c : Nat} : (∀ x, 239 ≤ x → ePip E w c x = E x) ∧ (∀ x, 228 ≤ x → x ≤ 236 → ePip E w c x = E x) ∧ (∀ j, j ≠ 2 → ePip E w c 227 j = E 227 j) ∧ ePip E w c 227 2 = nI (nP E + 1) ∧ (∀ x j, j ≠ nP E → 228 ≤ x → ePip E w c x j = E x j) ∧ ePip E w c 237 (nP E) = nI w ∧ ePip E w c 238 (nP E) = nI c := by
  refine ⟨fun x hx => ?_, fun x hx hx2 => ?_, fun j hj => ?_, up_e, fun x j hj hx => ?_, ?_, ?_⟩
  · unfold ePip; rw [up_r (by omega), up_r (by omega), up_r (by omega)]
  · unfold ePip; rw [up_r (by omega), up_r (by omega), up_r (by omega)]
  · unfold ePip; rw [up_j hj, up_a (by omega), up_a (by omega)]
  · unfold ePip; rw [up_a (by omega), up_j hj, up_j hj]
  · unfold ePip; rw [up_a (by omega), up_a (by omega), up_e]
  · unfold ePip; rw [up_a (by omega), up_e]
/-- the least width of a further pipe -/
def lpw (E : DD) : Nat := if nP E = 0 then 1 else wid E (nP E - 1) + 1
theorem MT_pip (ht : MT E) (h4 : nP E < 4) {w c : Nat} (hw : lpw E ≤ w) (hw9 : w ≤ 99) (hc9 : c ≤ 99) : MT (ePip E w c) := by
  obtain ⟨r1, r2, r3, r4, r5, r6, r7⟩ := ePip_r (E := E) (w := w) (c := c)
  have o1 := MB1_o ht.1 (k := 2) (by omega) r3 r4 ⟨by omega, fun _ => by omega, by omega⟩
  obtain ⟨n1, n2, -, n3, n4⟩ := nums_o (k := 2) (by omega) r3
  have n2 := n2 (by omega)
  have n3 := n3 (by omega)
  have n4 := n4 (by omega)
  have nS' : nP (ePip E w c) = nP E + 1 := by unfold nP; rw [r4]; exact ix_nI (by omega)
  obtain ⟨-, hc, hs, hp, hr', hk, hl'⟩ := ht
  refine ⟨o1, fun c hc' => ?_, fun s hs' => ?_, fun p hp' => ?_, fun q hq' => ?_, fun i hi' => ?_, fun k hk' => ?_⟩
  · exact MBc_cg (hc c (by omega)) (by rw [r2 _ (by omega) (by omega)]) (by rw [r2 _ (by omega) (by omega)]) (by rw [r2 _ (by omega) (by omega)])
  · exact MBs_cg (hs s (by omega)) (by omega) (fun x h1 h2 => by rw [r2 x (by omega) (by omega)])
  · rw [nS'] at hp'
    by_cases z : p = nP E
    · subst z
      have e : wid (ePip E w c) (nP E) = w := by unfold wid; rw [r6]; exact ix_nI (by omega)
      unfold MBp
      rw [r6, r7, e]
      have hp1 : 1 ≤ w := by unfold lpw at hw; split at hw <;> omega
      refine ⟨Nn.mk hw9 (by omega), Nn.mk hc9 (by omega), hp1, fun q hq => ?_⟩
      have e2 : wid (ePip E w c) q = wid E q := by unfold wid; rw [r5 _ _ (by omega) (by omega)]
      rw [e2]
      unfold lpw at hw
      rw [if_neg (by omega)] at hw
      by_cases zq : q = nP E - 1
      · rw [zq]; omega
      · have := (hp (nP E - 1) (by omega)).2.2.2 q (by omega); omega
    · exact MBp_cg (hp p (by omega)) (fun q _ => r5 _ _ (by omega) (by omega)) (r5 _ _ z (by omega))
  · exact MBr_cg (hr' q (by omega)) (by rw [r1 240 (by omega)]) (fun _ _ => by rw [r1 241 (by omega)])
  · rw [r1 244 (by omega), r1 245 (by omega)]; exact hk i (by omega)
  · exact LawOK_cg (hl' k hk') (by rw [r1 242 (by omega)]) (by rw [r1 243 (by omega)]) (by omega) (fun j _ => by rw [r1 244 (by omega), r1 245 (by omega)]; exact ⟨rfl, rfl⟩)
/-! rains -/
def eRaw (E : DD) (q : Nat) : Nat → List Nat → DD
  | _, [] => E
  | h, v :: vs => up (eRaw E q (h + 1) vs) 241 (6 * q + h) (nI v)
theorem eRaw_a {q : Nat} {x : Nat} (hx : x ≠ 241) : ∀ (vs : List Nat) h, eRaw E q h vs x = E x := by
  intro vs
  induction vs with
  | nil => intro h; rfl
  | cons v vs ih => intro h; show up _ 241 _ _ x = _; rw [up_r hx]; exact ih (h + 1)
theorem eRaw_o {q j : Nat} : ∀ (vs : List Nat) h, (j < 6 * q + h ∨ 6 * q + h + vs.length ≤ j) → eRaw E q h vs 241 j = E 241 j := by
  intro vs
  induction vs with
  | nil => intro h _; rfl
  | cons v vs ih =>
    intro h hj
    rw [List.length_cons] at hj
    show up _ 241 _ _ 241 j = _
    rw [up_j (by omega)]
    exact ih (h + 1) (by omega)
theorem eRaw_v {q : Nat} : ∀ (vs : List Nat) h i, i < vs.length → eRaw E q h vs 241 (6 * q + (h + i)) = nI (vs.getD i 0) := by
  intro vs
  induction vs with
  | nil => intro h i hi; exact absurd hi (by simp)
  | cons v vs ih =>
    intro h i hi
    rw [List.length_cons] at hi
    show up _ 241 _ _ 241 _ = _
    cases i with
    | zero => rw [show 6 * q + (h + 0) = 6 * q + h by omega, up_e]; rfl
    | succ i =>
      rw [up_j (by omega), show 6 * q + (h + (i + 1)) = 6 * q + (h + 1 + i) by omega, ih (h + 1) i (by omega)]
      rfl
def eRai (E : DD) (n : Nat) (vs : List Nat) : DD := up (eRaw (up (up E 239 (nR E) (nI n)) 240 (nR E) (nI vs.length)) (nR E) 0 vs) 227 3 (nI (nR E + 1))
theorem eRai_r {n : Nat} {vs : List Nat} : (∀ x, 242 ≤ x → eRai E n vs x = E x) ∧ (∀ x, 228 ≤ x → x ≤ 238 → eRai E n vs x = E x) ∧ (∀ j, j ≠ 3 → eRai E n vs 227 j = E 227 j) ∧ eRai E n vs 227 3 = nI (nR E + 1) ∧ (∀ x j, j ≠ nR E → 239 ≤ x → x ≤ 240 → eRai E n vs x j = E x j) ∧ eRai E n vs 239 (nR E) = nI n ∧ eRai E n vs 240 (nR E) = nI vs.length ∧ (∀ i, i < vs.length → eRai E n vs 241 (6 * nR E + i) = nI (vs.getD i 0)) ∧ ∀ j, (j < 6 * nR E ∨ 6 * nR E + vs.length ≤ j) → eRai E n vs 241 j = E 241 j := by
  refine ⟨fun x hx => ?_, fun x hx hx2 => ?_, fun j hj => ?_, up_e, fun x j hj hx hx2 => ?_, ?_, ?_, fun i hi => ?_, fun j hj => ?_⟩
  · unfold eRai; rw [up_r (by omega), eRaw_a (by omega), up_r (by omega), up_r (by omega)]
  · unfold eRai; rw [up_r (by omega), eRaw_a (by omega), up_r (by omega), up_r (by omega)]
  · unfold eRai; rw [up_j hj, eRaw_a (by omega), up_a (by omega), up_a (by omega)]
  · unfold eRai; rw [up_a (by omega), eRaw_a (by omega), up_j hj, up_j hj]
  · unfold eRai; rw [up_a (by omega), eRaw_a (by omega), up_a (by omega), up_e]
  · unfold eRai; rw [up_a (by omega), eRaw_a (by omega), up_e]
  · unfold eRai; rw [up_a (by omega), show 6 * nR E + i = 6 * nR E + (0 + i) by omega, eRaw_v _ _ _ hi]
  · unfold eRai; rw [up_a (by omega), eRaw_o _ _ (by omega), up_a (by omega), up_a (by omega)]
theorem MT_rai (ht : MT E) (h4 : nR E < 4) {n : Nat} {vs : List Nat} (hl : vs.length ≤ 6) (hv : ∀ i, i < vs.length → vs.getD i 0 ≤ 99) : MT (eRai E n vs) := by
  obtain ⟨r1, r2, r3, r4, r5, r6, r7, r8, r9⟩ := eRai_r (E := E) (n := n) (vs := vs)
  have o1 := MB1_o ht.1 (k := 3) (by omega) r3 r4 ⟨by omega, fun _ => by omega, by omega⟩
  obtain ⟨n1, n2, n3, -, n4⟩ := nums_o (k := 3) (by omega) r3
  have n2 := n2 (by omega)
  have n3 := n3 (by omega)
  have n4 := n4 (by omega)
  have nS' : nR (eRai E n vs) = nR E + 1 := by unfold nR; rw [r4]; exact ix_nI (by omega)
  obtain ⟨-, hc, hs, hp, hr', hk, hl'⟩ := ht
  refine ⟨o1, fun c hc' => ?_, fun s hs' => ?_, fun p hp' => ?_, fun q hq' => ?_, fun i hi' => ?_, fun k hk' => ?_⟩
  · exact MBc_cg (hc c (by omega)) (by rw [r2 _ (by omega) (by omega)]) (by rw [r2 _ (by omega) (by omega)]) (by rw [r2 _ (by omega) (by omega)])
  · exact MBs_cg (hs s (by omega)) (by omega) (fun x h1 h2 => by rw [r2 x (by omega) (by omega)])
  · exact MBp_cg (hp p (by omega)) (fun q _ => by rw [r2 237 (by omega) (by omega)]) (by rw [r2 238 (by omega) (by omega)])
  · rw [nS'] at hq'
    by_cases z : q = nR E
    · subst z
      have e : rnh (eRai E n vs) (nR E) = vs.length := by unfold rnh; rw [r7]; exact ix_nI (by omega)
      unfold MBr
      rw [r7, e]
      exact ⟨Nn.mk hl (by omega), fun i hi => by rw [r8 i hi]; exact Nn.mk (hv i hi) (by omega)⟩
    · exact MBr_cg (hr' q (by omega)) (r5 _ _ z (by omega) (by omega)) (fun x hx => r9 _ (by omega))
  · rw [r1 244 (by omega), r1 245 (by omega)]; exact hk i (by omega)
  · exact LawOK_cg (hl' k hk') (by rw [r1 242 (by omega)]) (by rw [r1 243 (by omega)]) (by omega) (fun j _ => by rw [r1 244 (by omega), r1 245 (by omega)]; exact ⟨rfl, rfl⟩)
/-! laws: E's knots are o; a law of k from o on -/
def KnE (E : DD) (o : List (Nat × Nat)) : Prop := o.length ≤ 64 ∧ E 227 11 = nI o.length ∧ ∀ j, j < o.length → E 244 j = nI (o.getD j (0, 0)).1 ∧ E 245 j = nI (o.getD j (0, 0)).2
def eLaw (E : DD) (k : Nat) (o o' : List (Nat × Nat)) : DD := fun a j => if a = 227 ∧ j = 11 then nI o'.length else if a = 242 ∧ j = k then nI o.length else if a = 243 ∧ j = k then nI o'.length else if a = 244 ∧ j < o'.length then nI (o'.getD j (0, 0)).1 else if a = 245 ∧ j < o'.length then nI (o'.getD j (0, 0)).2 else E a j
theorem okK_kn {x : Nat × Nat} (h : okK x) : knOK (nI x.1) (nI x.2) := by
  unfold okK at h
  rcases h with ⟨h1, h2⟩ | ⟨h1, h2⟩ | ⟨h1, h2⟩
  · exact Or.inl ⟨by rw [h1], Nn.mk h2 (by omega)⟩
  · exact Or.inr (Or.inl ⟨by rw [h1], Nn.mk h2 (by omega)⟩)
  · refine Or.inr (Or.inr ⟨by rw [h1], ?_⟩)
    unfold isSg
    rcases h2 with e | e | e | e | e | e | e | e | e | e | e | e | e <;> simp [e]
theorem KnE.nk {o : List (Nat × Nat)} (h : KnE E o) : nK E = o.length := by
  have := h.1
  unfold nK; rw [h.2.1]; exact ix_nI (by omega)
theorem stps_L {F : DD} {o : List (Nat × Nat)} : ∀ (g : List (Nat × Nat)) i h, (∀ j, j < g.length → F 244 (i + j) = nI (g.getD j (0, 0)).1 ∧ F 245 (i + j) = nI (g.getD j (0, 0)).2) → (∀ x, x ∈ g → okK x) → stps F i g.length h = stL g h := by
  intro g
  induction g with
  | nil => intro i h _ _; rfl
  | cons x g ih =>
    intro i h e hk
    show (stp (F 244 i) (F 245 i) h).bind (stps F (i + 1) g.length) = _
    have e0 := e 0 (by simp)
    have hx : okK x := hk x (by simp)
    rw [show i = i + 0 from rfl, e0.1, e0.2]
    show (stp (nI x.1) (nI x.2) h).bind (stps F (i + 0 + 1) g.length) = _
    have e3 : stp (nI x.1) (nI x.2) h = (if x.1 = 2 then (if x.2 = 260 then (if 1 ≤ h then some h else none) else (if 2 ≤ h then some (h - 1) else none)) else some (h + 1)) := by
      unfold stp
      have q1 : x.1 ≤ 2 := by unfold okK at hx; omega
      have q2 : x.2 ≤ 9999 := by unfold okK at hx; omega
      have i1 : (nI x.1 = nI 2) = (x.1 = 2) := eq_nI (by omega) (by omega)
      have i2 : (nI x.2 = nI 260) = (x.2 = 260) := eq_nI (by omega) (by omega)
      simp only [i1, i2]
    rw [e3]
    show _ = (if x.1 = 2 then _ else _ : Option Nat).bind (stL g)
    congr 1
    refine funext fun y => ih (i + 0 + 1) y (fun j hj => ?_) (fun z hz => hk z (by simp [hz]))
    have := e (j + 1) (by simp; omega)
    rw [show i + (j + 1) = i + 0 + 1 + j by omega] at this
    exact this
theorem MT_law (ht : MT E) {k : Nat} (hk3 : k < 3) {o g : List (Nat × Nat)} (hK : KnE E o) (hL : (o ++ g).length ≤ 64) (hg : seg1 g) : MT (eLaw E k o (o ++ g)) ∧ KnE (eLaw E k o (o ++ g)) (o ++ g) := by
  have eR : ∀ x, 228 ≤ x → x ≤ 241 → eLaw E k o (o ++ g) x = E x := fun x h1 h2 => funext fun j => by
    unfold eLaw; rw [if_neg (by omega), if_neg (by omega), if_neg (by omega), if_neg (by omega), if_neg (by omega)]
  have e7 : ∀ j, j ≠ 11 → eLaw E k o (o ++ g) 227 j = E 227 j := fun j h => by
    unfold eLaw; rw [if_neg (by omega), if_neg (by omega), if_neg (by omega), if_neg (by omega), if_neg (by omega)]
  have e11 : eLaw E k o (o ++ g) 227 11 = nI (o ++ g).length := if_pos ⟨rfl, rfl⟩
  have e4 : ∀ j, j < (o ++ g).length → eLaw E k o (o ++ g) 244 j = nI ((o ++ g).getD j (0, 0)).1 := fun j h => by
    unfold eLaw; rw [if_neg (by omega), if_neg (by omega), if_neg (by omega), if_pos ⟨rfl, h⟩]
  have e5 : ∀ j, j < (o ++ g).length → eLaw E k o (o ++ g) 245 j = nI ((o ++ g).getD j (0, 0)).2 := fun j h => by
    unfold eLaw; rw [if_neg (by omega), if_neg (by omega), if_neg (by omega), if_neg (by omega), if_pos ⟨rfl, h⟩]
  have e2 : ∀ j, eLaw E k o (o ++ g) 242 j = if j = k then nI o.length else E 242 j := fun j => by
    unfold eLaw
    rw [if_neg (by omega)]
    by_cases z : j = k
    · rw [if_pos ⟨rfl, z⟩, if_pos z]
    · rw [if_neg (by omega), if_neg (by omega), if_neg (by omega), if_neg (by omega), if_neg z]
  have e3 : ∀ j, eLaw E k o (o ++ g) 243 j = if j = k then nI (o ++ g).length else E 243 j := fun j => by
    unfold eLaw
    rw [if_neg (by omega), if_neg (by omega)]
    by_cases z : j = k
    · rw [if_pos ⟨rfl, z⟩, if_pos z]
    · rw [if_neg (by omega), if_neg (by omega), if_neg (by omega), if_neg z]
  have hKn : KnE (eLaw E k o (o ++ g)) (o ++ g) := ⟨hL, e11, fun j hj => ⟨e4 j hj, e5 j hj⟩⟩
  refine ⟨?_, hKn⟩
  have hlen : (o ++ g).length = o.length + g.length := List.length_append
  have hnk := hK.nk
  have hnk' := hKn.nk
  have hol : ∀ j, j < o.length → (o ++ g).getD j (0, 0) = o.getD j (0, 0) := fun j hj => by
    rw [List.getD_eq_getElem?_getD, List.getD_eq_getElem?_getD, List.getElem?_append_left hj]
  have hor : ∀ j, j < g.length → (o ++ g).getD (o.length + j) (0, 0) = g.getD j (0, 0) := fun j hj => by
    rw [List.getD_eq_getElem?_getD, List.getD_eq_getElem?_getD, List.getElem?_append_right (by omega), show o.length + j - o.length = j by omega]
  have o1 := MB1_o ht.1 (k := 11) (by omega) e7 e11 ⟨by omega, by omega, fun _ => hL⟩
  obtain ⟨n1, n2, n3, n4, -⟩ := nums_o (k := 11) (by omega) e7
  have n2 := n2 (by omega)
  have n3 := n3 (by omega)
  have n4 := n4 (by omega)
  obtain ⟨-, hc, hs, hp, hr', hk, hl'⟩ := ht
  refine ⟨o1, fun c hc' => ?_, fun s hs' => ?_, fun p hp' => ?_, fun q hq' => ?_, fun i hi' => ?_, fun k' hk' => ?_⟩
  · exact MBc_cg (hc c (by omega)) (by rw [eR _ (by omega) (by omega)]) (by rw [eR _ (by omega) (by omega)]) (by rw [eR _ (by omega) (by omega)])
  · exact MBs_cg (hs s (by omega)) (by omega) (fun x h1 h2 => by rw [eR x (by omega) (by omega)])
  · exact MBp_cg (hp p (by omega)) (fun q _ => by rw [eR 237 (by omega) (by omega)]) (by rw [eR 238 (by omega) (by omega)])
  · exact MBr_cg (hr' q (by omega)) (by rw [eR 240 (by omega) (by omega)]) (fun _ _ => by rw [eR 241 (by omega) (by omega)])
  · rw [hnk'] at hi'
    rw [e4 i hi', e5 i hi']
    by_cases z : i < o.length
    · rw [hol i z, ← (hK.2.2 i z).1, ← (hK.2.2 i z).2]
      exact hk i (by omega)
    · have hx : okK ((o ++ g).getD i (0, 0)) := by
        rw [show i = o.length + (i - o.length) by omega, hor _ (by omega)]
        have hi2 : i - o.length < g.length := by omega
        rw [List.getD_eq_getElem?_getD, List.getElem?_eq_getElem hi2]
        exact hg.2 _ (List.getElem_mem hi2)
      exact okK_kn hx
  · by_cases z : k' = k
    · unfold LawOK
      rw [e2, e3, if_pos z, if_pos z, ix_nI (by omega), ix_nI (by omega), hnk']
      refine ⟨Nn.mk (by omega) (by omega), Nn.mk hL (by omega), by omega, by omega, fun _ => ?_⟩
      rw [show (o ++ g).length - o.length = g.length by omega, stps_L (o := o) g _ _ (fun j hj => ?_) hg.2]
      · exact hg.1 0
      · rw [e4 _ (by omega), e5 _ (by omega), hor j hj]; exact ⟨rfl, rfl⟩
    · refine LawOK_cg (hl' k' hk') (by rw [e2, if_neg z]) (by rw [e3, if_neg z]) (by omega) (fun j hj => ?_)
      rw [e4 j (by omega), e5 j (by omega), hol j (by omega), (hK.2.2 j (by omega)).1, (hK.2.2 j (by omega)).2]
      exact ⟨rfl, rfl⟩
end
