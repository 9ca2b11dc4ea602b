/-! A TOWN AS IT IS TOLD: what a line makes of it -/
def up (E : DD) (a j : Nat) (v : Int32) : DD := fun a' j' => if a' = a ∧ j' = j then v else E a' j'
section
variable {E E' : DD} {a j : Nat} {v : Int32}
theorem up_e : up E a j v a j = v := if_pos ⟨rfl, rfl⟩
theorem up_a {a' j' : Nat} (h : a' ≠ a) : up E a j v a' j' = E a' j' := if_neg (fun z => h z.1)
theorem up_r {a' : Nat} (h : a' ≠ a) : up E a j v a' = E a' := funext fun _ => up_a h
theorem up_j {a' j' : Nat} (h : j' ≠ j) : up E a j v a' j' = E a' j' := if_neg (fun z => h z.2)
theorem MBc_cg {c : Nat} (h : MBc E c) (e1 : E' 229 c = E 229 c) (e2 : E' 230 c = E 230 c) (e3 : E' 231 c = E 231 c) : MBc E' c := by
  unfold MBc at *; rw [e1, e2, e3]; exact h
theorem MBs_cg {s : Nat} (h : MBs E s) (hn : nC E ≤ nC E') (e : ∀ a, 232 ≤ a → a ≤ 236 → E' a s = E a s) : MBs E' s := by
  obtain ⟨h1, h2, h3, h4, h5, h6, h7, h8, h9⟩ := h
  unfold MBs sA sB len at *
  rw [e 232 (by omega) (by omega), e 233 (by omega) (by omega), e 234 (by omega) (by omega), e 235 (by omega) (by omega), e 236 (by omega) (by omega)]
  exact ⟨h1, h2, by omega, by omega, h5, h6, h7, h8, h9⟩
theorem MBp_cg {p : Nat} (h : MBp E p) (e : ∀ q, q ≤ p → E' 237 q = E 237 q) (e2 : E' 238 p = E 238 p) : MBp E' p := by
  obtain ⟨h1, h2, h3, h4⟩ := h
  unfold MBp wid at *
  rw [e p (by omega), e2]
  exact ⟨h1, h2, h3, fun q hq => by rw [e q (by omega)]; exact h4 q hq⟩
theorem MBr_cg {r : Nat} (h : MBr E r) (e1 : E' 240 r = E 240 r) (e2 : ∀ q, q < 6 → E' 241 (6 * r + q) = E 241 (6 * r + q)) : MBr E' r := by
  obtain ⟨h1, h2⟩ := h
  have e3 : rnh E' r = rnh E r := by unfold rnh; rw [e1]
  have h6 := h1.2
  unfold MBr
  rw [e3, e1]
  exact ⟨h1, fun q hq => by rw [e2 q (by unfold rnh at hq; omega)]; exact h2 q hq⟩
theorem stps_cg {k : Nat} : ∀ m i h, (∀ j, j < k → E' 244 j = E 244 j ∧ E' 245 j = E 245 j) → i + m ≤ k → stps E' i m h = stps E i m h := by
  intro m
  induction m with
  | zero => intro i h _ _; rfl
  | succ m ih =>
    intro i h e hk
    show (stp (E' 244 i) (E' 245 i) h).bind (stps E' (i + 1) m) = (stp (E 244 i) (E 245 i) h).bind (stps E (i + 1) m)
    rw [(e i (by omega)).1, (e i (by omega)).2]
    congr 1
    exact funext fun x => ih (i + 1) x e (by omega)
theorem LawOK_cg {k : Nat} (h : LawOK E k) (e1 : E' 242 k = E 242 k) (e2 : E' 243 k = E 243 k) (hn : nK E ≤ nK E') (e : ∀ j, j < nK E → E' 244 j = E 244 j ∧ E' 245 j = E 245 j) : LawOK E' k := by
  obtain ⟨h1, h2, h3, h4, h5⟩ := h
  unfold LawOK
  rw [e1, e2]
  refine ⟨h1, h2, h3, by omega, fun z => ?_⟩
  rw [stps_cg _ _ _ e (by omega)]
  exact h5 z
end
/-! the lines -/
def eCor (E : DD) (n h a r : Nat) : DD := up (up (up (up (up E 228 (nC E) (nI n)) 229 (nC E) (nI h)) 230 (nC E) (nI a)) 231 (nC E) (nI r)) 227 0 (nI (nC E + 1))
def eRiv (E : DD) (r l : Nat) : DD := up (up E 227 4 (nI r)) 227 5 (nI l)
def eStr (E : DD) (a b l h r : Nat) : DD := up (up (up (up (up (up E 232 (nS E) (nI a)) 233 (nS E) (nI b)) 234 (nS E) (nI l)) 235 (nS E) (nI h)) 236 (nS E) (nI r)) 227 1 (nI (nS E + 1))
def ePip (E : DD) (w c : Nat) : DD := up (up (up E 237 (nP E) (nI w)) 238 (nP E) (nI c)) 227 2 (nI (nP E + 1))
def eLim (E : DD) (k x y : Nat) : DD := up (up E 227 k (nI x)) 227 (k + 1) (nI y)
def eCar (E : DD) (x : Nat) : DD := up E 227 10 (nI x)
section
variable {E : DD}
theorem eCor_r {n h a r : Nat} : (∀ x, 232 ≤ x → eCor E n h a r x = E x) ∧ (∀ j, j ≠ 0 → eCor E n h a r 227 j = E 227 j) ∧ eCor E n h a r 227 0 = nI (nC E + 1) ∧ (∀ x j, j ≠ nC E → 228 ≤ x → eCor E n h a r x j = E x j) ∧ eCor E n h a r 228 (nC E) = nI n ∧ eCor E n h a r 229 (nC E) = nI h ∧ eCor E n h a r 230 (nC E) = nI a ∧ eCor E n h a r 231 (nC E) = nI r := by
  refine ⟨fun x hx => ?_, fun j hj => ?_, up_e, fun x j hj hx => ?_, ?_, ?_, ?_, ?_⟩
  · unfold eCor; rw [up_r (by omega), up_r (by omega), up_r (by omega), up_r (by omega), up_r (by omega)]
  · unfold eCor; rw [up_j hj, up_a (by omega), up_a (by omega), up_a (by omega), up_a (by omega)]
  · unfold eCor; rw [up_a (by omega), up_j hj, up_j hj, up_j hj, up_j hj]
  · unfold eCor; rw [up_a (by omega), up_a (by omega), up_a (by omega), up_a (by omega), up_e]
  · unfold eCor; rw [up_a (by omega), up_a (by omega), up_a (by omega), up_e]
  · unfold eCor; rw [up_a (by omega), up_a (by omega), up_e]
  · unfold eCor; rw [up_a (by omega), up_e]
theorem eCor_n (ht : MT E) (h7 : nC E < 7) {n h a r : Nat} : nC (eCor E n h a r) = nC E + 1 ∧ nS (eCor E n h a r) = nS E ∧ nP (eCor E n h a r) = nP E ∧ nR (eCor E n h a r) = nR E ∧ nK (eCor E n h a r) = nK E ∧ lf (eCor E n h a r) = lf E ∧ mf (eCor E n h a r) = mf E ∧ lc (eCor E n h a r) = lc E ∧ mc (eCor E n h a r) = mc E ∧ ct (eCor E n h a r) = ct E := by
  obtain ⟨r1, r2, r3, -⟩ := eCor_r (E := E) (n := n) (h := h) (a := a) (r := r)
  unfold nS nP nR nK lf mf lc mc ct
  rw [r2 1 (by omega), r2 2 (by omega), r2 3 (by omega), r2 11 (by omega), r2 6 (by omega), r2 7 (by omega), r2 8 (by omega), r2 9 (by omega), r2 10 (by omega)]
  refine ⟨?_, rfl, rfl, rfl, rfl, rfl, rfl, rfl, rfl, rfl⟩
  unfold nC
  rw [r3]
  exact ix_nI (by omega)
theorem MT_cor (ht : MT E) (h7 : nC E < 7) {n h a r : Nat} (hh : h ≤ 999) (ha : a ≤ 99) (hr : r ≤ 20) : MT (eCor E n h a r) := by
  obtain ⟨r1, r2, r3, r4, r5, r6, r7, r8⟩ := eCor_r (E := E) (n := n) (h := h) (a := a) (r := r)
  obtain ⟨n1, n2, n3, n4, n5, n6, n7, n8, n9, n10⟩ := eCor_n ht h7 (n := n) (h := h) (a := a) (r := r)
  obtain ⟨⟨b1, b2, b3, b4, b5, b6, b7, b8, b9, b10, b11, b12, b13⟩, hc, hs, hp, hr', hk, hl⟩ := ht
  refine ⟨⟨by rw [r3]; exact Nn.mk (by omega) (by omega), by rw [r2 1 (by omega)]; exact b2, by rw [r2 2 (by omega)]; exact b3, by rw [r2 3 (by omega)]; exact b4, ?_, by rw [r2 6 (by omega)]; exact b6, by rw [r2 7 (by omega)]; exact b7, by rw [n6, n7]; exact b8, by rw [r2 8 (by omega)]; exact b9, by rw [r2 9 (by omega)]; exact b10, by rw [n8, n9]; exact b11, by rw [r2 10 (by omega)]; exact b12, by rw [r2 11 (by omega)]; exact b13⟩, fun c hc' => ?_, fun s hs' => ?_, fun p hp' => ?_, fun q hq' => ?_, fun i hi' => ?_, fun k hk' => ?_⟩
  · rw [r2 4 (by omega), r2 5 (by omega), n1]
    exact b5.imp (fun z => z) (fun ⟨⟨q, q1, q2⟩, q3⟩ => ⟨⟨q, by omega, q2⟩, q3⟩)
  · rw [n1] at hc'
    by_cases z : c = nC E
    · subst z
      unfold MBc
      rw [r6, r7, r8]
      exact ⟨Nn.mk hh (by omega), Nn.mk ha (by omega), Nn.mk hr (by omega)⟩
    · exact MBc_cg (hc c (by omega)) (r4 _ _ z (by omega)) (r4 _ _ z (by omega)) (r4 _ _ z (by omega))
  · rw [n2] at hs'
    exact MBs_cg (hs s hs') (by omega) (fun x h1 h2 => by rw [r1 x (by omega)])
  · rw [n3] at hp'
    exact MBp_cg (hp p hp') (fun q _ => by rw [r1 237 (by omega)]) (by rw [r1 238 (by omega)])
  · rw [n4] at hq'
    exact MBr_cg (hr' q hq') (by rw [r1 240 (by omega)]) (fun _ _ => by rw [r1 241 (by omega)])
  · rw [n5] at hi'
    rw [r1 244 (by omega), r1 245 (by omega)]
    exact hk i hi'
  · exact LawOK_cg (hl k hk') (by rw [r1 242 (by omega)]) (by rw [r1 243 (by omega)]) (by omega) (fun j _ => by rw [r1 244 (by omega), r1 245 (by omega)]; exact ⟨rfl, rfl⟩)
/-- a number alone is another one -/
theorem MT_num (ht : MT E) {E' : DD} (hrow : ∀ x, 228 ≤ x → E' x = E x) (h0 : E' 227 0 = E 227 0) (h1 : E' 227 1 = E 227 1) (h2 : E' 227 2 = E 227 2) (h3 : E' 227 3 = E 227 3) (h11 : E' 227 11 = E 227 11) (hriv : E' 227 4 = mI 1 ∧ E' 227 5 = mI 1 ∨ (∃ r, r < nC E ∧ E' 227 4 = nI r) ∧ Nn (E' 227 5) 999) (h6 : Nn (E' 227 6) 99) (h7 : Nn (E' 227 7) 99) (h67 : lf E' ≤ mf E') (h8 : Nn (E' 227 8) 12) (h9 : Nn (E' 227 9) 12) (h89 : lc E' ≤ mc E') (h10 : Nn (E' 227 10) 99) : MT E' := by
  have n1 : nC E' = nC E := by unfold nC; rw [h0]
  have n2 : nS E' = nS E := by unfold nS; rw [h1]
  have n3 : nP E' = nP E := by unfold nP; rw [h2]
  have n4 : nR E' = nR E := by unfold nR; rw [h3]
  have n5 : nK E' = nK E := by unfold nK; rw [h11]
  obtain ⟨⟨b1, b2, b3, b4, b5, b6, b7, b8, b9, b10, b11, b12, b13⟩, hc, hs, hp, hr', hk, hl⟩ := ht
  refine ⟨⟨by rw [h0]; exact b1, by rw [h1]; exact b2, by rw [h2]; exact b3, by rw [h3]; exact b4, by rw [n1]; exact hriv, h6, h7, h67, h8, h9, h89, h10, by rw [h11]; exact b13⟩, fun c hc' => ?_, fun s hs' => ?_, fun p hp' => ?_, fun q hq' => ?_, fun i hi' => ?_, fun k hk' => ?_⟩
  · exact MBc_cg (hc c (by omega)) (by rw [hrow _ (by omega)]) (by rw [hrow _ (by omega)]) (by rw [hrow _ (by omega)])
  · exact MBs_cg (hs s (by omega)) (by omega) (fun x _ _ => by rw [hrow x (by omega)])
  · exact MBp_cg (hp p (by omega)) (fun q _ => by rw [hrow 237 (by omega)]) (by rw [hrow 238 (by omega)])
  · exact MBr_cg (hr' q (by omega)) (by rw [hrow 240 (by omega)]) (fun _ _ => by rw [hrow 241 (by omega)])
  · rw [hrow 244 (by omega), hrow 245 (by omega)]; exact hk i (by omega)
  · exact LawOK_cg (hl k hk') (by rw [hrow 242 (by omega)]) (by rw [hrow 243 (by omega)]) (by omega) (fun j _ => by rw [hrow 244 (by omega), hrow 245 (by omega)]; exact ⟨rfl, rfl⟩)
theorem MT_riv (ht : MT E) {r l : Nat} (hr : r < nC E) (hl : l ≤ 999) : MT (eRiv E r l) := by
  have o : ∀ j, j ≠ 4 → j ≠ 5 → eRiv E r l 227 j = E 227 j := fun j h4 h5 => by unfold eRiv; rw [up_j h5, up_j h4]
  have h := ht.1
  obtain ⟨b1, b2, b3, b4, b5, b6, b7, b8, b9, b10, b11, b12, b13⟩ := h
  refine MT_num ht (fun x hx => by unfold eRiv; rw [up_r (by omega), up_r (by omega)]) (o _ (by omega) (by omega)) (o _ (by omega) (by omega)) (o _ (by omega) (by omega)) (o _ (by omega) (by omega)) (o _ (by omega) (by omega)) (Or.inr ⟨⟨r, hr, by unfold eRiv; rw [up_j (by omega), up_e]⟩, by unfold eRiv; rw [up_e]; exact Nn.mk hl (by omega)⟩) (by rw [o _ (by omega) (by omega)]; exact b6) (by rw [o _ (by omega) (by omega)]; exact b7) ?_ (by rw [o _ (by omega) (by omega)]; exact b9) (by rw [o _ (by omega) (by omega)]; exact b10) ?_ (by rw [o _ (by omega) (by omega)]; exact b12)
  · unfold lf mf; rw [o _ (by omega) (by omega), o _ (by omega) (by omega)]; exact b8
  · unfold lc mc; rw [o _ (by omega) (by omega), o _ (by omega) (by omega)]; exact b11
theorem MT_car (ht : MT E) {x : Nat} (hx : x ≤ 99) : MT (eCar E x) := by
  have o : ∀ j, j ≠ 10 → eCar E x 227 j = E 227 j := fun j h => up_j h
  obtain ⟨b1, b2, b3, b4, b5, b6, b7, b8, b9, b10, b11, b12, b13⟩ := ht.1
  refine MT_num ht (fun x hx => up_r (by omega)) (o _ (by omega)) (o _ (by omega)) (o _ (by omega)) (o _ (by omega)) (o _ (by omega)) (by rw [o _ (by omega), o _ (by omega)]; exact b5) (by rw [o _ (by omega)]; exact b6) (by rw [o _ (by omega)]; exact b7) ?_ (by rw [o _ (by omega)]; exact b9) (by rw [o _ (by omega)]; exact b10) ?_ (by unfold eCar; rw [up_e]; exact Nn.mk hx (by omega))
  · unfold lf mf; rw [o _ (by omega), o _ (by omega)]; exact b8
  · unfold lc mc; rw [o _ (by omega), o _ (by omega)]; exact b11
theorem MT_lim6 (ht : MT E) {x y : Nat} (hx : x ≤ y) (hy : y ≤ 99) : MT (eLim E 6 x y) := by
  have o : ∀ j, j ≠ 6 → j ≠ 7 → eLim E 6 x y 227 j = E 227 j := fun j h4 h5 => by unfold eLim; rw [up_j h5, up_j h4]
  have e6 : eLim E 6 x y 227 6 = nI x := by unfold eLim; rw [up_j (by omega), up_e]
  have e7 : eLim E 6 x y 227 7 = nI y := up_e
  obtain ⟨b1, b2, b3, b4, b5, b6, b7, b8, b9, b10, b11, b12, b13⟩ := ht.1
  refine MT_num ht (fun x hx => by unfold eLim; rw [up_r (by omega), up_r (by omega)]) (o _ (by omega) (by omega)) (o _ (by omega) (by omega)) (o _ (by omega) (by omega)) (o _ (by omega) (by omega)) (o _ (by omega) (by omega)) (by rw [o _ (by omega) (by omega), o _ (by omega) (by omega)]; exact b5) (by rw [e6]; exact Nn.mk (by omega) (by omega)) (by rw [e7]; exact Nn.mk hy (by omega)) ?_ (by rw [o _ (by omega) (by omega)]; exact b9) (by rw [o _ (by omega) (by omega)]; exact b10) ?_ (by rw [o _ (by omega) (by omega)]; exact b12)
  · unfold lf mf; rw [e6, e7, ix_nI (by omega), ix_nI (by omega)]; exact hx
  · unfold lc mc; rw [o _ (by omega) (by omega), o _ (by omega) (by omega)]; exact b11
theorem MT_lim8 (ht : MT E) {x y : Nat} (hx : x ≤ y) (hy : y ≤ 12) : MT (eLim E 8 x y) := by
  have o : ∀ j, j ≠ 8 → j ≠ 9 → eLim E 8 x y 227 j = E 227 j := fun j h4 h5 => by unfold eLim; rw [up_j h5, up_j h4]
  have e6 : eLim E 8 x y 227 8 = nI x := by unfold eLim; rw [up_j (by omega), up_e]
  have e7 : eLim E 8 x y 227 9 = nI y := up_e
  obtain ⟨b1, b2, b3, b4, b5, b6, b7, b8, b9, b10, b11, b12, b13⟩ := ht.1
  refine MT_num ht (fun x hx => by unfold eLim; rw [up_r (by omega), up_r (by omega)]) (o _ (by omega) (by omega)) (o _ (by omega) (by omega)) (o _ (by omega) (by omega)) (o _ (by omega) (by omega)) (o _ (by omega) (by omega)) (by rw [o _ (by omega) (by omega), o _ (by omega) (by omega)]; exact b5) (by rw [o _ (by omega) (by omega)]; exact b6) (by rw [o _ (by omega) (by omega)]; exact b7) ?_ (by rw [e6]; exact Nn.mk (by omega) (by omega)) (by rw [e7]; exact Nn.mk hy (by omega)) ?_ (by rw [o _ (by omega) (by omega)]; exact b12)
  · unfold lf mf; rw [o _ (by omega) (by omega), o _ (by omega) (by omega)]; exact b8
  · unfold lc mc; rw [e6, e7, ix_nI (by omega), ix_nI (by omega)]; exact hx
end
