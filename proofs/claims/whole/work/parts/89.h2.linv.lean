/-! what a line keeps -/
def LnI (E : DD) (td : Nat) (o : List (Nat × Nat)) : Prop := MT E ∧ td < 2 ^ 24 ∧ KnE E o ∧ ∀ q, q < 3 → (td.testBit (16 + q) = true ↔ ix (E 242 q) < ix (E 243 q))
section
variable {k : Nat → TK} {s : LnS} {E E' : DD} {td : Nat} {o : List (Nat × Nat)}
theorem sNum_n {lo hi : Nat} (h : (sNumS k s lo hi).2 = none) : s = (s.1, none) ∧ tS (k s.1) = 2 ∧ lo ≤ tV (k s.1) ∧ tV (k s.1) ≤ hi ∧ sNumS k s lo hi = (s.1 + 1, none) ∧ sNumV k s lo hi = tV (k s.1) := by
  obtain ⟨i, _ | x⟩ := s
  · have e : sNumS k (i, none) lo hi = if tS (k i) = 2 then (if lo ≤ tV (k i) ∧ tV (k i) ≤ hi then (i + 1, none) else (i, some (2, i))) else (i, some (1, i)) := rfl
    rw [e] at h ⊢
    by_cases z : tS (k i) = 2
    · rw [if_pos z] at h ⊢
      by_cases y : lo ≤ tV (k i) ∧ tV (k i) ≤ hi
      · rw [if_pos y]
        exact ⟨rfl, z, y.1, y.2, rfl, if_pos ⟨z, y⟩⟩
      · rw [if_neg y] at h; exact nomatch h
    · rw [if_neg z] at h; exact nomatch h
  · exact nomatch h
theorem sNam_n {g : Nat → Int32} {m : Nat} (h : (sNamS k s g m).2 = none) : s = (s.1, none) ∧ tS (k s.1) = 1 ∧ fnd g (nI (tV (k s.1))) 0 m = mI 1 ∧ sNamS k s g m = (s.1 + 1, none) ∧ sNamV k s g m = tV (k s.1) := by
  obtain ⟨i, _ | x⟩ := s
  · have e : sNamS k (i, none) g m = if tS (k i) = 1 then (if fnd g (nI (tV (k i))) 0 m = mI 1 then (i + 1, none) else (i, some (3, i))) else (i, some (1, i)) := rfl
    rw [e] at h ⊢
    by_cases z : tS (k i) = 1
    · rw [if_pos z] at h ⊢
      by_cases y : fnd g (nI (tV (k i))) 0 m = mI 1
      · rw [if_pos y]
        exact ⟨rfl, z, y, rfl, if_pos ⟨z, y⟩⟩
      · rw [if_neg y] at h; exact nomatch h
    · rw [if_neg z] at h; exact nomatch h
  · exact nomatch h
theorem sGo_n (h : (sGo s).2 = none) : s = (s.1, none) ∧ sGo s = (s.1 + 1, none) := by
  obtain ⟨i, _ | x⟩ := s
  · exact ⟨rfl, rfl⟩
  · exact nomatch h
theorem sOpt_n {w hi d : Nat} (h : (sOptS k s w hi).2 = none) (hd : d ≤ hi) : s.2 = none ∧ sOptV k s w hi d ≤ hi := by
  by_cases z : sWd k s w
  · have eS : sOptS k s w hi = sNumS k (sGo s) 0 hi := if_pos z
    have eV : sOptV k s w hi d = sNumV k (sGo s) 0 hi := if_pos z
    rw [eS] at h
    obtain ⟨-, -, -, h1, -, h2⟩ := sNum_n h
    exact ⟨z.1, by rw [eV, h2]; exact h1⟩
  · have eS : sOptS k s w hi = s := if_neg z
    have eV : sOptV k s w hi d = d := if_neg z
    rw [eS] at h
    exact ⟨h, by rw [eV]; exact hd⟩
theorem sRn_n : ∀ f i vs, (∀ x, x ∈ vs → x ≤ 99) → (sRn k f i vs).2.length ≤ vs.length + f ∧ ∀ x, x ∈ (sRn k f i vs).2 → x ≤ 99 := by
  intro f
  induction f with
  | zero => intro i vs h; exact ⟨Nat.le_refl _, h⟩
  | succ f ih =>
    intro i vs h
    have eN : sRn k (f + 1) i vs = if tS (k i) = 2 then (if tV (k i) ≤ 99 then (if tS (k (i + 1)) = 2 then sRn k f (i + 1) (vs ++ [tV (k i)]) else ((i + 1, none), vs ++ [tV (k i)])) else ((i, some (2, i)), vs)) else ((i, some (1, i)), vs) := rfl
    rw [eN]
    split
    · split
      · rename_i z1 z2
        have h2 : ∀ x, x ∈ vs ++ [tV (k i)] → x ≤ 99 := fun x hx => by
          rw [List.mem_append, List.mem_singleton] at hx
          rcases hx with hx | hx
          · exact h x hx
          · omega
        split
        · have := ih (i + 1) (vs ++ [tV (k i)]) h2
          simp at this ⊢
          exact ⟨by omega, this.2⟩
        · exact ⟨by simp, h2⟩
      · exact ⟨by show vs.length ≤ _; omega, h⟩
    · exact ⟨by show vs.length ≤ _; omega, h⟩
theorem sRai_n : (sRai k s).2.length ≤ 6 ∧ ∀ i, i < (sRai k s).2.length → (sRai k s).2.getD i 0 ≤ 99 := by
  have key : ∀ vs : List Nat, vs.length ≤ 6 ∧ (∀ x, x ∈ vs → x ≤ 99) → vs.length ≤ 6 ∧ ∀ i, i < vs.length → vs.getD i 0 ≤ 99 := fun vs h => ⟨h.1, fun i hi => by
    rw [List.getD_eq_getElem?_getD, List.getElem?_eq_getElem hi]; exact h.2 _ (List.getElem_mem hi)⟩
  obtain ⟨i, _ | x⟩ := s
  · refine key _ ?_
    have := sRn_n (k := k) 6 i [] (fun x hx => by simp at hx)
    exact ⟨by have := this.1; simp at this; exact this, this.2⟩
  · exact ⟨Nat.zero_le _, fun i hi => absurd hi (Nat.not_lt_zero _)⟩
theorem sCor_v {g : Nat → Int32} {m : Nat} (hm : m ≤ 7) (h : (sCorS k s g m).2 = none) : sCorV k s g m < m ∧ fnd g (nI (tV (k s.1))) 0 m = nI (sCorV k s g m) := by
  obtain ⟨-, -, -, h2, h3⟩ := sCor_n h
  obtain ⟨c, c1, c2, -⟩ := fnd_ix (by omega) h2
  rw [h3, c2, ix_nI (by omega)]
  exact ⟨c1, rfl⟩
theorem eCor_11 {n h a r : Nat} : eCor E n h a r 227 11 = E 227 11 := (eCor_r (E := E) (n := n) (h := h) (a := a) (r := r)).2.1 11 (by omega)
theorem eStr_11 {a b l h r : Nat} : eStr E a b l h r 227 11 = E 227 11 := (eStr_r (E := E) (a := a) (b := b) (l := l) (h := h) (r := r)).2.2.1 11 (by omega)
theorem ePip_11 {w c : Nat} : ePip E w c 227 11 = E 227 11 := (ePip_r (E := E) (w := w) (c := c)).2.2.1 11 (by omega)
theorem eRai_11 {n : Nat} {vs : List Nat} : eRai E n vs 227 11 = E 227 11 := (eRai_r (E := E) (n := n) (vs := vs)).2.2.1 11 (by omega)
theorem bod_n (ht : MT E) {w : Nat} (hw : w ≤ 8) (hw7 : w ≠ 7) (hfl : ¬ isFl E w) (h : (bod k E w s).1.2 = none) : MT (bod k E w s).2 ∧ (∀ a, 242 ≤ a → (bod k E w s).2 a = E a) ∧ (bod k E w s).2 227 11 = E 227 11 := by
  have b0 : nC E ≤ 7 := ht.1.1.2
  have b1 : nS E ≤ 10 := ht.1.2.1.2
  have b2 : nP E ≤ 4 := ht.1.2.2.1.2
  have b3 : nR E ≤ 4 := ht.1.2.2.2.1.2
  have cs : w = 0 ∨ w = 1 ∨ w = 2 ∨ w = 3 ∨ w = 4 ∨ w = 5 ∨ w = 6 ∨ w = 8 := by omega
  rcases cs with rfl | rfl | rfl | rfl | rfl | rfl | rfl | rfl
  · have e : bod k E 0 s = bCor k E s := rfl
    rw [e] at h ⊢
    obtain ⟨h1, h2⟩ := sOpt_n (d := 20) h (by omega)
    obtain ⟨-, -, -, h3, -, h4⟩ := sNum_n h1
    have h5 : (sNumS k (sNamS k s (E 228) (nC E)) 0 999).2 = none := by
      have := (sNum_n h1).1; rw [this]
    obtain ⟨-, -, -, h6, -, h7⟩ := sNum_n h5
    refine ⟨MT_cor ht (by omega) (by rw [h7]; exact h6) (by rw [h4]; exact h3) h2, fun a ha => by unfold bCor; exact eCor_r.1 a (by omega), by simp only [bCor, eCor_11]⟩
  · have e : bod k E 1 s = bRiv k E s := rfl
    rw [e] at h ⊢
    obtain ⟨q1, -, -, h3, -, h4⟩ := sNum_n h
    have q2 : (sGo (sCorS k s (E 228) (nC E))).2 = none := by rw [q1]
    have q3 : (sCorS k s (E 228) (nC E)).2 = none := by have := (sGo_n q2).1; rw [this]
    refine ⟨MT_riv ht (sCor_v b0 q3).1 (by rw [h4]; exact h3), fun a ha => ?_, ?_⟩
    · show eRiv _ _ _ a = _; unfold eRiv; rw [up_r (by omega), up_r (by omega)]
    · simp only [bRiv, eRiv]; rw [up_j (by omega), up_j (by omega)]
  · have e : bod k E 2 s = bStr k E s := rfl
    rw [e] at h ⊢
    obtain ⟨h1, h2⟩ := sOpt_n (d := 1) h (by omega)
    obtain ⟨h3, h4⟩ := sOpt_n (d := 0) h1 (by omega)
    obtain ⟨q1, -, h5, h6, -, h7⟩ := sNum_n h3
    have q2 : (sSt5 k E s).2 = none := by rw [q1]
    have q3 := congrArg (fun x : LnS => x.2) (sGo_n q2).1
    obtain ⟨j1, j2, j3⟩ := sJn_n q3
    rw [j1] at q3
    obtain ⟨c1, -⟩ := sCor_v b0 q3
    have q4 := (sCor_n q3).1
    have q5 := congrArg (fun x : LnS => x.2) (sGo_n q4).1
    obtain ⟨c2, -⟩ := sCor_v b0 q5
    refine ⟨MT_str ht (by omega) c2 c1 j3 (by rw [h7]; exact h5) (by rw [h7]; exact h6) h4 h2, fun a ha => by unfold bStr; exact eStr_r.1 a (by omega), by simp only [bStr, eStr_11]⟩
  · have e : bod k E 3 s = bPip k E s := rfl
    rw [e] at h ⊢
    obtain ⟨q1, -, -, h3, -, h4⟩ := sNum_n h
    have q2 : (sNumS k s (lpw E) 99).2 = none := by rw [q1]
    obtain ⟨-, -, h5, h6, -, h7⟩ := sNum_n q2
    refine ⟨MT_pip ht (by omega) (by rw [h7]; exact h5) (by rw [h7]; exact h6) (by rw [h4]; exact h3), fun a ha => by unfold bPip; exact ePip_r.1 a (by omega), by simp only [bPip, ePip_11]⟩
  · have e : bod k E 4 s = bLim k E 6 99 s := rfl
    rw [e] at h ⊢
    obtain ⟨q1, -, h2, h3, -, h4⟩ := sNum_n h
    refine ⟨MT_lim6 ht (by rw [h4]; exact h2) (by rw [h4]; exact h3), fun a ha => ?_, ?_⟩
    · show eLim _ _ _ _ a = _; unfold eLim; rw [up_r (by omega), up_r (by omega)]
    · simp only [bLim, eLim]; rw [up_j (by omega), up_j (by omega)]
  · have e : bod k E 5 s = bLim k E 8 12 s := rfl
    rw [e] at h ⊢
    obtain ⟨q1, -, h2, h3, -, h4⟩ := sNum_n h
    refine ⟨MT_lim8 ht (by rw [h4]; exact h2) (by rw [h4]; exact h3), fun a ha => ?_, ?_⟩
    · show eLim _ _ _ _ a = _; unfold eLim; rw [up_r (by omega), up_r (by omega)]
    · simp only [bLim, eLim]; rw [up_j (by omega), up_j (by omega)]
  · have e : bod k E 6 s = bRai k E s := rfl
    rw [e]
    exact ⟨MT_rai ht (by omega) sRai_n.1 sRai_n.2, fun a ha => by unfold bRai; exact eRai_r.1 a ha, by simp only [bRai, eRai_11]⟩
  · have e : bod k E 8 s = bCar k E s := rfl
    rw [e] at h ⊢
    obtain ⟨-, -, -, h3, -, h4⟩ := sNum_n h
    exact ⟨MT_car ht (by rw [h4]; exact h3), fun a ha => up_r (by omega), by simp only [bCar, eCar]; rw [up_j (by omega)]⟩
theorem LnI.bod (h : LnI E td o) {w : Nat} (hw : w ≤ 8) (hw7 : w ≠ 7) (hfl : ¬ isFl E w) (hb : (bod k E w s).1.2 = none) : LnI (bod k E w s).2 (td ||| 2 ^ w) o := by
  obtain ⟨h1, h2, h3, h4⟩ := h
  obtain ⟨b1, b2, b3⟩ := bod_n h1 hw hw7 hfl hb
  refine ⟨b1, or_b h2 (pw_b (by omega)), ⟨h3.1, by rw [b3]; exact h3.2.1, fun j hj => by rw [b2 244 (by omega), b2 245 (by omega)]; exact h3.2.2 j hj⟩, fun q hq => ?_⟩
  rw [b2 242 (by omega), b2 243 (by omega), tb_set]
  rw [← h4 q hq]
  exact ⟨fun z => z.resolve_right (by omega), Or.inl⟩
theorem LnI.w (h : LnI E td o) {w : Nat} (hw : w ≤ 8) : LnI E (td ||| 2 ^ w) o := by
  obtain ⟨h1, h2, h3, h4⟩ := h
  refine ⟨h1, or_b h2 (pw_b (by omega)), h3, fun q hq => ?_⟩
  rw [tb_set, ← h4 q hq]
  exact ⟨fun z => z.resolve_right (by omega), Or.inl⟩
theorem LnI.law (h : LnI E td o) {g : List (Nat × Nat)} {q : Nat} (hq : q < 3) (hg : seg1 g) (hl : (o ++ g).length ≤ 64) : LnI (eLaw E q o (o ++ g)) (td ||| 2 ^ (16 + q)) (o ++ g) := by
  obtain ⟨h1, h2, h3, h4⟩ := h
  obtain ⟨m1, m2⟩ := MT_law h1 hq h3 hl hg
  refine ⟨m1, or_b h2 (pw_b (by omega)), m2, fun q' hq' => ?_⟩
  have hgl : 0 < g.length := by
    cases g with
    | nil => exact absurd (hg.1 0) (by simp [stL])
    | cons x l => simp
  have hlen : (o ++ g).length = o.length + g.length := List.length_append
  rw [tb_set]
  by_cases z : q' = q
  · subst z
    have e2 : eLaw E q' o (o ++ g) 242 q' = nI o.length := by unfold eLaw; rw [if_neg (by omega), if_pos ⟨rfl, rfl⟩]
    have e3 : eLaw E q' o (o ++ g) 243 q' = nI (o ++ g).length := by unfold eLaw; rw [if_neg (by omega), if_neg (by omega), if_pos ⟨rfl, rfl⟩]
    rw [e2, e3, ix_nI (by omega), ix_nI (by omega)]
    exact ⟨fun _ => by omega, fun _ => Or.inr rfl⟩
  · have e2 : eLaw E q o (o ++ g) 242 q' = E 242 q' := by unfold eLaw; rw [if_neg (by omega), if_neg (by omega), if_neg (by omega), if_neg (by omega), if_neg (by omega)]
    have e3 : eLaw E q o (o ++ g) 243 q' = E 243 q' := by unfold eLaw; rw [if_neg (by omega), if_neg (by omega), if_neg (by omega), if_neg (by omega), if_neg (by omega)]
    rw [e2, e3, ← h4 q' hq']
    exact ⟨fun y => y.resolve_right (by omega), Or.inl⟩
end
/-- the reference behind a line -/
def RLnO (σ : ah_H) (T : Nat → Nat) (n : Nat) (r : LnT) (τ : ah_H) : Prop := match r with
  | .inl x => XpF τ T n x.1 x.2
  | .inr (i, E, td, o) => RSt τ T n (i, none) ∧ RdE τ E ∧ ah_I τ 225 22 = nI td ∧ LnI E td o ∧ RKn τ o ∧ ah_I τ 225 23 = ah_I σ 225 23 + nI 1
