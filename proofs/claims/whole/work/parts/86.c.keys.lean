/-! KEYS: layouts in order -/
theorem key_tail : ∀ n, n < 8 → ∀ r, r < n → ∀ c, c < n → c ≠ r → sm (fun x => if x = r ∨ x ≤ c then 0 else 1023 * 2 ^ (10 * (5 - (if r < x then x - 1 else x)))) n < 2 ^ (10 * (5 - (if r < c then c - 1 else c))) := by decide +kernel
theorem sm_mn {f g : Nat → Nat} : ∀ n, (∀ o, o < n → f o ≤ g o) → sm f n ≤ sm g n := by
  intro n
  induction n with
  | zero => intro _; exact Nat.le_refl _
  | succ n ih =>
    intro h
    have h1 := ih (fun o ho => h o (by omega))
    have h2 := h n (by omega)
    show sm f n + f n ≤ sm g n + g n
    omega
theorem sm_at {n c v : Nat} (hc : c < n) : sm (fun x => if x = c then v else 0) n = v := by
  have := sm_one (f := fun x => if x = c then v else 0) (g := fun _ => 0) (n := n) (x := c) (v := v) hc (fun o _ ho => by show (if o = c then v else 0) = 0; rw [if_neg ho]) (by show (if c = c then v else 0) = 0 + v; rw [if_pos rfl]; omega)
  rw [this, sm_0 (fun _ _ => rfl)]; omega
def cde (l : Lay) (c : Nat) : Nat := lyw l c * 256 + lya l c * 16 + lyb l c
section
variable {D : DD} {l l' : Lay} {c : Nat}
theorem gL_e (hcr : c ≠ riv D) : gL D l c = cde l c * uD D c := if_neg hcr
def hdL (D : DD) (l : Lay) (c x : Nat) : Nat := if x < c then gL D l x else 0
def tlL (D : DD) (c x : Nat) : Nat := if x = riv D ∨ x ≤ c then 0 else 1023 * uD D x
theorem tl_b (h7 : nC D ≤ 7) (hr : riv D < nC D) (hc : c < nC D) (hcr : c ≠ riv D) : sm (tlL D c) (nC D) < uD D c := key_tail (nC D) (by omega) (riv D) hr c hc hcr
/-- a key from above and from below -/
theorem key_up (hc : c < nC D) (hcr : c ≠ riv D) (hb : ∀ x, x < nC D → x ≠ riv D → cde l x ≤ 1023) : sm (gL D l) (nC D) ≤ sm (hdL D l c) (nC D) + cde l c * uD D c + sm (tlL D c) (nC D) := by
  rw [← sm_at (n := nC D) (c := c) (v := cde l c * uD D c) hc, ← sm_add, ← sm_add]
  refine sm_mn _ (fun x hx => ?_)
  show gL D l x ≤ hdL D l c x + (if x = c then cde l c * uD D c else 0) + tlL D c x
  unfold hdL tlL
  rcases Nat.lt_trichotomy x c with q | q | q
  · rw [if_pos q]; omega
  · subst q
    rw [if_pos rfl, gL_e hcr]; omega
  · rw [if_neg (show ¬ x < c by omega), if_neg (show ¬ x = c by omega)]
    by_cases z : x = riv D
    · rw [if_pos (Or.inl z)]
      have : gL D l x = 0 := if_pos z
      omega
    · rw [if_neg (by omega), gL_e z]
      have := Nat.mul_le_mul_right (uD D x) (hb x hx z)
      omega
theorem key_dn (hc : c < nC D) (hcr : c ≠ riv D) : sm (hdL D l c) (nC D) + cde l c * uD D c ≤ sm (gL D l) (nC D) := by
  rw [← sm_at (n := nC D) (c := c) (v := cde l c * uD D c) hc, ← sm_add]
  refine sm_mn _ (fun x hx => ?_)
  show hdL D l c x + (if x = c then cde l c * uD D c else 0) ≤ gL D l x
  unfold hdL
  by_cases q : x = c
  · subst q
    rw [if_pos rfl, if_neg (by omega), gL_e hcr]; omega
  · rw [if_neg q]
    by_cases z : x < c
    · rw [if_pos z]; omega
    · rw [if_neg z]; omega
theorem key_lt (h7 : nC D ≤ 7) (hr : riv D < nC D) (hc : c < nC D) (hcr : c ≠ riv D) (he : ∀ x, x < c → x ≠ riv D → cde l' x = cde l x) (hb : ∀ x, x < nC D → x ≠ riv D → cde l' x ≤ 1023) (hlt : cde l' c < cde l c) : sm (gL D l') (nC D) < sm (gL D l) (nC D) := by
  have h1 := key_up (l := l') hc hcr hb
  have h2 := key_dn (l := l) hc hcr
  have h3 := tl_b h7 hr hc hcr
  have h4 : sm (hdL D l' c) (nC D) = sm (hdL D l c) (nC D) := sm_eq (fun x _ => by
    unfold hdL
    by_cases q : x < c
    · rw [if_pos q, if_pos q]
      by_cases z : x = riv D
      · rw [show gL D l' x = 0 from if_pos z, show gL D l x = 0 from if_pos z]
      · rw [gL_e z, gL_e z, he x q z]
    · rw [if_neg q, if_neg q])
  have h5 : cde l' c * uD D c + uD D c ≤ cde l c * uD D c := by
    have := Nat.mul_le_mul_right (uD D c) (show cde l' c + 1 ≤ cde l c from hlt)
    rw [Nat.add_mul, Nat.one_mul] at this
    exact this
  omega
theorem hd_mul (h7 : nC D ≤ 7) (hr : riv D < nC D) (hc : c < nC D) (hcr : c ≠ riv D) : ∀ n, ∃ K, sm (hdL D l c) n = (1024 * K) * uD D c := by
  intro n
  induction n with
  | zero => exact ⟨0, by show 0 = _; omega⟩
  | succ n ih =>
    obtain ⟨K, hK⟩ := ih
    have ht : ∃ J, hdL D l c n = (1024 * J) * uD D c := by
      unfold hdL
      by_cases q : n < c
      · rw [if_pos q]
        by_cases z : n = riv D
        · exact ⟨0, by rw [show gL D l n = 0 from if_pos z]; omega⟩
        · rw [gL_e z]
          have e : ∃ j, 10 * (5 - (if riv D < n then n - 1 else n)) = 10 + j + 10 * (5 - (if riv D < c then c - 1 else c)) := ⟨10 * (5 - (if riv D < n then n - 1 else n)) - 10 - 10 * (5 - (if riv D < c then c - 1 else c)), by split <;> split <;> omega⟩
          obtain ⟨j, hj⟩ := e
          refine ⟨cde l n * 2 ^ j, ?_⟩
          unfold uD
          rw [hj, Nat.pow_add, Nat.pow_add, show (2 : Nat) ^ 10 = 1024 by decide, ← Nat.mul_assoc, ← Nat.mul_assoc, ← Nat.mul_assoc, Nat.mul_comm (cde l n) 1024]
      · rw [if_neg q]; exact ⟨0, by omega⟩
    obtain ⟨J, hJ⟩ := ht
    refine ⟨K + J, ?_⟩
    show sm (hdL D l c) n + hdL D l c n = _
    rw [hK, hJ, Nat.mul_add, Nat.add_mul]
/-- a key tells its layout -/
theorem key_dig (h7 : nC D ≤ 7) (hr : riv D < nC D) (hc : c < nC D) (hcr : c ≠ riv D) (hb : ∀ x, x < nC D → x ≠ riv D → cde l x ≤ 1023) : sm (gL D l) (nC D) / uD D c % 1024 = cde l c := by
  have h1 := key_up (l := l) hc hcr hb
  have h2 := key_dn (l := l) hc hcr
  have h3 := tl_b h7 hr hc hcr
  have h4 := hb c hc hcr
  obtain ⟨K, hK⟩ := hd_mul (l := l) h7 hr hc hcr (nC D)
  have hu : 0 < uD D c := Nat.pow_pos (by omega)
  rw [hK, ← Nat.add_mul] at h1 h2
  have : sm (gL D l) (nC D) / uD D c = 1024 * K + cde l c := by
    refine Nat.div_eq_of_lt_le h2 ?_
    show sm (gL D l) (nC D) < (1024 * K + cde l c + 1) * uD D c
    rw [Nat.add_mul _ 1, Nat.one_mul]
    omega
  rw [this]
  omega
end
section
variable {D : DD} {m : Nat} {st : Nat → Option Nat} {F1 F2 F3 : Nat → Int32} {l : Lay} {x : Nat × Nat}
theorem LyT_cd (ht : MT D) (h : OrP D m (riv D) st) (hl : LyT D (dpD D st F1 F2 F3) l x) : ∀ c, c < nC D → c ≠ riv D → cde l c ≤ 1023 := by
  intro c hc hcr
  obtain ⟨h1, h2, h3, -⟩ := LyT_in ht h hl hc hcr
  have := ht.qp4
  have := ht.qmc12
  unfold cde
  omega
theorem LyT_no (ht : MT D) (h : OrP D m (riv D) st) (hl : LyT D (dpD D st F1 F2 F3) l x) : LyT D (dpD D st noF noF noF) l x := LyT_fx ht h hl (fun _ _ _ => ⟨Or.inl rfl, Or.inl rfl, Or.inl rfl⟩)
/-- what a layout of the least cost allows has the least cost -/
theorem fix_eq (ht : MT D) (h : OrP D m (riv D) st) (hx : topF D st noF noF noF = some x) (hl : LyT D (dpD D st noF noF noF) l x) (hc : ∀ c, c < nC D → c ≠ riv D → cpt F1 F2 F3 l c) : ∃ y, topF D st F1 F2 F3 = some y ∧ y.1 = x.1 := by
  obtain ⟨y, hy, hle⟩ := LyT_le ht h (LyT_fx ht h hl hc) x rfl
  refine ⟨y, hy, ?_⟩
  obtain ⟨l', hl'⟩ := LyT_at ht h hy
  obtain ⟨z, hz, hle2⟩ := LyT_le ht h (LyT_no ht h hl') y rfl
  rw [hx] at hz; cases hz
  unfold vlt at *
  omega
/-- and what is ahead of the least layout has not -/
theorem fix_ne (ht : MT D) (h : OrP D m (riv D) st) (hx : topF D st noF noF noF = some x) (hl : LyT D (dpD D st noF noF noF) l x) {c : Nat} (hc : c < nC D) (hcr : c ≠ riv D) (hag : ∀ o, o < c → o ≠ riv D → F1 o = nI (lyw l o) ∧ F2 o = nI (lya l o) ∧ F3 o = nI (lyb l o)) (hlt : ∀ w a b, w < nP D → a ≤ 12 → b ≤ 12 → fx (F1 c) w → fx (F2 c) a → fx (F3 c) b → w * 256 + a * 16 + b < cde l c) {y : Nat × Nat} (hy : topF D st F1 F2 F3 = some y) : y.1 ≠ x.1 := by
  intro he
  have b4 := ht.qp4
  have b12 := ht.qmc12
  obtain ⟨l', hl'⟩ := LyT_at ht h hy
  obtain ⟨z, hz, hle⟩ := LyT_le ht h (LyT_no ht h hl') y rfl
  rw [hx] at hz; cases hz
  have k1 := LyT_key ht h hl
  have k2 := LyT_key ht h hl'
  obtain ⟨c1, c2, c3, c4, c5, c6⟩ := LyT_in ht h hl' hc hcr
  have hfx : ∀ {u v : Nat}, u ≤ 100 → v ≤ 100 → fx (nI u) v → v = u := by
    intro u v hu hv z
    rcases z with z | z
    · rw [neg_nI (by omega) (by omega) (by omega)] at z; exact z.elim
    · rw [eq_nI (by omega) (by omega)] at z; exact z.symm
  have := key_lt (l := l) (l' := l') ht.qc7 h.2.2.1 hc hcr (fun o ho hor => by
    obtain ⟨d1, d2, d3, d4, d5, d6⟩ := LyT_in ht h hl' (show o < nC D by omega) hor
    obtain ⟨e1, e2, e3, -⟩ := LyT_in ht h hl (show o < nC D by omega) hor
    obtain ⟨a1, a2, a3⟩ := hag o ho hor
    rw [a1] at d4
    rw [a2] at d5
    rw [a3] at d6
    unfold cde
    rw [hfx (by omega) (by omega) d4, hfx (by omega) (by omega) d5, hfx (by omega) (by omega) d6]) (LyT_cd ht h hl') (hlt _ _ _ c1 (by omega) (by omega) c4 c5 c6)
  unfold vlt at *
  omega
end
