/-! THE STATE: D a j is what the reference's cell a holds at place j, at the places that count -/
def PM (a j : Nat) : Prop := (a = 225 ∧ (j = 2 ∨ j = 31 ∨ j = 32 ∨ j = 52 ∨ j = 57)) ∨ a = 226 ∨ (a = 227 ∧ j < 12) ∨ (228 ≤ a ∧ a ≤ 231 ∧ j < 7) ∨ (232 ≤ a ∧ a ≤ 236 ∧ j < 10) ∨ (237 ≤ a ∧ a ≤ 240 ∧ j < 4) ∨ (a = 241 ∧ j < 24) ∨ (242 ≤ a ∧ a ≤ 243 ∧ j < 3) ∨ (244 ≤ a ∧ a ≤ 245 ∧ j < 64) ∨ (248 ≤ a ∧ a ≤ 251 ∧ j < 7) ∨ (255 ≤ a ∧ a ≤ 262)
abbrev DD : Type := Nat → Nat → Int32
def nC (D : DD) : Nat := ix (D 227 0)
def nS (D : DD) : Nat := ix (D 227 1)
def nP (D : DD) : Nat := ix (D 227 2)
def nR (D : DD) : Nat := ix (D 227 3)
def lf (D : DD) : Nat := ix (D 227 6)
def mf (D : DD) : Nat := ix (D 227 7)
def lc (D : DD) : Nat := ix (D 227 8)
def mc (D : DD) : Nat := ix (D 227 9)
def ct (D : DD) : Nat := ix (D 227 10)
def nK (D : DD) : Nat := ix (D 227 11)
def hgt (D : DD) (c : Nat) : Nat := ix (D 229 c)
def are (D : DD) (c : Nat) : Nat := ix (D 230 c)
def rck (D : DD) (c : Nat) : Nat := ix (D 231 c)
def sA (D : DD) (s : Nat) : Nat := ix (D 232 s)
def sB (D : DD) (s : Nat) : Nat := ix (D 233 s)
def len (D : DD) (s : Nat) : Nat := ix (D 234 s)
def hrs (D : DD) (s : Nat) : Nat := ix (D 235 s)
def rsk (D : DD) (s : Nat) : Nat := ix (D 236 s)
def wid (D : DD) (p : Nat) : Nat := ix (D 237 p)
def pri (D : DD) (p : Nat) : Nat := ix (D 238 p)
def rnh (D : DD) (r : Nat) : Nat := ix (D 240 r)
def rnv (D : DD) (r h : Nat) : Nat := ix (D 241 (6 * r + h))
def km (D : DD) : Nat := ix (D 225 52)
def tpd (D : DD) : Nat := ix (D 225 2)
def oth (D : DD) (s c : Nat) : Nat := if sA D s = c then sB D s else sA D s
/-- a net's rows keep the town -/
def NetOK (D : DD) (st pi a b : Nat → Int32) : Prop := ∀ c, c < 7 → st c = mI 1 ∨ (c < nC D ∧ D 227 4 ≠ nI c ∧ (∃ s, s < nS D ∧ st c = nI s ∧ (sA D s = c ∨ sB D s = c)) ∧ (∃ p, p < nP D ∧ pi c = nI p) ∧ (∃ q, q ≤ 12 ∧ a c = nI q) ∧ (∃ q, q ≤ 12 ∧ b c = nI q))
/-- the code of a law, as the reference keeps it: sorts 0 number, 1 name, 2 sign -/
def stp (so v : Int32) (n : Nat) : Option Nat := if so = nI 2 then (if v = nI 260 then (if 1 ≤ n then some n else none) else (if 2 ≤ n then some (n - 1) else none)) else some (n + 1)
def stps (D : DD) : Nat → Nat → Nat → Option Nat
  | _, 0, n => some n
  | i, k + 1, n => (stp (D 244 i) (D 245 i) n).bind (stps D (i + 1) k)
def isSg (v : Int32) : Prop := v = nI 43 ∨ v = nI 45 ∨ v = nI 42 ∨ v = nI 47 ∨ v = nI 60 ∨ v = nI 62 ∨ v = nI 61 ∨ v = nI 256 ∨ v = nI 257 ∨ v = nI 258 ∨ v = nI 260 ∨ v = nI 261 ∨ v = nI 262
def knOK (so v : Int32) : Prop := (so = nI 0 ∧ Nn v 9999) ∨ (so = nI 1 ∧ Nn v 5) ∨ (so = nI 2 ∧ isSg v)
def LawOK (D : DD) (k : Nat) : Prop := Nn (D 242 k) 64 ∧ Nn (D 243 k) 64 ∧ ix (D 242 k) ≤ ix (D 243 k) ∧ ix (D 243 k) ≤ nK D ∧ (ix (D 242 k) < ix (D 243 k) → stps D (ix (D 242 k)) (ix (D 243 k) - ix (D 242 k)) 0 = some 1)
def MB1 (D : DD) : Prop := Nn (D 227 0) 7 ∧ Nn (D 227 1) 10 ∧ Nn (D 227 2) 4 ∧ Nn (D 227 3) 4 ∧ (D 227 4 = mI 1 ∧ D 227 5 = mI 1 ∨ (∃ r, r < nC D ∧ D 227 4 = nI r) ∧ Nn (D 227 5) 999) ∧ Nn (D 227 6) 99 ∧ Nn (D 227 7) 99 ∧ lf D ≤ mf D ∧ Nn (D 227 8) 12 ∧ Nn (D 227 9) 12 ∧ lc D ≤ mc D ∧ Nn (D 227 10) 99 ∧ Nn (D 227 11) 64
def MBc (D : DD) (c : Nat) : Prop := Nn (D 229 c) 999 ∧ Nn (D 230 c) 99 ∧ Nn (D 231 c) 20
def MBs (D : DD) (s : Nat) : Prop := Nn (D 232 s) 6 ∧ Nn (D 233 s) 6 ∧ sA D s < nC D ∧ sB D s < nC D ∧ sA D s ≠ sB D s ∧ Nn (D 234 s) 99 ∧ 1 ≤ len D s ∧ Nn (D 235 s) 3 ∧ Nn (D 236 s) 99
def MBp (D : DD) (p : Nat) : Prop := Nn (D 237 p) 99 ∧ Nn (D 238 p) 99 ∧ 1 ≤ wid D p ∧ ∀ q, q < p → wid D q < wid D p
def MBr (D : DD) (r : Nat) : Prop := Nn (D 240 r) 6 ∧ ∀ h, h < rnh D r → Nn (D 241 (6 * r + h)) 99
/-- the town -/
def MT (D : DD) : Prop := MB1 D ∧ (∀ c, c < nC D → MBc D c) ∧ (∀ s, s < nS D → MBs D s) ∧ (∀ p, p < nP D → MBp D p) ∧ (∀ r, r < nR D → MBr D r) ∧ (∀ i, i < nK D → knOK (D 244 i) (D 245 i)) ∧ (∀ k, k < 3 → LawOK D k)
/-- the net, what can be undone, the image -/
def MN (D : DD) : Prop := NetOK D (D 248) (D 249) (D 250) (D 251) ∧ Nn (D 225 52) 20 ∧ (∀ i, i < km D → NetOK D (fun c => D 255 (7 * i + c)) (fun c => D 256 (7 * i + c)) (fun c => D 257 (7 * i + c)) (fun c => D 258 (7 * i + c))) ∧ (D 225 57 = nI 0 ∨ D 225 57 = nI 1) ∧ (D 225 57 = nI 1 → NetOK D (D 259) (D 260) (D 261) (D 262))
def MB (D : DD) : Prop := MT D ∧ MN D ∧ Nn (D 225 2) 700 ∧ ∀ j, j < 700 → Nn (D 226 j) 255
/-- the reference's cells hold D -/
def MInv (σ : ah_H) (D : DD) : Prop := Wf σ ∧ MB D ∧ ∀ a j, PM a j → ah_I σ a j = D a j
theorem MInv.fr {X : Nat → Nat → Prop} {σ τ : ah_H} {D : DD} (h : MInv σ D) (g : Fr X σ τ) (hX : ∀ a j, X a j → ¬ PM a j) : MInv τ D :=
  ⟨h.1.fr g, h.2.1, fun a j p => (g.I (fun q => hX a j q p)).trans (h.2.2 a j p)⟩
theorem MInv.w {σ : ah_H} {D : DD} (h : MInv σ D) : Wf σ := h.1
theorem MInv.t {σ : ah_H} {D : DD} (h : MInv σ D) : MT D := h.2.1.1
theorem MInv.n {σ : ah_H} {D : DD} (h : MInv σ D) : MN D := h.2.1.2.1
theorem MInv.at {σ : ah_H} {D : DD} (h : MInv σ D) {a j : Nat} (p : PM a j) : ah_I σ a j = D a j := h.2.2 a j p
section
variable {D : DD} {c s p r i k : Nat}
theorem MT.qc (h : MT D) : D 227 0 = nI (nC D) := h.1.1.1
theorem MT.qc7 (h : MT D) : nC D ≤ 7 := h.1.1.2
theorem MT.qs (h : MT D) : D 227 1 = nI (nS D) := h.1.2.1.1
theorem MT.qs10 (h : MT D) : nS D ≤ 10 := h.1.2.1.2
theorem MT.qp (h : MT D) : D 227 2 = nI (nP D) := h.1.2.2.1.1
theorem MT.qp4 (h : MT D) : nP D ≤ 4 := h.1.2.2.1.2
theorem MT.qr (h : MT D) : D 227 3 = nI (nR D) := h.1.2.2.2.1.1
theorem MT.qr4 (h : MT D) : nR D ≤ 4 := h.1.2.2.2.1.2
theorem MT.qriv (h : MT D) : D 227 4 = mI 1 ∧ D 227 5 = mI 1 ∨ (∃ r, r < nC D ∧ D 227 4 = nI r) ∧ Nn (D 227 5) 999 := h.1.2.2.2.2.1
theorem MT.qlf (h : MT D) : D 227 6 = nI (lf D) := h.1.2.2.2.2.2.1.1
theorem MT.qlf99 (h : MT D) : lf D ≤ 99 := h.1.2.2.2.2.2.1.2
theorem MT.qmf (h : MT D) : D 227 7 = nI (mf D) := h.1.2.2.2.2.2.2.1.1
theorem MT.qmf99 (h : MT D) : mf D ≤ 99 := h.1.2.2.2.2.2.2.1.2
theorem MT.qlmf (h : MT D) : lf D ≤ mf D := h.1.2.2.2.2.2.2.2.1
theorem MT.qlc (h : MT D) : D 227 8 = nI (lc D) := h.1.2.2.2.2.2.2.2.2.1.1
theorem MT.qlc12 (h : MT D) : lc D ≤ 12 := h.1.2.2.2.2.2.2.2.2.1.2
theorem MT.qmc (h : MT D) : D 227 9 = nI (mc D) := h.1.2.2.2.2.2.2.2.2.2.1.1
theorem MT.qmc12 (h : MT D) : mc D ≤ 12 := h.1.2.2.2.2.2.2.2.2.2.1.2
theorem MT.qlmc (h : MT D) : lc D ≤ mc D := h.1.2.2.2.2.2.2.2.2.2.2.1
theorem MT.qct (h : MT D) : D 227 10 = nI (ct D) := h.1.2.2.2.2.2.2.2.2.2.2.2.1.1
theorem MT.qct99 (h : MT D) : ct D ≤ 99 := h.1.2.2.2.2.2.2.2.2.2.2.2.1.2
theorem MT.qk (h : MT D) : D 227 11 = nI (nK D) := h.1.2.2.2.2.2.2.2.2.2.2.2.2.1
theorem MT.qk64 (h : MT D) : nK D ≤ 64 := h.1.2.2.2.2.2.2.2.2.2.2.2.2.2
theorem MT.qhgt (h : MT D) (hc : c < nC D) : D 229 c = nI (hgt D c) := (h.2.1 c hc).1.1
theorem MT.qhgt9 (h : MT D) (hc : c < nC D) : hgt D c ≤ 999 := (h.2.1 c hc).1.2
theorem MT.qare (h : MT D) (hc : c < nC D) : D 230 c = nI (are D c) := (h.2.1 c hc).2.1.1
theorem MT.qare9 (h : MT D) (hc : c < nC D) : are D c ≤ 99 := (h.2.1 c hc).2.1.2
theorem MT.qrck (h : MT D) (hc : c < nC D) : D 231 c = nI (rck D c) := (h.2.1 c hc).2.2.1
theorem MT.qrck20 (h : MT D) (hc : c < nC D) : rck D c ≤ 20 := (h.2.1 c hc).2.2.2
theorem MT.qsA (h : MT D) (hs : s < nS D) : D 232 s = nI (sA D s) := (h.2.2.1 s hs).1.1
theorem MT.qsB (h : MT D) (hs : s < nS D) : D 233 s = nI (sB D s) := (h.2.2.1 s hs).2.1.1
theorem MT.qsAc (h : MT D) (hs : s < nS D) : sA D s < nC D := (h.2.2.1 s hs).2.2.1
theorem MT.qsBc (h : MT D) (hs : s < nS D) : sB D s < nC D := (h.2.2.1 s hs).2.2.2.1
theorem MT.qsAB (h : MT D) (hs : s < nS D) : sA D s ≠ sB D s := (h.2.2.1 s hs).2.2.2.2.1
theorem MT.qlen (h : MT D) (hs : s < nS D) : D 234 s = nI (len D s) := (h.2.2.1 s hs).2.2.2.2.2.1.1
theorem MT.qlen99 (h : MT D) (hs : s < nS D) : len D s ≤ 99 := (h.2.2.1 s hs).2.2.2.2.2.1.2
theorem MT.qlen1 (h : MT D) (hs : s < nS D) : 1 ≤ len D s := (h.2.2.1 s hs).2.2.2.2.2.2.1
theorem MT.qhrs (h : MT D) (hs : s < nS D) : D 235 s = nI (hrs D s) := (h.2.2.1 s hs).2.2.2.2.2.2.2.1.1
theorem MT.qhrs3 (h : MT D) (hs : s < nS D) : hrs D s ≤ 3 := (h.2.2.1 s hs).2.2.2.2.2.2.2.1.2
theorem MT.qrsk (h : MT D) (hs : s < nS D) : D 236 s = nI (rsk D s) := (h.2.2.1 s hs).2.2.2.2.2.2.2.2.1
theorem MT.qrsk99 (h : MT D) (hs : s < nS D) : rsk D s ≤ 99 := (h.2.2.1 s hs).2.2.2.2.2.2.2.2.2
theorem MT.qwid (h : MT D) (hp : p < nP D) : D 237 p = nI (wid D p) := (h.2.2.2.1 p hp).1.1
theorem MT.qwid99 (h : MT D) (hp : p < nP D) : wid D p ≤ 99 := (h.2.2.2.1 p hp).1.2
theorem MT.qpri (h : MT D) (hp : p < nP D) : D 238 p = nI (pri D p) := (h.2.2.2.1 p hp).2.1.1
theorem MT.qpri99 (h : MT D) (hp : p < nP D) : pri D p ≤ 99 := (h.2.2.2.1 p hp).2.1.2
theorem MT.qwidlt (h : MT D) {q : Nat} (hp : p < nP D) (hq : q < p) : wid D q < wid D p := (h.2.2.2.1 p hp).2.2.2 q hq
theorem MT.qrnh (h : MT D) (hr : r < nR D) : D 240 r = nI (rnh D r) := (h.2.2.2.2.1 r hr).1.1
theorem MT.qrnh6 (h : MT D) (hr : r < nR D) : rnh D r ≤ 6 := (h.2.2.2.2.1 r hr).1.2
theorem MT.qrnv (h : MT D) {q : Nat} (hr : r < nR D) (hq : q < rnh D r) : D 241 (6 * r + q) = nI (rnv D r q) := ((h.2.2.2.2.1 r hr).2 q hq).1
theorem MT.qrnv99 (h : MT D) {q : Nat} (hr : r < nR D) (hq : q < rnh D r) : rnv D r q ≤ 99 := ((h.2.2.2.2.1 r hr).2 q hq).2
theorem MT.qkn (h : MT D) (hi : i < nK D) : knOK (D 244 i) (D 245 i) := h.2.2.2.2.2.1 i hi
theorem MT.qlaw (h : MT D) (hk : k < 3) : LawOK D k := h.2.2.2.2.2.2 k hk
theorem MT.qoth (h : MT D) (hs : s < nS D) : oth D s c < nC D := by
  unfold oth
  split
  · exact h.qsBc hs
  · exact h.qsAc hs
end
