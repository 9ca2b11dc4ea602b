/-! READS of the reference's town -/
section
variable {σ : ah_H} {D : DD} {c s p r i k : Nat}
def lfr (D : DD) (k : Nat) : Nat := ix (D 242 k)
def lto (D : DD) (k : Nat) : Nat := ix (D 243 k)
theorem rd_C (h : MInv σ D) : ah_I σ 227 0 = nI (nC D) := (h.at (by unfold PM; omega)).trans h.t.qc
theorem rd_S (h : MInv σ D) : ah_I σ 227 1 = nI (nS D) := (h.at (by unfold PM; omega)).trans h.t.qs
theorem rd_P (h : MInv σ D) : ah_I σ 227 2 = nI (nP D) := (h.at (by unfold PM; omega)).trans h.t.qp
theorem rd_N (h : MInv σ D) : ah_I σ 227 3 = nI (nR D) := (h.at (by unfold PM; omega)).trans h.t.qr
theorem rd_riv (h : MInv σ D) : ah_I σ 227 4 = D 227 4 := (h.at (by unfold PM; omega)).trans rfl
theorem rd_lev (h : MInv σ D) : ah_I σ 227 5 = D 227 5 := (h.at (by unfold PM; omega)).trans rfl
theorem rd_lf (h : MInv σ D) : ah_I σ 227 6 = nI (lf D) := (h.at (by unfold PM; omega)).trans h.t.qlf
theorem rd_mf (h : MInv σ D) : ah_I σ 227 7 = nI (mf D) := (h.at (by unfold PM; omega)).trans h.t.qmf
theorem rd_lc (h : MInv σ D) : ah_I σ 227 8 = nI (lc D) := (h.at (by unfold PM; omega)).trans h.t.qlc
theorem rd_mc (h : MInv σ D) : ah_I σ 227 9 = nI (mc D) := (h.at (by unfold PM; omega)).trans h.t.qmc
theorem rd_ct (h : MInv σ D) : ah_I σ 227 10 = nI (ct D) := (h.at (by unfold PM; omega)).trans h.t.qct
theorem rd_K (h : MInv σ D) : ah_I σ 227 11 = nI (nK D) := (h.at (by unfold PM; omega)).trans h.t.qk
theorem rd_nm (h : MInv σ D) (hc : c < nC D) : ah_I σ 228 c = D 228 c := (h.at (by unfold PM; have := h.t.qc7; omega)).trans rfl
theorem rd_hgt (h : MInv σ D) (hc : c < nC D) : ah_I σ 229 c = nI (hgt D c) := (h.at (by unfold PM; have := h.t.qc7; omega)).trans (h.t.qhgt hc)
theorem rd_are (h : MInv σ D) (hc : c < nC D) : ah_I σ 230 c = nI (are D c) := (h.at (by unfold PM; have := h.t.qc7; omega)).trans (h.t.qare hc)
theorem rd_rck (h : MInv σ D) (hc : c < nC D) : ah_I σ 231 c = nI (rck D c) := (h.at (by unfold PM; have := h.t.qc7; omega)).trans (h.t.qrck hc)
theorem rd_sA (h : MInv σ D) (hs : s < nS D) : ah_I σ 232 s = nI (sA D s) := (h.at (by unfold PM; have := h.t.qs10; omega)).trans (h.t.qsA hs)
theorem rd_sB (h : MInv σ D) (hs : s < nS D) : ah_I σ 233 s = nI (sB D s) := (h.at (by unfold PM; have := h.t.qs10; omega)).trans (h.t.qsB hs)
theorem rd_len (h : MInv σ D) (hs : s < nS D) : ah_I σ 234 s = nI (len D s) := (h.at (by unfold PM; have := h.t.qs10; omega)).trans (h.t.qlen hs)
theorem rd_hrs (h : MInv σ D) (hs : s < nS D) : ah_I σ 235 s = nI (hrs D s) := (h.at (by unfold PM; have := h.t.qs10; omega)).trans (h.t.qhrs hs)
theorem rd_rsk (h : MInv σ D) (hs : s < nS D) : ah_I σ 236 s = nI (rsk D s) := (h.at (by unfold PM; have := h.t.qs10; omega)).trans (h.t.qrsk hs)
theorem rd_wid (h : MInv σ D) (hp : p < nP D) : ah_I σ 237 p = nI (wid D p) := (h.at (by unfold PM; have := h.t.qp4; omega)).trans (h.t.qwid hp)
theorem rd_pri (h : MInv σ D) (hp : p < nP D) : ah_I σ 238 p = nI (pri D p) := (h.at (by unfold PM; have := h.t.qp4; omega)).trans (h.t.qpri hp)
theorem rd_rnm (h : MInv σ D) (hr : r < nR D) : ah_I σ 239 r = D 239 r := (h.at (by unfold PM; have := h.t.qr4; omega)).trans rfl
theorem rd_rnh (h : MInv σ D) (hr : r < nR D) : ah_I σ 240 r = nI (rnh D r) := (h.at (by unfold PM; have := h.t.qr4; omega)).trans (h.t.qrnh hr)
theorem rd_rnv (h : MInv σ D) (hr : r < nR D) {q : Nat} (hq : q < rnh D r) : ah_I σ 241 (6 * r + q) = nI (rnv D r q) := (h.at (by unfold PM; have := h.t.qr4; have := h.t.qrnh6 hr; omega)).trans (h.t.qrnv hr hq)
theorem rd_from (h : MInv σ D) (hk : k < 3) : ah_I σ 242 k = nI (lfr D k) := (h.at (by unfold PM; omega)).trans (h.t.qlaw hk).1.1
theorem rd_to (h : MInv σ D) (hk : k < 3) : ah_I σ 243 k = nI (lto D k) := (h.at (by unfold PM; omega)).trans (h.t.qlaw hk).2.1.1
theorem rd_ks (h : MInv σ D) (hi : i < 64) : ah_I σ 244 i = D 244 i := h.at (by unfold PM; omega)
theorem rd_kv (h : MInv σ D) (hi : i < 64) : ah_I σ 245 i = D 245 i := h.at (by unfold PM; omega)
theorem rd_km (h : MInv σ D) : ah_I σ 225 52 = nI (km D) := (h.at (by unfold PM; omega)).trans h.n.qkm
theorem MT.qfrom (h : MT D) (hk : k < 3) : lfr D k ≤ lto D k ∧ lto D k ≤ 64 ∧ lto D k ≤ nK D := ⟨(h.qlaw hk).2.2.1, (h.qlaw hk).2.1.2, (h.qlaw hk).2.2.2.1⟩
theorem MT.qst (h : MT D) (hk : k < 3) (q : lfr D k < lto D k) : stps D (lfr D k) (lto D k - lfr D k) 0 = some 1 := (h.qlaw hk).2.2.2.2 q
theorem MInv.bd (h : MInv σ D) : nC D ≤ 7 ∧ nS D ≤ 10 ∧ nP D ≤ 4 ∧ nR D ≤ 4 ∧ nK D ≤ 64 ∧ lf D ≤ 99 ∧ mf D ≤ 99 ∧ lf D ≤ mf D ∧ lc D ≤ 12 ∧ mc D ≤ 12 ∧ lc D ≤ mc D ∧ ct D ≤ 99 := ⟨h.t.qc7, h.t.qs10, h.t.qp4, h.t.qr4, h.t.qk64, h.t.qlf99, h.t.qmf99, h.t.qlmf, h.t.qlc12, h.t.qmc12, h.t.qlmc, h.t.qct99⟩
end
