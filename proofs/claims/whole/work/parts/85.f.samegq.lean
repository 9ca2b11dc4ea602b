/-! BRANCHES: the same greatest flow -/
section
variable {D : DD} {st st' : Nat → Option Nat} {c : Nat}
theorem gmx_smb (hn : ∀ c k, c < nC D → nx D st c = some k → k < nC D) (hn' : ∀ c k, c < nC D → nx D st' c = some k → k < nC D) (hc : c < nC D) (h : SmB D st st' c) (hr : ¬ Rg (nx D st) (nC D) c) (hr' : ¬ Rg (nx D st') (nC D) c) (cp : Nat → Nat) : gmx D st cp c = gmx D st' cp c := by
  have e : st' c = st c := (h c hc).2 ⟨0, rfl⟩
  have hf : ∀ r t, flw D st cp r c t = flw D st' cp r c t := fun r t => by
    have hF : FF D st cp r c t = FF D st' cp r c t := inf_smb hn hn' (nC D) c t hc h
    unfold flw
    rw [hF, e]
    by_cases q : st c = none
    · rw [cif_t (Or.inl q), cif_t (Or.inl q)]
    · rw [cif_f (fun z => z.elim q hr), cif_f (fun z => z.elim q hr')]
  have hq : fq D st cp c = fq D st' cp c := funext fun j => hf _ _
  unfold gmx pkD
  rw [hq]
end
