/-! BRANCHES: the same table -/
section
variable {D : DD} {st st' : Nat → Option Nat}
theorem ownC_smb {c : Nat} (e : st' c = st c) (hg : gq D st' c = gq D st c) (w a b : Nat) : ownC D st' (gq D st') c w a b = ownC D st (gq D st) c w a b := by
  unfold ownC own nx
  rw [e, hg]
theorem lay_smb {c : Nat} {T T' : Tbl} (hk : ∀ o, o < nC D → (nx D st o = some c ↔ nx D st' o = some c)) (hT : ∀ o, o < nC D → nx D st o = some c → ∀ v b, T' o v b = T o v b) (e : st' c = st c) (hg : gq D st' c = gq D st c) (v b : Nat) : layT (dpC D st') T' c v b = layT (dpC D st) T c v b := by
  have hS : ∀ w m, chsT (dpC D st') T' c w m = chsT (dpC D st) T c w m := fun w m => by
    show vsm (fun o => if nx D st' o = some c then comT T' o w m else some (0, 0)) (nC D) = vsm (fun o => if nx D st o = some c then comT T o w m else some (0, 0)) (nC D)
    refine vsm_cg _ (fun o ho => ?_)
    by_cases q : nx D st o = some c
    · rw [if_pos q, if_pos ((hk o ho).mp q), comT_cg (hT o ho q)]
    · rw [if_neg q, if_neg (fun z => q ((hk o ho).mpr z))]
  have hJ : ∀ w m, chjT (dpC D st') T' c w m = chjT (dpC D st) T c w m := fun w m => by
    show vmn (fun q => if nx D st' q = some c then ch1T (dpC D st') T' c w m q else none) (nC D) = vmn (fun q => if nx D st q = some c then ch1T (dpC D st) T c w m q else none) (nC D)
    refine vmn_cg _ (fun z hz => ?_)
    by_cases q : nx D st z = some c
    · rw [if_pos q, if_pos ((hk z hz).mp q)]
      show vsm (fun o => if nx D st' o = some c then (if o = z then cmjT T' o w m else comT T' o w m) else some (0, 0)) (nC D) = vsm (fun o => if nx D st o = some c then (if o = z then cmjT T o w m else comT T o w m) else some (0, 0)) (nC D)
      refine vsm_cg _ (fun o ho => ?_)
      by_cases q : nx D st o = some c
      · rw [if_pos q, if_pos ((hk o ho).mp q), comT_cg (hT o ho q), cmjT_cg (hT o ho q)]
      · rw [if_neg q, if_neg (fun z => q ((hk o ho).mpr z))]
    · rw [if_neg q, if_neg (fun y => q ((hk z hz).mpr y))]
  have hP : ∀ k, dpp (dpC D st') c k = dpp (dpC D st) c k := fun k => by
    show pmv D (gq D st') c k = pmv D (gq D st) c k
    unfold pmv
    rw [hg]
  refine vmn_cg _ (fun a _ => ?_)
  have hB : behT (dpC D st') T' c v a = behT (dpC D st) T c v a := by
    unfold behT
    rw [hS]
    congr 1
    refine vmn_cg _ (fun m _ => ?_)
    rw [hJ, hP]
  rw [hB]
  congr 1
  exact ownC_smb e hg v a b
theorem lw_smb (hn : ∀ c k, c < nC D → nx D st c = some k → k < nC D) (hn' : ∀ c k, c < nC D → nx D st' c = some k → k < nC D) (hr : ∀ c, c < nC D → ¬ Rg (nx D st) (nC D) c) (hr' : ∀ c, c < nC D → ¬ Rg (nx D st') (nC D) c) : ∀ d c, c < nC D → SmB D st st' c → ∀ v b, lw (dpC D st') d c v b = lw (dpC D st) d c v b := by
  intro d
  induction d with
  | zero => intro c _ _ v b; rfl
  | succ d ih =>
    intro c hc h v b
    refine lay_smb (T := lw (dpC D st) d) (T' := lw (dpC D st') d) (fun o ho => h.kid ho) (fun o ho hx => ih o ho (h.down hn hn' ho hx)) ((h c hc).2 ⟨0, rfl⟩) ?_ v b
    unfold gq
    rw [gmx_smb hn hn' hc h (hr c hc) (hr' c hc)]
end
