/-! THE CALLS (own): worth, where the rule is there -/
theorem li_worthY {x : Nat} {T : bs_Ta} {S : bs_So} {fc rc qn rn j : Nat} {FG : Nat → bs_G} {UR : Nat → bs_U} {QT QJ QP ST : Nat → Nat} {pu pb : Int32} {V : Nat → Nat → Int32} {mu : bs_Mm} (h : lS x (T, S, (fc, FG), (rc, UR), (qn, QT, QJ, QP), (ST, pu, pb), (rn, V)) mu) (hj : j < rc) (a0 a1 a2 a3 a4 : Int32) : ∃ r mu1 mu2, FX11_worth x mu (nI j) a0 a1 a2 a3 a4 = some (r, mu1) ∧ FX12_worth (x + 159) mu1 (nI j) a0 a1 a2 a3 a4 = some (r, mu2) ∧ bs_iv (mu2 (x + 159) 0) = nI 0 ∧ lS x (T, S, (fc, FG), (rc, UR), (qn, QT, QJ, QP), (ST, pu, pb), (rn, V)) mu2 := by
  obtain ⟨hc, hm, hd⟩ := h
  obtain ⟨mu1, k1, k2⟩ := sf_worthY hc.2.2.2.1 hj a0 a1 a2 a3 a4
  have lc1 := lC_of (mu' := mu1) hc fun b b1 b2 b3 b4 b5 b6 => k2 b (by omega) (by omega)
  have lm1 := lM_of (mu' := mu1) hm (fun k _ => by rw [k2 _ (by omega) (by omega)]) fun b b1 b2 b3 b4 => k2 b (by omega) (by omega)
  obtain ⟨mu2, q1, q2, q3, q4⟩ := tf_worthY lm1.2.2.2.1 hj a0 a1 a2 a3 a4
  exact ⟨_, mu1, mu2, k1, q1, q2, lC_of lc1 fun b b1 b2 _ _ _ _ => q4 b (by omega) (by omega), lM_of lm1 (fun k hk => q3 k (by omega)) fun b b1 b2 b3 b4 => q4 b (by omega) (by omega), hd⟩
