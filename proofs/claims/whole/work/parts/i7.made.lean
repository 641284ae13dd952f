/-! THE CALLS (own): made, set -/
theorem cSO_o {x : Nat} {S : bs_So} {mu : bs_Mm} (h : cSo x S mu) (ok : so_ok S) : cSO x S.1 S.2.1 S.2.2.1 mu := ⟨ok.1, h.1, fun k hk => ⟨h.2.1 k hk, h.2.2.1 k hk, (ok.2 k hk).2.1, (ok.2 k hk).2.2.1⟩⟩
theorem mSO_o {m : Nat} {S : bs_So} {mu : bs_Mm} (h : mSo m S mu) (ok : so_ok S) : mSO m S.1 S.2.1 S.2.2.1 mu := ⟨ok.1, h.1, fun k hk => ⟨h.2.1 k hk, h.2.2.1 k hk, (ok.2 k hk).2.1, (ok.2 k hk).2.2.1⟩⟩
theorem lS_k {x fc rc qn rn : Nat} {T : bs_Ta} {S : bs_So} {FG : Nat → bs_G} {UR : Nat → bs_U} {QT QJ QP ST : Nat → Nat} {pu pb : Int32} {V : Nat → Nat → Int32} {mu mu1 : bs_Mm} (h : lS x (T, S, (fc, FG), (rc, UR), (qn, QT, QJ, QP), (ST, pu, pb), (rn, V)) mu) (hK : cMK x fc S.1 FG S.2.1 S.2.2.1 mu1) (f : ∀ c, (c < x + 37 ∨ x + 44 < c) → mu1 c = mu c) : lS x (T, S, (fc, FG), (rc, UR), (qn, QT, QJ, QP), (ST, pu, pb), (rn, V)) mu1 := by
  obtain ⟨⟨h1, h2, h3, h4, h5, h6, h7, h8, h9, h10⟩, hm, hd⟩ := h
  exact ⟨⟨cT_of h1 (f _ (by omega)) (f _ (by omega)), cSo_of h2 (f _ (by omega)) (f _ (by omega)) (f _ (by omega)) (f _ (by omega)), cFG_ofI h3 (f _ (by omega)) fun a a1 a2 => f a (by omega), cUR_ofI h4 (f _ (by omega)) fun a a1 a2 => f a (by omega), hK, cMT_of h6 (f _ (by omega)) (f _ (by omega)), cAG_of h7 (f _ (by omega)) (f _ (by omega)) (f _ (by omega)), cQU_ofI h8 (f _ (by omega)) (f _ (by omega)) (f _ (by omega)) (f _ (by omega)), cSK_ofI h9 (f _ (by omega)) (f _ (by omega)), cGU_ofI h10 (f _ (by omega)) fun k hk => f _ (by omega)⟩, lM_of hm (fun k _ => by rw [f _ (by omega)]) fun a a1 a2 a3 a4 => f a (by omega), hd⟩
theorem li_made {x : Nat} {D : li_D} {mu : bs_Mm} (h : lS x D mu) (a b p : Int32) : (∃ r mu1 mu2, FX11_made x mu a b = some (r, mu1) ∧ FX12_made (x + 159) mu1 a b = some (r, mu2) ∧ lS x D mu2) ∧ ∃ r mu1 mu2, FX11_set x mu a b p = some (r, mu1) ∧ FX12_set (x + 159) mu1 a b p = some (r, mu2) ∧ lS x D mu2 := by
  obtain ⟨T, S, ⟨fc, FG⟩, ⟨rc, UR⟩, ⟨qn, QT, QJ, QP⟩, ⟨ST, pu, pb⟩, ⟨rn, V⟩⟩ := D
  have h0 := h
  obtain ⟨hc, hm, hd⟩ := h
  have hF := hc.2.2.1
  have hG := hm.2.2.1
  have h12 := hF.1
  have s6 := hd.1.1
  have no : ∀ a b, FX11_made x mu a b = some (-1, mu) → FX12_mayBeMade (x + 159) mu a b = some (nI 0, mu) → (∃ r mu1 mu2, FX11_made x mu a b = some (r, mu1) ∧ FX12_made (x + 159) mu1 a b = some (r, mu2) ∧ lS x (T, S, (fc, FG), (rc, UR), (qn, QT, QJ, QP), (ST, pu, pb), (rn, V)) mu2) ∧ ∃ r mu1 mu2, FX11_set x mu a b p = some (r, mu1) ∧ FX12_set (x + 159) mu1 a b p = some (r, mu2) ∧ lS x (T, S, (fc, FG), (rc, UR), (qn, QT, QJ, QP), (ST, pu, pb), (rn, V)) mu2 := fun a b e1 e2 => ⟨⟨-1, mu, mu, e1, (tf_madeM e2).1, h0⟩, ⟨-1, mu, mu, sf_setM e1 p, (tf_madeM e2).2 p, h0⟩⟩
  rcases g_at_c fc (by omega) a with ha | ⟨j, hj, ha⟩
  · exact no a b (sf_madeN hF.2.1 ha b) (tf_mayN hG.2.1 h12 ha b)
  · subst ha
    rcases g_at_c S.1 (by omega) b with hb | ⟨k, hk, hb⟩
    · exact no _ b (sf_madeS hF hj hc.2.1.1 hb) (tf_mayS hG.2.1 h12 hj hm.2.1.1 s6 hb)
    · subst hb
      by_cases hn : 10 < g_nu (FG j)
      · exact no _ _ (sf_madeB hF hj hc.2.1.1 s6 hk hn) (tf_mayB hG hj hm.2.1.1 s6 hk hn)
      · obtain ⟨r, mu1, k1, k2, k3, k4, k5, k6⟩ := sf_madeY hF hj (cSO_o hc.2.1 hd.1) hk (by omega) hc.2.2.2.2.1
        have h1 := lS_k h0 k6 k5
        obtain ⟨r2, mu2, k7, k8, k9⟩ := tf_madeY h1.2.1.2.2.1 hj (mSO_o h1.2.1.2.1 hd.1) hk (by omega)
        rw [← kM_u k2 k8] at k7
        obtain ⟨w, q1, q2⟩ := sf_setY (by omega) (by omega) k1 k2 k3 k4 p
        obtain ⟨w2, mu3, q3, q4, q5⟩ := tf_setY h1.2.1.2.2.1 hj (mSO_o h1.2.1.2.1 hd.1) hk (by omega) p
        rw [← kS_u q2 q4] at q3
        exact ⟨⟨r, mu1, mu2, k1, k7, lS_m h1 fun a _ _ _ a4 a5 _ => k9 a a4 a5⟩, ⟨w, mu1, mu3, q1, q3, lS_m h1 fun a _ _ _ a4 a5 _ => q5 a a4 a5⟩⟩
