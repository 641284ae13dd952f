/-! SMALL ONES (own), as functions: figureAt, count, comes; both sides -/
theorem sf_figN {x fc : Nat} {mu : bs_Mm} (hc : bs_iv (mu x 13) = nI fc) {a : Int32} (ha : a < 0 ∨ nI fc ≤ a) : FX11_figureAt x mu a = some none := by
  unfold FX11_figureAt
  rw [hc]
  by_cases h : a < 0
  · rw [if_pos h]
  · rw [if_neg h]
    have h2 : nI fc ≤ a := ha.resolve_left h
    rw [if_neg (Int32.not_lt.mpr h2)]
theorem sf_figY {x fc j : Nat} {mu : bs_Mm} (hc : bs_iv (mu x 13) = nI fc) (h : fc ≤ 12) (hj : j < fc) : FX11_figureAt x mu (nI j) = some (some (x + 63 + 7 * j)) := by
  unfold FX11_figureAt
  simp (disch := omega) only [hc, fn_lt0, fn_lt, if_false, if_pos hj, fn_in, fg_gd_t, fg_let_s, fn_cl]
theorem sf_freeN {x : Nat} {mu : bs_Mm} (hc : bs_iv (mu x 13) = nI 12) : FX11_freeFigure x mu = some none := by
  unfold FX11_freeFigure
  simp (disch := omega) only [hc, fn_lt, fn_le, if_neg, Nat.lt_irrefl, Nat.le_refl, if_pos, if_true, if_false]
theorem sf_freeY {x fc : Nat} {mu : bs_Mm} (hc : bs_iv (mu x 13) = nI fc) (h : fc < 12) : FX11_freeFigure x mu = some (some (x + 63 + 7 * fc)) := by
  unfold FX11_freeFigure
  simp (disch := omega) only [hc, fn_lt, fn_le, if_pos h, if_neg (Nat.not_le.mpr h), fn_in, fg_gd_t, fg_let_s, fn_cl]
def k_ct (c0 c1 c2 c3 c4 : Nat) (a : Int32) : Int32 := if a = nI 0 then nI c0 else if a = nI 1 then nI c1 else if a = nI 2 then nI c2 else if a = nI 3 then nI c3 else if a = nI 4 then nI c4 else -1
theorem sf_count {x c0 c1 c2 c3 c4 : Nat} {mu : bs_Mm} (h0 : bs_iv (mu (x + 1) 3) = nI c0) (h1 : bs_iv (mu x 13) = nI c1) (h2 : bs_iv (mu (x + 50) 3) = nI c2) (h3 : bs_iv (mu (x + 5) 1) = nI c3) (h4 : bs_iv (mu x 14) = nI c4) (a : Int32) : FX11_count x mu a = some (k_ct c0 c1 c2 c3 c4 a) := by
  unfold FX11_count k_ct
  rw [h0, h1, h2, h3, h4]
  repeat' split
  all_goals rfl
theorem tf_count {m c0 c1 c2 c3 c4 : Nat} {mu : bs_Mm} (h0 : bs_iv (mu m 5) = nI c0) (h1 : bs_iv (mu m 20) = nI c1) (h2 : bs_iv (mu m 45) = nI c2) (h3 : bs_iv (mu m 7) = nI c3) (h4 : bs_iv (mu m 31) = nI c4) (a : Int32) : FX12_count m mu a = some (k_ct c0 c1 c2 c3 c4 a) := by
  unfold FX12_count k_ct
  rw [h0, h1, h2, h3, h4]
  repeat' split
  all_goals rfl
theorem tf_in (m : Nat) (mu : bs_Mm) (v lw hi : Int32) : FX12_in m mu v lw hi = some (bs_in v lw hi) := by
  unfold FX12_in bs_in
  by_cases h1 : v < lw
  · rw [if_pos h1, if_neg (fun z => Int32.not_lt.mpr z.1 h1)]; rfl
  · rw [if_neg h1]
    have h1 : lw ≤ v := Int32.not_lt.mp h1
    by_cases h2 : hi < v
    · rw [if_pos h2, if_neg (fun z => Int32.not_lt.mpr z.2 h2)]; rfl
    · rw [if_neg h2, if_pos ⟨h1, Int32.not_lt.mp h2⟩]; rfl
theorem tf_inY {m : Nat} {mu : bs_Mm} {v lw hi : Nat} (h1 : lw ≤ v) (h2 : v ≤ hi) (h3 : hi < 2 ^ 31) : FX12_in m mu (nI v) (nI lw) (nI hi) = some 1 := by
  rw [tf_in, bs_in, if_pos]
  exact ⟨(nI_leI (by omega) (by omega)).mpr h1, (nI_leI (by omega) (by omega)).mpr h2⟩
theorem tf_inN {m : Nat} {mu : bs_Mm} {a : Int32} {n : Nat} (hn : n < 2 ^ 30) (h : a < 0 ∨ nI n ≤ a) : FX12_in m mu a (nI 0) (nI n - nI 1) = some 0 := by
  rw [tf_in, n_inI hn h]
  rfl
theorem tf_inZ {m : Nat} {mu : bs_Mm} {n j : Nat} (hn : n < 2 ^ 30) (h : j < n) : FX12_in m mu (nI j) (nI 0) (nI n - nI 1) = some 1 := by
  rw [fn_sub (by omega)]
  exact tf_inY (by omega) (by omega) (by omega)
theorem tf_figN {m fc : Nat} {mu : bs_Mm} (hc : bs_iv (mu m 20) = nI fc) (h : fc ≤ 12) {a : Int32} (ha : a < 0 ∨ nI fc ≤ a) : FX12_isFigure m mu a = some 0 := by
  unfold FX12_isFigure
  rw [hc, tf_inN (by omega) ha]
  rfl
theorem tf_figY {m fc j : Nat} {mu : bs_Mm} (hc : bs_iv (mu m 20) = nI fc) (h : fc ≤ 12) (hj : j < fc) : FX12_isFigure m mu (nI j) = some 1 := by
  unfold FX12_isFigure
  rw [hc, tf_inZ (by omega) hj]
  rfl
