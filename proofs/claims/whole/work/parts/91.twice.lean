/-- what twice answers -/
def kTw (G : bs_G) (a : Int32) : Prop := ((12 < g_nu G ∨ 1 < g_pa G (2 ^ g_nu G - 1) 0) ∧ a = -1) ∨ (g_nu G ≤ 12 ∧ g_pa G (2 ^ g_nu G - 1) 0 ≤ 1 ∧ ((pc_n (g_od G (g_nu G)) 32 ≤ 2 ∧ a = nI 0) ∨ (2 < pc_n (g_od G (g_nu G)) 32 ∧ ∃ l, a = nI l ∧ kT G l)))
theorem sf_leastT {x f : Nat} {G : bs_G} {mu : bs_Mm} (hx : x + 63 ≤ f) (hV : cFv f G mu) (hG : g_ok G) : ∃ a mu', FX5_leastTwice x mu f = some (a, mu') ∧ kTw G a ∧ ∀ c, c ≠ x + 28 → c ≠ x + 29 → mu' c = mu c := by
  have q0 := g_bn hG
  unfold FX5_leastTwice
  rw [hV.2.1]
  by_cases z : 12 < g_nu G
  · rw [if_pos ((nI_ltI (by omega) (by omega)).mpr z)]
    exact ⟨-1, mu, rfl, Or.inl ⟨Or.inl z, rfl⟩, fun _ _ _ => rfl⟩
  · rw [if_neg (fun h => z ((nI_ltI (by omega) (by omega)).mp h))]
    obtain ⟨mu1, p1, p2, -⟩ := sf_parts hx hV hG (g_all_co G)
    have hV1 : cFv f G mu1 := cFv_of hV (fun k _ => p2 _ (by omega) (by omega))
    have dle : g_pa G (2 ^ g_nu G - 1) 0 ≤ g_np G := g_sm1 (fun _ => g_if_le _) _
    rw [p1, fg_b2_s]
    by_cases y : g_pa G (2 ^ g_nu G - 1) 0 ≤ 1
    · have ol := g_od_lt hG _ (Nat.le_refl _)
      have pl := pc_le (g_od G (g_nu G))
      rw [if_pos ((nI_leI (by omega) (by omega)).mpr y), sf_oddP hV1 hG, fg_bd_s, pc_bits mu1 (by omega), fg_bd_s]
      by_cases w : 2 < pc_n (g_od G (g_nu G)) 32
      · obtain ⟨l, l1, l2⟩ := sf_twL (x := x) hV1 hG (by omega)
        rw [if_pos ((nI_ltI (by omega) (by omega)).mpr w), l1, fg_bd_s]
        exact ⟨nI l, mu1, rfl, Or.inr ⟨by omega, y, Or.inr ⟨w, l, rfl, l2⟩⟩, p2⟩
      · rw [if_neg (fun h => w ((nI_ltI (by omega) (by omega)).mp h))]
        exact ⟨nI 0, mu1, rfl, Or.inr ⟨by omega, y, Or.inl ⟨by omega, rfl⟩⟩, p2⟩
    · rw [if_neg (fun h => y ((nI_leI (by omega) (by omega)).mp h))]
      exact ⟨-1, mu1, rfl, Or.inl ⟨Or.inr (by omega), rfl⟩, p2⟩
theorem sf_twN {x fc : Nat} {mu : bs_Mm} (hc : bs_iv (mu x 13) = nI fc) {a : Int32} (ha : a < 0 ∨ nI fc ≤ a) : FX11_twice x mu a = some (-1, mu) := by
  unfold FX11_twice
  rw [sf_figN hc ha]
  rfl
theorem sf_twY {x fc j : Nat} {FG : Nat → bs_G} {mu : bs_Mm} (hF : cFG x fc FG mu) (hj : j < fc) : ∃ a mu', FX11_twice x mu (nI j) = some (a, mu') ∧ kTw (FG j) a ∧ ∀ c, c ≠ x + 28 → c ≠ x + 29 → mu' c = mu c := by
  have hf := hF.1
  obtain ⟨a, mu1, m1, m2, m3⟩ := sf_leastT (show x + 63 ≤ x + 63 + 7 * j by omega) (hF.2.2 j hj).2 (hF.2.2 j hj).1
  refine ⟨a, mu1, ?_, m2, m3⟩
  unfold FX11_twice
  rw [sf_figY hF.2.1 hf hj, fg_bd_s, fg_oq_s, fg_isF_y (by omega), fg_gd_t, m1]
  rfl
