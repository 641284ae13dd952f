/-! MADE: what the class keeps of a figure and a sort -/
def kM (W : Nat → Prop) (L : Nat) (a : Int32) : Prop := (∃ n, a = nI n ∧ g_e2 W L n ∧ n ≤ 10) ∨ (a = -1 ∧ ∀ n, ¬ g_cut W n L)
theorem kM_u {W : Nat → Prop} {L : Nat} {a b : Int32} (h : kM W L a) (h2 : kM W L b) : a = b := by
  rcases h with ⟨n, h, i, -⟩ | ⟨h, i⟩ <;> rcases h2 with ⟨k, h2, i2, -⟩ | ⟨h2, i2⟩
  · rw [h, h2, g_e2_u i i2]
  · exact absurd i.1 (i2 n)
  · exact absurd i2.1 (i k)
  · rw [h, h2]
def cKn (x p : Nat) (W : Nat → Prop) (L : Nat) (mu : bs_Mm) : Prop := kM W L (bs_iv (mu (x + 43) p)) ∧ ∀ n, bs_iv (mu (x + 43) p) = nI n → n ≤ 10 → ∀ i, i < n → ∃ T, bs_iv (mu (x + 44) (10 * p + i)) = nI T ∧ g_set W L i T
theorem sf_fewF {x f j k ln jn : Nat} {G : bs_G} {mu : bs_Mm} (hx : x + 63 ≤ f) (hV : cFv f G mu) (hG : g_ok G) (hnu : g_nu G ≤ 10) (hj : j < 12) (hk : k < 6) (hA : bs_iv (mu (x + 2) k) = nI ln) (hJ : bs_iv (mu (x + 3) k) = nI jn) (ln1 : ln ≤ 200) (jn1 : jn ≤ 9) (hc : bs_iv (mu (x + 43) (6 * j + k)) = -2 ∨ cKn x (6 * j + k) (g_ow ln jn G) (2 ^ g_nu G - 1) mu) : ∃ a mu', FX3_fewestFor x mu f (nI j) (nI k) = some (a, mu') ∧ a = bs_iv (mu' (x + 43) (6 * j + k)) ∧ cKn x (6 * j + k) (g_ow ln jn G) (2 ^ g_nu G - 1) mu' ∧ (∀ c, (c < x + 37 ∨ x + 44 < c) → mu' c = mu c) ∧ (∀ q, q ≠ 6 * j + k → mu' (x + 43) q = mu (x + 43) q) ∧ ∀ q, (q < 10 * (6 * j + k) ∨ 10 * (6 * j + k) + 10 ≤ q) → mu' (x + 44) q = mu (x + 44) q := by
  have q1 : 2 ^ g_nu G ≤ 2 ^ 10 := Nat.pow_le_pow_right (by decide) hnu
  have q2 := Nat.one_le_two_pow (n := g_nu G)
  have pe : nI j * nI 6 + nI k = nI (6 * j + k) := by rw [fn_mul, fn_add, Nat.mul_comm]
  have i1 := fn_in (show 6 * j + k < 72 by omega) (by decide)
  have c1 := fn_cl (a := 6 * j + k) (by omega)
  unfold FX3_fewestFor
  rw [pe, i1, fn_in hk (by decide), c1, fn_cl (show k < 2 ^ 31 by omega), hA, hJ]
  simp only [fg_gd_t]
  by_cases z : bs_iv (mu (x + 43) (6 * j + k)) = -2
  · have z2 : bs_iv (mu (x + 43) (6 * j + k)) = (-nI 2) := z
    obtain ⟨mu1, t1, t2, t3⟩ := sf_tell hx hV hG hnu ln1 jn1
    have hV1 : cFv f G mu1 := cFv_of hV (fun k _ => t2 _ (by omega) (by omega) (by omega) (by omega) (by omega))
    obtain ⟨mu2, u1, u2, u3⟩ := sf_cfew (x := x) (W := g_ow ln jn G) (mu := mu1) hnu t3.2.2.2.2.2
    have hV2 : cFv f G mu2 := cFv_of hV1 (fun k _ => u2 _ (by omega))
    obtain ⟨v, v1, v2⟩ := u3 (2 ^ g_nu G - 1) (by omega)
    have vl := g_fw_le v2
    rw [if_pos z, t1, fg_bd_s, sf_allB hV1 hG, fg_bd_s, u1, fg_bd_s, sf_allB hV2 hG, fg_bd_s, fn_in (show 2 ^ g_nu G - 1 < 1024 by omega) (by decide), fg_gd_t, fn_cl (show 2 ^ g_nu G - 1 < 2 ^ 31 by omega), v1]
    by_cases l : v < 99
    · have e2 := (g_fw_e v2 l).mp rfl
      have nl := g_cut_n (n := g_nu G) (by omega) e2.1
      obtain ⟨mu3, k1, k2, k3, k4⟩ := sf_keep (x := x) (L := 2 ^ g_nu G - 1) (n := v) (p := 6 * j + k) (W := g_ow ln jn G) (mu := mu2) (by omega) (by omega) e2 (by omega) (fun R hR => u3 R (by omega)) (fun T h1 h2 => by rw [u2 _ (by omega)]; exact t3.2.2.2.2.2 T (by omega) h2)
      rw [if_pos ((nI_ltI (by omega) (by omega)).mpr l), fg_bd_s, k1, fg_b2_s]
      simp only [fg_wr_s]
      rw [bs_up_eq, bs_iv_i]
      refine ⟨_, _, rfl, by rw [bs_up_eq, bs_iv_i], ⟨?_, fun n hn hn2 i hi => ?_⟩, fun c hc => ?_, fun q hq => ?_, fun q hq => ?_⟩
      · rw [bs_up_eq, bs_iv_i]
        exact Or.inl ⟨v, rfl, e2, by omega⟩
      · rw [bs_up_eq, bs_iv_i] at hn
        have := (nI_eq (by omega) (by omega)).mp hn
        rw [bs_up_f (by omega)]
        exact k4 i (by omega)
      · rw [bs_up_f (by omega), k2 _ (by omega), u2 _ (by omega), t2 _ (by omega) (by omega) (by omega) (by omega) (by omega)]
      · rw [bs_up_ne _ _ (by rintro ⟨-, r⟩; exact hq r), k2 _ (by omega), u2 _ (by omega), t2 _ (by omega) (by omega) (by omega) (by omega) (by omega)]
      · rw [bs_up_f (by omega), k3 q hq, u2 _ (by omega), t2 _ (by omega) (by omega) (by omega) (by omega) (by omega)]
    · have no : ∀ n, ¬ g_cut (g_ow ln jn G) n (2 ^ g_nu G - 1) := by
        rcases v2 with h | h
        · exact absurd h.2.1 l
        · exact h.2
      rw [if_neg (fun h => l ((nI_ltI (by omega) (by omega)).mp h))]
      simp only [fg_wr_s]
      rw [bs_up_eq, bs_iv_i]
      refine ⟨_, _, rfl, by rw [bs_up_eq, bs_iv_i], ⟨?_, fun n hn hn2 i hi => ?_⟩, fun c hc => ?_, fun q hq => ?_, fun q hq => ?_⟩
      · rw [bs_up_eq, bs_iv_i]
        exact Or.inr ⟨rfl, no⟩
      · rw [bs_up_eq, bs_iv_i] at hn
        exact absurd hn (fun h => by
          have a : (-1 : Int32) < 0 := by decide
          rw [h, fn_lt0 (by omega)] at a
          exact a)
      · rw [bs_up_f (by omega), u2 _ (by omega), t2 _ (by omega) (by omega) (by omega) (by omega) (by omega)]
      · rw [bs_up_ne _ _ (by rintro ⟨-, r⟩; exact hq r), u2 _ (by omega), t2 _ (by omega) (by omega) (by omega) (by omega) (by omega)]
      · rw [bs_up_f (by omega), u2 _ (by omega), t2 _ (by omega) (by omega) (by omega) (by omega) (by omega)]
  · rw [if_neg z]
    exact ⟨_, mu, rfl, rfl, hc.resolve_left z, fun _ _ => rfl, fun _ _ => rfl, fun _ _ => rfl⟩
