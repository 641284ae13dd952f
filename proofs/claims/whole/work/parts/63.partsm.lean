/-! PARTS (own), the model's: how many -/
theorem tf_cpass {m g R Q : Nat} {mu : bs_Mm} {G : bs_G} (hV : mFv m g G mu) (hg : g < 13) (hG : g_ok G) (hR : R < 2 ^ g_nu G) (hQ : Q < 2 ^ g_nu G) {body : Int32 × Int32 → Option ((Int32 × Int32) ⊕ Int32)} (hb : ∀ s, body s = FX12_firstPart_b20_L8 m mu (nI g) (nI R) (nI Q) s) : fg_lp body fg_fu (nI Q, nI 0) = some (nI (g_cp G R Q (g_nu G))) := by
  have q0 := g_bn hG
  have q1 : 2 ^ g_nu G ≤ 2 ^ 24 := Nat.pow_le_pow_right (by decide) q0.2.1
  refine fg_lp_n (fun i => (nI (g_cp G R Q i), nI i)) _ (g_nu G) rfl (fun i hi => ?_) ?_ (fg_fu_lt (by omega))
  · rw [hb]
    unfold FX12_firstPart_b20_L8
    have cl := g_cp_lt (R := R) hQ i (by omega)
    have v1 := g_bt_c R i
    have b0 := g_if_le (g_tch G i (g_cp G R Q i) = true)
    simp (disch := omega) only [fg_gd_t, fg_bd_s, fg_b2_s, fg_wr_s, fg_let_s, fn_add, fn_sub, fn_mul, fn_cl, fn_lt, fn_le, fn_eq, fn_eq0, fn_lt0, fn_0le, fn_0lt, fn_le0, fn_in, fn_shl, fn_shr, fa_and, fa_or, bs_xorI, if_true, if_false, hV.2.1, if_neg (show ¬ g_nu G ≤ i by omega), g_btd, g_bt_tb, tf_meets hV hg hG hi (show g_cp G R Q i < 2 ^ 30 by omega), Nat.or_zero]
    by_cases c : R.testBit i = true
    · rw [if_pos c]
      cases d : g_tch G i (g_cp G R Q i) with
      | false => rw [g_if0 (by decide), if_pos rfl, g_cp_n (by rw [d]; simp)]
      | true => rw [g_if1 rfl, if_neg (by decide), g_cp_y c d]
    · rw [if_neg c, g_cp_n (fun z => c z.1)]
  · rw [hb]
    unfold FX12_firstPart_b20_L8
    simp (disch := omega) only [fg_gd_t, fg_bd_s, fg_b2_s, fg_wr_s, fg_let_s, fn_add, fn_sub, fn_mul, fn_cl, fn_lt, fn_le, fn_eq, fn_eq0, fn_lt0, fn_0le, fn_0lt, fn_le0, fn_in, fn_shl, fn_shr, fa_and, fa_or, bs_xorI, if_true, if_false, hV.2.1, Nat.le_refl]
/-- the part of a remaining set R that the lowest bubble of it lies in -/
theorem tf_first {m g R : Nat} {mu : bs_Mm} {G : bs_G} (hV : mFv m g G mu) (hg : g < 13) (hG : g_ok G) (hR : R < 2 ^ g_nu G) (h0 : R ≠ 0) {body : Int32 × Int32 → Option ((Int32 × Int32) ⊕ Int32)} (hb : ∀ s, body s = FX12_firstPart_b8 m mu (nI g) (nI R) s) : ∃ k Q, R.testBit k = true ∧ (∀ j, j < k → R.testBit j = false) ∧ fg_lp body fg_fu ((nI R &&& (-(nI R))), nI 0) = some (nI Q) ∧ Q < 2 ^ g_nu G ∧ Q.testBit k = true ∧ (∀ b, b < g_nu G → R.testBit b = true → g_tch G b Q = true → Q.testBit b = true) ∧ ∀ (A : Nat → Prop), A k → (∀ b i, R.testBit b = true → A i → g_shr G i b → A b) → ∀ i, Q.testBit i = true → A i := by
  have q0 := g_bn hG
  have q1 : 2 ^ g_nu G ≤ 2 ^ 24 := Nat.pow_le_pow_right (by decide) q0.2.1
  obtain ⟨k, k1, k2, k3⟩ := g_low h0 (show R < 2 ^ 31 by omega)
  have kn := g_tb_lt hR k1
  obtain ⟨Q, c1, c2, c3, c4, c5⟩ := tf_close hG (R := R) (P := 2 ^ k) (Nat.pow_lt_pow_right (by decide) kn) (Nat.ne_of_gt (Nat.two_pow_pos k)) (body := body) (fun Q hQ => by
    rw [hb]
    unfold FX12_firstPart_b8
    rw [if_pos rfl]) (fun Q w hQ hw => by
    rw [hb]
    unfold FX12_firstPart_b8
    rw [if_neg hw]
    show fg_bd (fg_lp _ fg_fu (nI Q, nI 0)) _ = _
    rw [tf_cpass hV hg hG hR hQ (fun s => rfl)]
    rfl)
  refine ⟨k, Q, k1, k2, by rw [k3]; exact c1, c2, c3 k Nat.testBit_two_pow_self, c4, fun A a0 a1 => c5 A (fun i hi => ?_) a1⟩
  rw [Nat.testBit_two_pow, decide_eq_true_iff] at hi
  rw [← hi]
  exact a0
/-- R is a union of whole parts of W -/
def g_un (G : bs_G) (W L R : Nat) : Prop := g_sub R W ∧ ∀ i j, i < g_nu G → j < g_nu G → R.testBit i = true → W.testBit j = true → g_gl G L (g_nu G) (g_fr G i) = g_gl G L (g_nu G) (g_fr G j) → R.testBit j = true
theorem g_co_f {G : bs_G} {W L i : Nat} (h : g_co G W L) (hi : i < g_nu G) : W.testBit i = true ↔ L.testBit i = false := by
  rw [h.2.2 i hi]
  cases L.testBit i <;> simp
theorem g_part {G : bs_G} {W L R Q k : Nat} (hW : g_co G W L) (hR : g_un G W L R) (hk : k < g_nu G) (k1 : R.testBit k = true) (hQ : Q < 2 ^ g_nu G) (q1 : Q.testBit k = true) (q2 : ∀ b, b < g_nu G → R.testBit b = true → g_tch G b Q = true → Q.testBit b = true) (q3 : ∀ (A : Nat → Prop), A k → (∀ b i, R.testBit b = true → A i → g_shr G i b → A b) → ∀ i, Q.testBit i = true → A i) : ∀ i, i < g_nu G → (Q.testBit i = true ↔ R.testBit i = true ∧ g_gl G L (g_nu G) (g_fr G i) = g_gl G L (g_nu G) (g_fr G k)) := by
  have wl : ∀ i, i < g_nu G → W.testBit i = true → g_gl G L (g_nu G) (g_fr G i) = g_gl G L (g_nu G) (g_to G i) := fun i hi h => g_gl_b ((g_co_f hW hi).mp h) _ hi
  have inR : ∀ i, Q.testBit i = true → i < g_nu G ∧ R.testBit i = true ∧ g_gl G L (g_nu G) (g_fr G i) = g_gl G L (g_nu G) (g_fr G k) := by
    intro i hi
    have := q3 (fun i => R.testBit i = true ∧ (i < g_nu G → g_gl G L (g_nu G) (g_fr G i) = g_gl G L (g_nu G) (g_fr G k))) ⟨k1, fun _ => rfl⟩ (fun b i hb hA hs => ⟨hb, fun hbn => ?_⟩) i hi
    · have n := g_tb_lt hQ hi
      exact ⟨n, this.1, this.2 n⟩
    · have hin : i < g_nu G := g_tb_lt hW.1 (hR.1 i hA.1)
      have e1 := wl i hin (hR.1 i hA.1)
      have e2 := wl b hbn (hR.1 b hb)
      have e3 := hA.2 hin
      rcases hs with h | h | h | h
      · rw [← h]; exact e3
      · rw [e2, ← h]; exact e3
      · rw [← h, ← e1]; exact e3
      · rw [e2, ← h, ← e1]; exact e3
  intro i hi
  constructor
  · intro h
    exact (inR i h).2
  · rintro ⟨h1, h2⟩
    have hm := g_gl_m (G := G) (L := L) (κ := fun p => g_if (g_us G Q (fun p => p) p = true)) (g_nu G) (fun j hj hl => ?_) _ _ h2
    · have u1 : g_us G Q (fun p => p) (g_fr G k) = true := g_us_c.mpr ⟨k, hk, q1, Or.inl rfl⟩
      have hm : g_if (g_us G Q (fun p => p) (g_fr G i) = true) = g_if (g_us G Q (fun p => p) (g_fr G k) = true) := hm
      rw [g_if1 u1] at hm
      have u2 : g_us G Q (fun p => p) (g_fr G i) = true := by
        apply Classical.byContradiction
        intro z
        rw [g_if0 z] at hm
        cases hm
      obtain ⟨o, o1, o2, o3⟩ := g_us_c.mp u2
      refine q2 i hi h1 (g_tch_c.mpr ⟨o, o1, o2, ?_⟩)
      rcases o3 with o3 | o3
      · exact Or.inl o3
      · exact Or.inr (Or.inr (Or.inl o3))
    · have wj := (g_co_f hW hj).mpr hl
      have step : ∀ p, (p = g_fr G j ∨ p = g_to G j) → g_us G Q (fun p => p) p = true → Q.testBit j = true := by
        intro p hp hu
        obtain ⟨o, o1, o2, o3⟩ := g_us_c.mp hu
        obtain ⟨-, r1, r2⟩ := inR o o2
        have lo : g_gl G L (g_nu G) p = g_gl G L (g_nu G) (g_fr G o) := by
          rcases o3 with o3 | o3
          · rw [← o3]
          · rw [← o3]; exact (wl o o1 (hR.1 o r1)).symm
        have lj : g_gl G L (g_nu G) p = g_gl G L (g_nu G) (g_fr G j) := by
          rcases hp with hp | hp
          · rw [hp]
          · rw [hp]; exact (wl j hj wj).symm
        have rj := hR.2 o j o1 hj r1 wj (lo.symm.trans lj)
        refine q2 j hj rj (g_tch_c.mpr ⟨o, o1, o2, ?_⟩)
        rcases o3 with o3 | o3 <;> rcases hp with hp | hp
        · exact Or.inl (o3.trans hp)
        · exact Or.inr (Or.inl (o3.trans hp))
        · exact Or.inr (Or.inr (Or.inl (o3.trans hp)))
        · exact Or.inr (Or.inr (Or.inr (o3.trans hp)))
      refine g_if_congr ⟨fun h => g_us_c.mpr ⟨j, hj, step _ (Or.inl rfl) h, Or.inr rfl⟩, fun h => g_us_c.mpr ⟨j, hj, step _ (Or.inr rfl) h, Or.inl rfl⟩⟩
/-- what remains behind a part -/
def g_mi (R Q : Nat) : Nat := R &&& (Q ^^^ 4294967295)
theorem g_mi_tb {R Q : Nat} (hR : R < 2 ^ 24) (i : Nat) : (g_mi R Q).testBit i = (R.testBit i && !Q.testBit i) := by
  unfold g_mi
  rw [Nat.testBit_and, Nat.testBit_xor]
  cases c : R.testBit i with
  | false => rfl
  | true =>
    have hi := g_tb_lt hR c
    have e1 : (4294967295 : Nat).testBit i = true := by
      have := Nat.testBit_two_pow_sub_one 32 i
      rw [show (2 : Nat) ^ 32 - 1 = 4294967295 from rfl] at this
      rw [this]
      simp
      omega
    rw [e1]
    cases Q.testBit i <;> rfl
theorem g_un_mi {G : bs_G} (hG : g_nu G ≤ 24) {W L R Q k : Nat} (hW : g_co G W L) (hR : g_un G W L R) (hp : ∀ i, i < g_nu G → (Q.testBit i = true ↔ R.testBit i = true ∧ g_gl G L (g_nu G) (g_fr G i) = g_gl G L (g_nu G) (g_fr G k))) : g_un G W L (g_mi R Q) := by
  have q1 : 2 ^ g_nu G ≤ 2 ^ 24 := Nat.pow_le_pow_right (by decide) hG
  have hR24 : R < 2 ^ 24 := Nat.lt_of_lt_of_le (g_lt_of (fun i hi => g_tb_lt hW.1 (hR.1 i hi))) q1
  have tb := g_mi_tb (Q := Q) hR24
  refine ⟨fun i hi => ?_, fun i j hi hj h1 h2 h3 => ?_⟩
  · rw [tb, Bool.and_eq_true] at hi
    exact hR.1 i hi.1
  · rw [tb, Bool.and_eq_true] at h1 ⊢
    have rj := hR.2 i j hi hj h1.1 h2 h3
    refine ⟨rj, ?_⟩
    cases c : Q.testBit j with
    | false => rfl
    | true =>
      have := (hp j hj).mp c
      have qi := (hp i hi).mpr ⟨h1.1, h3.trans this.2⟩
      rw [qi] at h1
      exact absurd h1.2 (by decide)
theorem g_dl_mi {G : bs_G} (hG : g_ok G) {W L R Q k : Nat} (hW : g_co G W L) (hR : g_un G W L R) (hk : k < g_nu G) (k1 : R.testBit k = true) (hp : ∀ i, i < g_nu G → (Q.testBit i = true ↔ R.testBit i = true ∧ g_gl G L (g_nu G) (g_fr G i) = g_gl G L (g_nu G) (g_fr G k))) : g_dl G R (g_gl G L (g_nu G)) (g_np G) = g_dl G (g_mi R Q) (g_gl G L (g_nu G)) (g_np G) + 1 := by
  have q0 := g_bn hG
  have q1 : 2 ^ g_nu G ≤ 2 ^ 24 := Nat.pow_le_pow_right (by decide) q0.2.1
  have hR24 : R < 2 ^ 24 := Nat.lt_of_lt_of_le (g_lt_of (fun i hi => g_tb_lt hW.1 (hR.1 i hi))) q1
  have tb := g_mi_tb (Q := Q) hR24
  have wl : ∀ i, i < g_nu G → R.testBit i = true → g_gl G L (g_nu G) (g_fr G i) = g_gl G L (g_nu G) (g_to G i) := fun i hi h => g_gl_b ((g_co_f hW hi).mp (hR.1 i h)) _ hi
  have b := g_bd hG hk
  refine g_sm_at (i := g_gl G L (g_nu G) (g_fr G k)) ?_ (fun c hc => ?_) _ (g_gl_lt hG b.1 _ (Nat.le_refl _))
  · have u1 : g_us G R (g_gl G L (g_nu G)) (g_gl G L (g_nu G) (g_fr G k)) = true := g_us_c.mpr ⟨k, hk, k1, Or.inl rfl⟩
    have u2 : ¬ g_us G (g_mi R Q) (g_gl G L (g_nu G)) (g_gl G L (g_nu G) (g_fr G k)) = true := by
      rw [g_us_c]
      rintro ⟨i, i1, i2, i3⟩
      rw [tb, Bool.and_eq_true] at i2
      have e : g_gl G L (g_nu G) (g_fr G i) = g_gl G L (g_nu G) (g_fr G k) := by
        rcases i3 with h | h
        · exact h
        · rw [wl i i1 i2.1]; exact h
      have := (hp i i1).mpr ⟨i2.1, e⟩
      rw [this] at i2
      exact absurd i2.2 (by decide)
    rw [g_if1 u1, g_if0 u2]
  · refine g_if_congr ?_
    rw [g_us_c, g_us_c]
    constructor
    · rintro ⟨i, i1, i2, i3⟩
      refine ⟨i, i1, ?_, i3⟩
      rw [tb, Bool.and_eq_true]
      refine ⟨i2, ?_⟩
      cases z : Q.testBit i with
      | false => rfl
      | true =>
        have e := ((hp i i1).mp z).2
        have w := wl i i1 i2
        rcases i3 with h | h
        · exact absurd (h.symm.trans e) hc
        · exact absurd (h.symm.trans (w.symm.trans e)) hc
    · rintro ⟨i, i1, i2, i3⟩
      rw [tb, Bool.and_eq_true] at i2
      exact ⟨i, i1, i2.1, i3⟩
theorem tf_parts {m g W L : Nat} {mu : bs_Mm} {G : bs_G} (hV : mFv m g G mu) (hg : g < 13) (hG : g_ok G) (hW : g_co G W L) : FX12_partsOf m mu (nI g) (nI W) = some (nI (g_pa G W L)) := by
  have q0 := g_bn hG
  have q1 : 2 ^ g_nu G ≤ 2 ^ 24 := Nat.pow_le_pow_right (by decide) q0.2.1
  have dle : ∀ R, g_dl G R (g_gl G L (g_nu G)) (g_np G) ≤ g_np G := fun R => g_sm1 (fun _ => g_if_le _) _
  unfold FX12_partsOf
  refine Exists.elim (fg_lp_i (body := FX12_partsOf_b5 m mu (nI g) (nI W)) (fun r s => ∃ R, s.1 = nI R ∧ g_un G W L R ∧ s.2 = nI (g_pa G W L - g_dl G R (g_gl G L (g_nu G)) (g_np G)) ∧ g_dl G R (g_gl G L (g_nu G)) (g_np G) ≤ g_pa G W L ∧ r = g_dl G R (g_gl G L (g_nu G)) (g_np G)) (fun t => t = nI (g_pa G W L)) (fun r s hI => ?_) fg_fu (g_pa G W L) (nI W, nI 0) ⟨W, rfl, ⟨g_sub_rfl W, fun i j _ _ _ h _ => h⟩, by show nI 0 = nI (g_pa G W L - g_pa G W L); rw [Nat.sub_self], Nat.le_refl _, rfl⟩ (fg_fu_lt (by have : g_pa G W L ≤ g_np G := dle W; omega))) (fun t ht => ?_)
  · obtain ⟨rv, nv⟩ := s
    obtain ⟨R, e1, hR, e2, hle, hr⟩ := hI
    have e1 : rv = nI R := e1
    have e2 : nv = _ := e2
    subst e1
    subst e2
    have hRn : R < 2 ^ g_nu G := g_lt_of (fun i hi => g_tb_lt hW.1 (hR.1 i hi))
    by_cases z : R = 0
    · subst z
      have d0 : g_dl G 0 (g_gl G L (g_nu G)) (g_np G) = 0 := by
        have : ∀ n, g_dl G 0 (g_gl G L (g_nu G)) n = 0 := by
          intro n
          induction n with
          | zero => rfl
          | succ n ih =>
            show g_dl G 0 _ n + g_if _ = 0
            rw [ih, g_if0]
            rw [g_us_c]
            rintro ⟨i, -, i2, -⟩
            rw [Nat.zero_testBit] at i2
            cases i2
        exact this _
      refine Or.inr ⟨nI (g_pa G W L - g_dl G 0 (g_gl G L (g_nu G)) (g_np G)), ?_, ?_⟩
      · unfold FX12_partsOf_b5
        rw [if_pos (show nI 0 = 0 from rfl)]
      · show nI (g_pa G W L - g_dl G 0 _ _) = _
        rw [d0, Nat.sub_zero]
    · obtain ⟨k, Q, k1, k2, c1, c2, c3, c4, c5⟩ := tf_first hV hg hG hRn z (body := FX12_partsOf_b18_L5 m mu (nI g) (nI W) (nI R) (nI (g_pa G W L - g_dl G R (g_gl G L (g_nu G)) (g_np G)))) (fun s => rfl)
      have kn := g_tb_lt hRn k1
      have hp := g_part hW hR kn k1 c2 c3 c4 c5
      have hm := g_dl_mi hG hW hR kn k1 hp
      refine Or.inl ⟨(nI (g_mi R Q), nI (g_pa G W L - g_dl G (g_mi R Q) (g_gl G L (g_nu G)) (g_np G))), g_dl G (g_mi R Q) (g_gl G L (g_nu G)) (g_np G), ?_, by omega, _, rfl, g_un_mi q0.2.1 hW hR hp, rfl, by omega, rfl⟩
      unfold FX12_partsOf_b5
      dsimp only
      rw [if_neg (fun y => z ((fn_eq0 (show R < 2 ^ 31 by omega)).mp y)), c1, fg_bd_s, fn_not, fa_and, fn_add]
      congr 3
      congr 1
      omega
  · obtain ⟨h1, h2⟩ := ht
    rw [h1, h2]
    rfl
