/-! PLAIN (own): what it is -/
def g_iv (G : bs_G) : Prop := g_ok G ∧ g_ch G ∧ g_np G ≤ g_nb G + g_nu G ∧ ∀ i, i < g_nu G → 1 ≤ g_le G i
theorem g_sm_up (h : Nat → Nat) (m : Nat) : ∀ r, g_sm h m ≤ g_sm h (m + r) := by
  intro r
  induction r with
  | zero => exact Nat.le_refl _
  | succ r ih => exact Nat.le_trans ih (Nat.le_add_right _ _)
theorem g_sm_ul (h : Nat → Nat) {m n : Nat} (e : m ≤ n) : g_sm h m ≤ g_sm h n := by
  have := g_sm_up h m (n - m)
  rw [show m + (n - m) = n by omega] at this
  exact this
theorem g_sm2 {h : Nat → Nat} {a b n : Nat} (h1 : a < b) (h2 : b < n) : h a + h b ≤ g_sm h n := by
  have x := g_sm_one (h := h) h1
  have y := g_sm_ul h (show b + 1 ≤ n by omega)
  have z : g_sm h (b + 1) = g_sm h b + h b := rfl
  omega
theorem g_sm3 {h : Nat → Nat} {a b c n : Nat} (h1 : a < b) (h2 : b < c) (h3 : c < n) : h a + h b + h c ≤ g_sm h n := by
  have x := g_sm2 (h := h) h1 h2
  have y := g_sm_ul h (show c + 1 ≤ n by omega)
  have z : g_sm h (c + 1) = g_sm h c + h c := rfl
  omega
theorem g_bo_mo {G : bs_G} (hG : g_ok G) : ∀ r i, i + r < g_nu G → g_bo G i ≤ g_bo G (i + r) := by
  intro r
  induction r with
  | zero => intro i _; exact Nat.le_refl _
  | succ r ih =>
    intro i h
    exact Nat.le_trans (ih i (by omega)) (hG.2.2.2.2.2.2.2 (i + r) h)
theorem g_bo_ml {G : bs_G} (hG : g_ok G) {i k : Nat} (h : i ≤ k) (hk : k < g_nu G) : g_bo G i ≤ g_bo G k := by
  have := g_bo_mo hG (k - i) i (by omega)
  rw [show i + (k - i) = k by omega] at this
  exact this
theorem g_sl01 (G : bs_G) (i : Nat) : g_sl G i = 0 ∨ g_sl G i = 1 := by
  have := g_sl_le G i
  omega
theorem g_sly {G : bs_G} {i : Nat} (h : g_sl G i = 1) : g_tw G i = 1 ∧ i + 1 < g_nu G ∧ g_bo G i = g_bo G (i + 1) ∧ g_en G (g_to G i) < 3 := by
  have z : g_tw G i = 1 ∧ g_en G (g_to G i) < 3 := by
    apply Classical.byContradiction
    intro c
    unfold g_sl at h
    rw [g_if0 c] at h
    omega
  have t := g_tw_in (G := G) (i := i) (by omega)
  exact ⟨z.1, t.2.1, t.2.2, z.2⟩
/-- at a slack twist's point nothing else lies -/
theorem pl_end {G : bs_G} (hC : g_ch G) {j : Nat} (hj : g_sl G j = 1) {i : Nat} (hi : i < g_nu G) : (g_fr G i = g_to G j → i = j + 1) ∧ (g_to G i = g_to G j → i = j) := by
  obtain ⟨t1, t2, t3, t4⟩ := g_sly hj
  have c := hC j t1
  obtain ⟨H, hH⟩ : ∃ H : Nat → Nat, H = fun i => g_if (g_fr G i = g_to G j) + g_if (g_to G i = g_to G j) := ⟨_, rfl⟩
  have hv : ∀ k, H k = g_if (g_fr G k = g_to G j) + g_if (g_to G k = g_to G j) := fun k => by rw [hH]
  have t4 : g_sm H (g_nu G) < 3 := by rw [hH]; exact t4
  have hf : ∀ k, g_fr G k = g_to G j → 1 ≤ H k := fun k hk => by
    rw [hv, g_if1 hk]
    omega
  have ht : ∀ k, g_to G k = g_to G j → 1 ≤ H k := fun k hk => by
    rw [hv, g_if1 hk]
    omega
  have bj := ht j rfl
  have bk := hf (j + 1) c
  have other : ∀ k, k < g_nu G → k ≠ j → k ≠ j + 1 → ¬ 1 ≤ H k := by
    intro k hk k1 k2 h
    by_cases y : k < j
    · have := g_sm3 (h := H) y (show j < j + 1 by omega) t2
      omega
    · have := g_sm3 (h := H) (show j < j + 1 by omega) (show j + 1 < k by omega) hk
      omega
  have two := g_sm2 (h := H) (show j < j + 1 by omega) t2
  refine ⟨fun e => ?_, fun e => ?_⟩
  · by_cases y : i = j + 1
    · exact y
    · exfalso
      by_cases z : i = j
      · subst z
        have v : H i = 2 := by
          rw [hv, g_if1 e, g_if1 rfl]
        omega
      · exact other i hi z y (hf i e)
  · by_cases y : i = j
    · exact y
    · exfalso
      by_cases z : i = j + 1
      · subst z
        have v : H (j + 1) = 2 := by
          rw [hv, g_if1 c, g_if1 e]
        omega
      · exact other i hi y z (ht i e)
/-- how many are kept of the first; what is merged; where it began; a kept one's value; a point gone; its new number -/
def pl_k (G : bs_G) : Nat → Nat := g_sm (fun i => 1 - g_sl G i)
def pl_m (G : bs_G) : Nat → Nat
  | 0 => 0
  | i + 1 => if g_sl G i = 1 then pl_m G i + g_le G i else 0
def pl_s (G : bs_G) : Nat → Nat
  | 0 => 0
  | i + 1 => if g_sl G i = 1 then pl_s G i else i + 1
def pl_r (G : bs_G) (v : Nat → Nat) (c : Nat) : Nat := g_sm (fun i => if g_sl G i = 0 ∧ pl_k G i = c then v i else 0) (g_nu G)
def pl_g (G : bs_G) (q : Nat) : Bool := g_ex (fun j => decide (g_sl G j = 1) && decide (g_to G j = q)) (g_nu G)
def pl_n (G : bs_G) : Nat → Nat := g_sm (fun q => g_if (pl_g G q = false))
theorem pl_k1 {G : bs_G} {i : Nat} (h : g_sl G i = 0) : pl_k G (i + 1) = pl_k G i + 1 := by
  show pl_k G i + (1 - g_sl G i) = _
  rw [h]
theorem pl_k0 {G : bs_G} {i : Nat} (h : g_sl G i = 1) : pl_k G (i + 1) = pl_k G i := by
  show pl_k G i + (1 - g_sl G i) = _
  rw [h]
  rfl
theorem pl_kl {G : bs_G} {i n : Nat} (h : i ≤ n) : pl_k G i ≤ pl_k G n := g_sm_ul _ h
theorem pl_kn (G : bs_G) (n : Nat) : pl_k G n ≤ n := g_sm1 (fun i => by show 1 - g_sl G i ≤ 1; omega) n
theorem pl_ke {G : bs_G} {i j : Nat} (hi : g_sl G i = 0) (hj : g_sl G j = 0) (h : pl_k G i = pl_k G j) : i = j := by
  by_cases a : i < j
  · have x := pl_kl (G := G) (show i + 1 ≤ j by omega)
    rw [pl_k1 hi] at x
    omega
  · by_cases b : j < i
    · have x := pl_kl (G := G) (show j + 1 ≤ i by omega)
      rw [pl_k1 hj] at x
      omega
    · omega
theorem pl_rv {G : bs_G} (v : Nat → Nat) {i : Nat} (hi : i < g_nu G) (hs : g_sl G i = 0) : pl_r G v (pl_k G i) = v i := by
  have e : pl_r G v (pl_k G i) = g_sm (fun j => if i = j then v j else 0) (g_nu G) := g_sm_cg _ fun j _ => by
    by_cases c : i = j
    · subst c
      rw [if_pos ⟨hs, rfl⟩, if_pos rfl]
    · rw [if_neg (fun z => c (pl_ke hs z.1 z.2.symm)), if_neg c]
  rw [e, g_sm_pt hi]
theorem pl_ix {G : bs_G} : ∀ n c, c < pl_k G n → ∃ i, i < n ∧ g_sl G i = 0 ∧ pl_k G i = c := by
  intro n
  induction n with
  | zero => intro c h; exact absurd h (Nat.not_lt_zero c)
  | succ n ih =>
    intro c h
    by_cases y : c < pl_k G n
    · obtain ⟨i, h1, h2⟩ := ih c y
      exact ⟨i, by omega, h2⟩
    · rcases g_sl01 G n with z | z
      · rw [pl_k1 z] at h
        exact ⟨n, by omega, z, by omega⟩
      · rw [pl_k0 z] at h
        omega
theorem pl_sn {G : bs_G} {i : Nat} (hi : g_sl G i = 0) : ∀ r, pl_k G (i + 1 + r) = pl_k G (i + 1) → pl_s G (i + 1 + r) = i + 1 := by
  intro r
  induction r with
  | zero =>
    intro _
    show (if g_sl G i = 1 then pl_s G i else i + 1) = i + 1
    rw [if_neg (by omega)]
  | succ r ih =>
    intro h
    have a := pl_kl (G := G) (show i + 1 ≤ i + 1 + r by omega)
    have b := pl_kl (G := G) (show i + 1 + r ≤ i + 1 + r + 1 by omega)
    rcases g_sl01 G (i + 1 + r) with z | z
    · have := pl_k1 z
      have h : pl_k G (i + 1 + r + 1) = pl_k G (i + 1) := h
      omega
    · have h : pl_k G (i + 1 + r + 1) = pl_k G (i + 1) := h
      show (if g_sl G (i + 1 + r) = 1 then pl_s G (i + 1 + r) else i + 1 + r + 1) = i + 1
      rw [if_pos z]
      exact ih (by omega)
theorem pl_nx {G : bs_G} {i : Nat} (hi : g_sl G i = 0) (h : pl_k G i + 1 < pl_k G (g_nu G)) : ∃ k, i < k ∧ k < g_nu G ∧ g_sl G k = 0 ∧ pl_k G k = pl_k G i + 1 ∧ pl_s G k = i + 1 := by
  obtain ⟨k, k1, k2, k3⟩ := pl_ix _ _ h
  have ik : i < k := by
    by_cases y : k ≤ i
    · have := pl_kl (G := G) y
      omega
    · omega
  refine ⟨k, ik, k1, k2, k3, ?_⟩
  have := pl_sn hi (k - (i + 1))
  rw [show i + 1 + (k - (i + 1)) = k by omega, pl_k1 hi] at this
  exact this k3
theorem pl_s0 {G : bs_G} : ∀ i, pl_s G i ≤ i ∧ (pl_s G i = 0 ∨ g_sl G (pl_s G i - 1) = 0) := by
  intro i
  induction i with
  | zero => exact ⟨Nat.le_refl _, Or.inl rfl⟩
  | succ i ih =>
    rw [pl_s]
    rcases g_sl01 G i with z | z
    · rw [if_neg (by omega)]
      exact ⟨Nat.le_refl _, Or.inr z⟩
    · rw [if_pos z]
      exact ⟨by omega, ih.2⟩
theorem pl_gc {G : bs_G} {q : Nat} : pl_g G q = true ↔ ∃ j, j < g_nu G ∧ g_sl G j = 1 ∧ g_to G j = q := by
  unfold pl_g
  rw [g_ex_c]
  constructor
  · rintro ⟨j, h1, h2⟩
    rw [Bool.and_eq_true, decide_eq_true_eq, decide_eq_true_eq] at h2
    exact ⟨j, h1, h2⟩
  · rintro ⟨j, h1, h2⟩
    exact ⟨j, h1, by rw [Bool.and_eq_true, decide_eq_true_eq, decide_eq_true_eq]; exact h2⟩
theorem pl_lt {G : bs_G} (hC : g_ch G) {i : Nat} (hi : i < g_nu G) (h : g_sl G i = 0) : pl_g G (g_to G i) = false := by
  refine Bool.eq_false_iff.mpr fun z => ?_
  obtain ⟨j, j1, j2, j3⟩ := pl_gc.mp z
  have := (pl_end hC j2 hi).2 j3.symm
  subst this
  omega
theorem pl_lf {G : bs_G} (hC : g_ch G) {i : Nat} (hi : i < g_nu G) : pl_g G (g_fr G (pl_s G i)) = false := by
  refine Bool.eq_false_iff.mpr fun z => ?_
  obtain ⟨j, j1, j2, j3⟩ := pl_gc.mp z
  obtain ⟨s1, s2⟩ := pl_s0 (G := G) i
  have e := (pl_end hC j2 (show pl_s G i < g_nu G by omega)).1 j3.symm
  rcases s2 with s | s
  · omega
  · rw [e, Nat.add_sub_cancel] at s
    omega
theorem pl_nl {G : bs_G} {p n : Nat} (h : p < n) (hg : pl_g G p = false) : pl_n G p < pl_n G n := by
  have a := g_sm_ul (fun q => g_if (pl_g G q = false)) (show p + 1 ≤ n by omega)
  have b : pl_n G (p + 1) = pl_n G p + g_if (pl_g G p = false) := rfl
  rw [g_if1 hg] at b
  have a : pl_n G (p + 1) ≤ pl_n G n := a
  omega
/-- hands, as bubbles come -/
def g_pf (T : bs_G) (n : Nat) : bs_G := ((g_nb T, n, g_np T, 0), T.2)
def g_hn (T : bs_G) : Nat → Nat
  | 0 => 0
  | n + 1 => max (g_hn T n) (g_sm (g_sl (g_pf T (n + 1))) (n + 1))
theorem g_hn_le (T : bs_G) : ∀ n, g_hn T n ≤ n := by
  intro n
  induction n with
  | zero => exact Nat.le_refl _
  | succ n ih =>
    have := g_sm1 (h := g_sl (g_pf T (n + 1))) (fun i => g_sl_le _ i) (n + 1)
    rw [g_hn]
    omega
def pl_T0 (G : bs_G) : bs_G := ((g_nb G, pl_k G (g_nu G), pl_n G (g_np G), 0), g_so G, pl_r G (fun i => pl_m G i + g_le G i), pl_r G (fun i => pl_n G (g_fr G (pl_s G i))), pl_r G (fun i => pl_n G (g_to G i)), pl_r G (g_bo G))
def pl_T (G : bs_G) : bs_G := ((g_nb G, pl_k G (g_nu G), pl_n G (g_np G), g_hn (pl_T0 G) (pl_k G (g_nu G))), (pl_T0 G).2)
theorem pl_Tle {G : bs_G} {i : Nat} (hi : i < g_nu G) (h : g_sl G i = 0) : g_le (pl_T G) (pl_k G i) = pl_m G i + g_le G i := pl_rv _ hi h
theorem pl_Tfr {G : bs_G} {i : Nat} (hi : i < g_nu G) (h : g_sl G i = 0) : g_fr (pl_T G) (pl_k G i) = pl_n G (g_fr G (pl_s G i)) := pl_rv _ hi h
theorem pl_Tto {G : bs_G} {i : Nat} (hi : i < g_nu G) (h : g_sl G i = 0) : g_to (pl_T G) (pl_k G i) = pl_n G (g_to G i) := pl_rv _ hi h
theorem pl_Tbo {G : bs_G} {i : Nat} (hi : i < g_nu G) (h : g_sl G i = 0) : g_bo (pl_T G) (pl_k G i) = g_bo G i := pl_rv _ hi h
theorem pl_sum {G : bs_G} (b : Nat) : ∀ n, n ≤ g_nu G → g_sm (fun c => if g_bo (pl_T G) c = b then g_le (pl_T G) c else 0) (pl_k G n) ≤ g_sm (fun i => if g_bo G i = b then g_le G i else 0) n ∧ (n < g_nu G → g_sm (fun c => if g_bo (pl_T G) c = b then g_le (pl_T G) c else 0) (pl_k G n) + (if g_bo G n = b then pl_m G n else 0) ≤ g_sm (fun i => if g_bo G i = b then g_le G i else 0) n) := by
  intro n
  induction n with
  | zero =>
    intro _
    refine ⟨Nat.zero_le _, fun _ => ?_⟩
    show 0 + (if g_bo G 0 = b then 0 else 0) ≤ 0
    split <;> omega
  | succ n ih =>
    intro hn
    obtain ⟨a1, a2⟩ := ih (by omega)
    have a2 := a2 (by omega)
    have s1 : g_sm (fun i => if g_bo G i = b then g_le G i else 0) (n + 1) = g_sm (fun i => if g_bo G i = b then g_le G i else 0) n + (if g_bo G n = b then g_le G n else 0) := rfl
    rcases g_sl01 G n with z | z
    · have s2 : g_sm (fun c => if g_bo (pl_T G) c = b then g_le (pl_T G) c else 0) (pl_k G n + 1) = g_sm (fun c => if g_bo (pl_T G) c = b then g_le (pl_T G) c else 0) (pl_k G n) + (if g_bo (pl_T G) (pl_k G n) = b then g_le (pl_T G) (pl_k G n) else 0) := rfl
      rw [pl_Tbo (by omega) z, pl_Tle (by omega) z] at s2
      rw [pl_k1 z, s1, s2, pl_m, if_neg (show ¬ g_sl G n = 1 by omega)]
      by_cases c : g_bo G n = b
      · rw [if_pos c, if_pos c]
        rw [if_pos c] at a2
        exact ⟨by omega, fun _ => by split <;> omega⟩
      · rw [if_neg c, if_neg c]
        exact ⟨by omega, fun _ => by split <;> omega⟩
    · have t := (g_sly z).2.2.1
      rw [pl_k0 z, s1, pl_m, if_pos z, ← t]
      by_cases c : g_bo G n = b
      · rw [if_pos c, if_pos c]
        rw [if_pos c] at a2
        exact ⟨by omega, fun _ => by omega⟩
      · rw [if_neg c, if_neg c]
        exact ⟨by omega, fun _ => by omega⟩
theorem pl_cnt {G : bs_G} (hG : g_ok G) (hC : g_ch G) : pl_n G (g_np G) + g_nu G ≤ g_np G + pl_k G (g_nu G) := by
  have e1 : ∀ n, pl_n G n + g_sm (fun q => g_if (pl_g G q = true)) n = n := by
    intro n
    induction n with
    | zero => rfl
    | succ n ih =>
      show pl_n G n + g_if (pl_g G n = false) + (g_sm (fun q => g_if (pl_g G q = true)) n + g_if (pl_g G n = true)) = n + 1
      cases c : pl_g G n with
      | true => rw [g_if0 (by decide), g_if1 rfl]; omega
      | false => rw [g_if1 rfl, g_if0 (by decide)]; omega
  have e2 : ∀ n, pl_k G n + g_sm (g_sl G) n = n := by
    intro n
    induction n with
    | zero => rfl
    | succ n ih =>
      have := g_sl_le G n
      show pl_k G n + (1 - g_sl G n) + (g_sm (g_sl G) n + g_sl G n) = n + 1
      omega
  have e3 : g_sm (g_sl G) (g_nu G) ≤ g_sm (fun q => g_if (pl_g G q = true)) (g_np G) := by
    have s : g_sm (g_sl G) (g_nu G) = g_sm (fun j => g_sm (fun q => g_if (g_sl G j = 1 ∧ g_to G j = q)) (g_np G)) (g_nu G) := g_sm_cg _ fun j hj => by
      have b := g_bd hG hj
      rcases g_sl01 G j with z | z
      · rw [z]
        exact (g_sm_z _ fun q _ => g_if0 (by omega)).symm
      · exact z.trans (al_s1 (P := fun q => g_sl G j = 1 ∧ g_to G j = q) (k := g_to G j) (fun q => ⟨fun h => h.2, fun h => ⟨z, h⟩⟩) b.2.1).symm
    rw [s, g_sm_swap (fun j q => g_if (g_sl G j = 1 ∧ g_to G j = q))]
    refine g_sm_mono _ fun q _ => ?_
    by_cases c : pl_g G q = true
    · rw [g_if1 c]
      obtain ⟨j, j1, j2, j3⟩ := pl_gc.mp c
      have : g_sm (fun i => g_if (g_sl G i = 1 ∧ g_to G i = q)) (g_nu G) = g_sm (fun i => if j = i then 1 else 0) (g_nu G) := g_sm_cg _ fun i hi => by
        by_cases d : j = i
        · subst d
          rw [g_if1 ⟨j2, j3⟩, if_pos rfl]
        · rw [if_neg d, g_if0 (fun h => d ((pl_end hC j2 hi).2 (by rw [h.2, j3])).symm)]
      rw [this, g_sm_pt (h := fun _ => 1) j1]
      exact Nat.le_refl _
    · rw [g_if0 c, g_sm_z _ (fun i hi => g_if0 (fun h => c (pl_gc.mpr ⟨i, hi, h.1, h.2⟩)))]
      exact Nat.le_refl _
  have a := e1 (g_np G)
  have b := e2 (g_nu G)
  omega
theorem pl_iv {G : bs_G} (h : g_iv G) : g_iv (pl_T G) := by
  obtain ⟨hG, hC, hn, hp⟩ := h
  have q0 := g_bn hG
  have kn := pl_kn G (g_nu G)
  have nn : pl_n G (g_np G) ≤ g_np G := g_sm1 (fun _ => g_if_le _) _
  have ct := pl_cnt hG hC
  have hh := g_hn_le (pl_T0 G) (pl_k G (g_nu G))
  refine ⟨⟨q0.1, show pl_k G (g_nu G) ≤ 24 by omega, show pl_n G (g_np G) ≤ 30 by omega, fun c hc => ?_, hG.2.2.2.2.1, fun b hb => ?_, show g_hn (pl_T0 G) (pl_k G (g_nu G)) ≤ 24 by omega, fun c hc => ?_⟩, fun c hc => ?_, show pl_n G (g_np G) ≤ g_nb G + pl_k G (g_nu G) by omega, fun c hc => ?_⟩
  · obtain ⟨i, i1, i2, i3⟩ := pl_ix _ c hc
    subst i3
    have s := (pl_s0 (G := G) i).1
    have b1 := g_bd hG (show pl_s G i < g_nu G by omega)
    have b2 := g_bd hG i1
    rw [pl_Tfr i1 i2, pl_Tto i1 i2, pl_Tbo i1 i2]
    exact ⟨pl_nl b1.1 (pl_lf hC i1), pl_nl b2.2.1 (pl_lt hC i1 i2), b2.2.2.1⟩
  · have := (pl_sum (G := G) b _ (Nat.le_refl _)).1
    have u := hG.2.2.2.2.2.1 b hb
    exact Nat.le_trans this u
  · obtain ⟨i, i1, i2, i3⟩ := pl_ix _ c (show c < pl_k G (g_nu G) from Nat.lt_of_succ_lt hc)
    subst i3
    obtain ⟨k, k1, k2, k3, k4, k5⟩ := pl_nx i2 hc
    rw [← k4, pl_Tbo i1 i2, pl_Tbo k2 k3]
    exact g_bo_ml hG (by omega) k2
  · obtain ⟨-, c2, c3⟩ := g_tw_in (G := pl_T G) (i := c) (by omega)
    have c2 : c + 1 < pl_k G (g_nu G) := c2
    obtain ⟨i, i1, i2, i3⟩ := pl_ix _ c (show c < pl_k G (g_nu G) by omega)
    subst i3
    obtain ⟨k, k1, k2, k3, k4, k5⟩ := pl_nx i2 c2
    rw [← k4, pl_Tbo i1 i2, pl_Tbo k2 k3] at c3
    have m1 := g_bo_ml hG (show i ≤ i + 1 by omega) (show i + 1 < g_nu G by omega)
    have m2 := g_bo_ml hG (show i + 1 ≤ k by omega) k2
    have tw : g_tw G i = 1 := g_if1 ⟨by omega, by omega⟩
    rw [← k4, pl_Tfr k2 k3, pl_Tto i1 i2, k5, hC i tw]
  · obtain ⟨i, i1, i2, i3⟩ := pl_ix _ c hc
    subst i3
    have := hp i i1
    rw [pl_Tle i1 i2]
    omega
