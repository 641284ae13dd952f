/-! ALIKE: two figures as nets that are one another -/
theorem g_if_c {p q : Prop} [Decidable p] [Decidable q] (h : p ↔ q) : g_if p = g_if q := by
  by_cases c : p
  · rw [g_if1 c, g_if1 (h.mp c)]
  · rw [g_if0 c, g_if0 (fun z => c (h.mpr z))]
/-- bubble i lies between p and q; how many of a length do, among the first n -/
abbrev al_q (G : bs_G) (p q i : Nat) : Prop := (g_fr G i = p ∧ g_to G i = q) ∨ (g_fr G i = q ∧ g_to G i = p)
def al_b (G : bs_G) (p q l : Nat) : Nat → Nat := g_sm (fun i => g_if (al_q G p q i ∧ g_le G i = l))
def al_e (G : bs_G) (p q : Nat) : Nat → Nat := g_sm (fun i => g_if (al_q G p q i))
theorem al_b_sy (G : bs_G) (p q l n : Nat) : al_b G p q l n = al_b G q p l n := g_sm_cg n fun i _ => g_if_c ⟨fun h => ⟨Or.symm h.1, h.2⟩, fun h => ⟨Or.symm h.1, h.2⟩⟩
theorem al_b_le (G : bs_G) (p q l n : Nat) : al_b G p q l n ≤ n := g_sm1 (fun _ => g_if_le _) n
theorem al_s1 {P : Nat → Prop} [∀ q, Decidable (P q)] {k n : Nat} (h : ∀ q, P q ↔ k = q) (hk : k < n) : g_sm (fun q => g_if (P q)) n = 1 := by
  have e : g_sm (fun q => g_if (P q)) n = g_sm (fun q => if k = q then 1 else 0) n := g_sm_cg n fun q _ => g_if_c (h q)
  rw [e]
  exact g_sm_pt (h := fun _ => 1) hk
theorem al_e_b {G : bs_G} (hG : g_ok G) (p q : Nat) : al_e G p q (g_nu G) = g_sm (fun l => al_b G p q l (g_nu G)) 721 := by
  have s := g_sm_swap (fun l i => g_if (al_q G p q i ∧ g_le G i = l)) 721 (g_nu G)
  refine Eq.trans ?_ s.symm
  refine g_sm_cg _ fun i hi => ?_
  have b := g_bd hG hi
  by_cases c : al_q G p q i
  · rw [g_if1 c]
    exact (al_s1 (P := fun l => al_q G p q i ∧ g_le G i = l) (k := g_le G i) (fun l => ⟨fun h => h.2, fun h => ⟨c, h⟩⟩) (by omega)).symm
  · rw [g_if0 c]
    exact (g_sm_z _ fun l _ => g_if0 (fun h => c h.1)).symm
theorem al_enq {G : bs_G} (hG : g_ok G) {i p : Nat} (hi : i < g_nu G) (hp : p < g_np G) : g_if (g_fr G i = p) + g_if (g_to G i = p) = g_sm (fun q => g_if (al_q G p q i)) (g_np G) + g_if (al_q G p p i) := by
  have b := g_bd hG hi
  have u : ∀ q, al_q G p q i ↔ ((g_fr G i = p ∧ g_to G i = q) ∨ (g_fr G i = q ∧ g_to G i = p)) := fun q => Iff.rfl
  by_cases a : g_fr G i = p
  · by_cases c : g_to G i = p
    · rw [g_if1 a, g_if1 c, g_if1 (show al_q G p p i from Or.inl ⟨a, c⟩), al_s1 (P := fun q => al_q G p q i) (k := p) (fun q => ⟨fun h => by have h := (u q).mp h; omega, fun h => Or.inl ⟨a, by omega⟩⟩) hp]
    · rw [g_if1 a, g_if0 c, g_if0 (show ¬ al_q G p p i by rw [u]; omega), al_s1 (P := fun q => al_q G p q i) (k := g_to G i) (fun q => ⟨fun h => by have h := (u q).mp h; omega, fun h => Or.inl ⟨a, h⟩⟩) b.2.1]
  · by_cases c : g_to G i = p
    · rw [g_if0 a, g_if1 c, g_if0 (show ¬ al_q G p p i by rw [u]; omega), al_s1 (P := fun q => al_q G p q i) (k := g_fr G i) (fun q => ⟨fun h => by have h := (u q).mp h; omega, fun h => Or.inr ⟨h, c⟩⟩) b.1]
    · rw [g_if0 a, g_if0 c, g_if0 (show ¬ al_q G p p i by rw [u]; omega), g_sm_z _ (fun q _ => g_if0 (show ¬ al_q G p q i by rw [u]; omega))]
theorem al_en {G : bs_G} (hG : g_ok G) {p : Nat} (hp : p < g_np G) : g_en G p = g_sm (fun q => al_e G p q (g_nu G)) (g_np G) + al_e G p p (g_nu G) := by
  have s := g_sm_swap (fun q i => g_if (al_q G p q i)) (g_np G) (g_nu G)
  have a := g_sm_add (fun i => g_sm (fun q => g_if (al_q G p q i)) (g_np G)) (fun i => g_if (al_q G p p i)) (g_nu G)
  have e : g_en G p = g_sm (fun i => g_sm (fun q => g_if (al_q G p q i)) (g_np G) + g_if (al_q G p p i)) (g_nu G) := g_sm_cg _ fun i hi => al_enq hG hi hp
  rw [e, a]
  show _ = g_sm (fun q => g_sm (fun i => g_if (al_q G p q i)) (g_nu G)) (g_np G) + _
  rw [s]
  rfl
theorem al_one {h : Nat → Nat} : ∀ n, (∀ i, i < n → h i ≤ 1) → g_sm h n = n → ∀ i, i < n → h i = 1 := by
  intro n
  induction n with
  | zero => intro _ _ i hi; omega
  | succ n ih =>
    intro h1 h2 i hi
    have b : g_sm h n ≤ n := by
      have : ∀ m, m ≤ n → g_sm h m ≤ m := by
        intro m
        induction m with
        | zero => intro _; exact Nat.le_refl _
        | succ m ihm =>
          intro hm
          have := ihm (by omega)
          have := h1 m (by omega)
          simp only [g_sm]
          omega
      exact this n (Nat.le_refl _)
    simp only [g_sm] at h2
    have hn := h1 n (by omega)
    by_cases e : i = n
    · subst e
      omega
    · exact ih (fun i hi => h1 i (by omega)) (by omega) i (by omega)
theorem al_c1 {s : Nat → Nat} {c n : Nat} (inj : ∀ p q, p < n → q < n → s p = s q → p = q) : ∀ m, m ≤ n → g_sm (fun q => g_if (s q = c)) m ≤ 1 ∧ ((∀ q, q < m → s q ≠ c) → g_sm (fun q => g_if (s q = c)) m = 0) := by
  intro m
  induction m with
  | zero => intro _; exact ⟨Nat.zero_le _, fun _ => rfl⟩
  | succ m ih =>
    intro hm
    obtain ⟨h1, h2⟩ := ih (by omega)
    simp only [g_sm]
    by_cases e : s m = c
    · have z := h2 (fun q hq hc => by have := inj q m (by omega) (by omega) (by rw [hc, e]); omega)
      rw [g_if1 e, z]
      exact ⟨by omega, fun h => absurd e (h m (by omega))⟩
    · rw [g_if0 e]
      refine ⟨by omega, fun h => ?_⟩
      rw [h2 (fun q hq => h q (by omega))]
theorem al_cn {s : Nat → Nat} {n : Nat} (lt : ∀ p, p < n → s p < n) (inj : ∀ p q, p < n → q < n → s p = s q → p = q) : ∀ c, c < n → g_sm (fun q => g_if (s q = c)) n = 1 := by
  refine al_one n (fun c _ => (al_c1 inj n (Nat.le_refl _)).1) ?_
  have w := g_sm_swap (fun c q => g_if (s q = c)) n n
  rw [w]
  have e : g_sm (fun q => g_sm (fun c => g_if (s q = c)) n) n = g_sm (fun _ => 1) n := g_sm_cg n fun q hq => al_s1 (P := fun c => s q = c) (k := s q) (fun c => Iff.rfl) (lt q hq)
  rw [e]
  have : ∀ m, g_sm (fun _ => 1) m = m := by
    intro m
    induction m with
    | zero => rfl
    | succ m ih => simp only [g_sm, ih]
  exact this n
/-- a sum over all points, in another order -/
theorem al_pm {s f : Nat → Nat} {n : Nat} (lt : ∀ p, p < n → s p < n) (inj : ∀ p q, p < n → q < n → s p = s q → p = q) : g_sm (fun q => f (s q)) n = g_sm f n := by
  have e : g_sm (fun q => f (s q)) n = g_sm (fun q => g_sm (fun c => if s q = c then f c else 0) n) n := g_sm_cg n fun q hq => (g_sm_pt (h := f) (lt q hq)).symm
  have w := g_sm_swap (fun q c => if s q = c then f c else 0) n n
  rw [e, w]
  refine g_sm_cg n fun c hc => ?_
  have k := al_cn lt inj c hc
  have : ∀ m, g_sm (fun q => if s q = c then f c else 0) m = g_sm (fun q => g_if (s q = c)) m * f c := by
    intro m
    induction m with
    | zero => simp [g_sm]
    | succ m ih =>
      simp only [g_sm, ih]
      by_cases z : s m = c
      · rw [if_pos z, g_if1 z, Nat.add_mul, Nat.one_mul]
      · rw [if_neg z, g_if0 z]
        rfl
  rw [this, k, Nat.one_mul]
/-- a matching of all points -/
def al_V (G H : bs_G) (s : Nat → Nat) : Prop := (∀ p, p < g_np G → s p < g_np G) ∧ (∀ p q, p < g_np G → q < g_np G → s p = s q → p = q) ∧ ∀ p q, p < g_np G → q < g_np G → ∀ l, al_b G p q l (g_nu G) = al_b H (s p) (s q) l (g_nu H)
theorem al_V_en {G H : bs_G} (hG : g_ok G) (hH : g_ok H) (hn : g_np G = g_np H) {s : Nat → Nat} (h : al_V G H s) {p : Nat} (hp : p < g_np G) : g_en G p = g_en H (s p) := by
  obtain ⟨h1, h2, h3⟩ := h
  have ee : ∀ q, q < g_np G → al_e G p q (g_nu G) = al_e H (s p) (s q) (g_nu H) := fun q hq => by
    rw [al_e_b hG, al_e_b hH]
    exact g_sm_cg _ fun l _ => h3 p q hp hq l
  have p2 := h1 p hp
  rw [al_en hG hp, al_en hH (show s p < g_np H by omega), ee p hp]
  have e : g_sm (fun q => al_e G p q (g_nu G)) (g_np G) = g_sm (fun q => al_e H (s p) (s q) (g_nu H)) (g_np G) := g_sm_cg _ ee
  rw [e, al_pm (f := fun q => al_e H (s p) q (g_nu H)) h1 h2, hn]
/-- the first of the rows that hold -/
def al_F (V : (Nat → Nat) → Prop) (n : Nat) (s : Nat → Nat) : Prop := V s ∧ ∀ t, V t → (∀ i, i < n → s i = t i) ∨ ∃ i, i < n ∧ (∀ j, j < i → s j = t j) ∧ s i < t i
theorem al_F_u {V : (Nat → Nat) → Prop} {n : Nat} {s t : Nat → Nat} (h : al_F V n s) (k : al_F V n t) : ∀ i, i < n → s i = t i := by
  rcases h.2 t k.1 with e | ⟨i, i1, i2, i3⟩
  · exact e
  · rcases k.2 s h.1 with e | ⟨j, j1, j2, j3⟩
    · exact fun i hi => (e i hi).symm
    · exfalso
      by_cases a : i < j
      · have := j2 i a
        omega
      · by_cases b : j < i
        · have := i2 j b
          omega
        · have : i = j := by omega
          subst this
          omega
/-- how a point d is held against q, once those ahead of d are matched -/
def al_T (G H : bs_G) (d q : Nat) (r : Nat → Nat) : Prop := (∀ l, al_b G d d l (g_nu G) = al_b H q q l (g_nu H)) ∧ ∀ p, p < d → ∀ l, al_b G d p l (g_nu G) = al_b H q (r p) l (g_nu H)
theorem al_VT {G H : bs_G} {s : Nat → Nat} (h : al_V G H s) {d : Nat} (hd : d < g_np G) : al_T G H d (s d) s := ⟨h.2.2 d d hd hd, fun p hp => h.2.2 d p hd (by omega)⟩
theorem al_TV {G H : bs_G} {r : Nat → Nat} (lt : ∀ d, d < g_np G → r d < g_np G) (inj : ∀ d j, j < d → d < g_np G → r j ≠ r d) (h : ∀ d, d < g_np G → al_T G H d (r d) r) : al_V G H r := by
  refine ⟨lt, fun p q hp hq e => ?_, fun p q hp hq l => ?_⟩
  · by_cases a : p < q
    · exact absurd e (inj q p a hq)
    · by_cases b : q < p
      · exact absurd e.symm (inj p q b hp)
      · omega
  · by_cases a : p = q
    · subst a
      exact (h p hp).1 l
    · by_cases b : q < p
      · exact (h p hp).2 q b l
      · have := (h q hq).2 p (by omega) l
        rw [al_b_sy, this, al_b_sy]
theorem al_T_cg {G H : bs_G} {d q : Nat} {r r' : Nat → Nat} (h : al_T G H d q r) (e : ∀ p, p < d → r p = r' p) : al_T G H d q r' := ⟨h.1, fun p hp l => by rw [← e p hp]; exact h.2 p hp l⟩
theorem al_V_cg {G H : bs_G} {r r' : Nat → Nat} (h : al_V G H r) (e : ∀ p, p < g_np G → r p = r' p) : al_V G H r' := by
  refine ⟨fun p hp => by rw [← e p hp]; exact h.1 p hp, fun p q hp hq => by rw [← e p hp, ← e q hq]; exact h.2.1 p q hp hq, fun p q hp hq l => by rw [← e p hp, ← e q hq]; exact h.2.2 p q hp hq l⟩
