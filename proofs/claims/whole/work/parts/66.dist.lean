/-! FAR (own): distances; the model's matrix, walks, the class's rounds -/
def ds_E (G : bs_G) : Nat → Nat → Nat → Nat
  | 0, p, q => if p = q then 0 else 1000000
  | n + 1, p, q => if (p = g_fr G n ∧ q = g_to G n) ∨ (p = g_to G n ∧ q = g_fr G n) then min (ds_E G n p q) (g_le G n) else ds_E G n p q
def ds_M (G : bs_G) : Nat → Nat → Nat → Nat
  | 0, p, q => ds_E G (g_nu G) p q
  | k + 1, p, q => min (ds_M G k p q) (ds_M G k p k + ds_M G k k q)
theorem ds_E_pp (G : bs_G) (n p : Nat) : ds_E G n p p = 0 := by
  induction n with
  | zero => exact if_pos rfl
  | succ n ih => rw [ds_E]; split <;> omega
theorem ds_E_sy (G : bs_G) (n p q : Nat) : ds_E G n p q = ds_E G n q p := by
  induction n with
  | zero =>
    show (if p = q then 0 else 1000000) = (if q = p then 0 else 1000000)
    by_cases h : p = q
    · rw [if_pos h, if_pos h.symm]
    · rw [if_neg h, if_neg (fun z => h z.symm)]
  | succ n ih =>
    rw [ds_E, ds_E, ih]
    by_cases h : (p = g_fr G n ∧ q = g_to G n) ∨ (p = g_to G n ∧ q = g_fr G n)
    · rw [if_pos h, if_pos (by rcases h with ⟨a, b⟩ | ⟨a, b⟩; exact Or.inr ⟨b, a⟩; exact Or.inl ⟨b, a⟩)]
    · rw [if_neg h, if_neg (fun z => h (by rcases z with ⟨a, b⟩ | ⟨a, b⟩; exact Or.inr ⟨b, a⟩; exact Or.inl ⟨b, a⟩))]
theorem ds_E_st (G : bs_G) (n p q : Nat) : ds_E G (n + 1) p q ≤ ds_E G n p q := by
  rw [ds_E]; split <;> omega
theorem ds_E_mn (G : bs_G) (p q : Nat) : ∀ r n, ds_E G (n + r) p q ≤ ds_E G n p q := by
  intro r
  induction r with
  | zero => intro n; exact Nat.le_refl _
  | succ r ih => intro n; exact Nat.le_trans (ds_E_st G (n + r) p q) (ih n)
theorem ds_E_le (G : bs_G) (n p q : Nat) : ds_E G n p q ≤ 1000000 := by
  have h := ds_E_mn G p q n 0
  rw [Nat.zero_add] at h
  refine Nat.le_trans h ?_
  show (if p = q then 0 else 1000000) ≤ _
  split <;> omega
theorem ds_E_ed {G : bs_G} {i : Nat} (hi : i < g_nu G) : ds_E G (g_nu G) (g_fr G i) (g_to G i) ≤ g_le G i := by
  have h := ds_E_mn G (g_fr G i) (g_to G i) (g_nu G - (i + 1)) (i + 1)
  rw [show i + 1 + (g_nu G - (i + 1)) = g_nu G by omega] at h
  refine Nat.le_trans h ?_
  rw [ds_E, if_pos (Or.inl ⟨rfl, rfl⟩)]
  omega
theorem ds_M_st (G : bs_G) (k p q : Nat) : ds_M G (k + 1) p q ≤ ds_M G k p q := by rw [ds_M]; omega
theorem ds_M_le0 (G : bs_G) (k p q : Nat) : ds_M G k p q ≤ ds_E G (g_nu G) p q := by
  induction k with
  | zero => exact Nat.le_refl _
  | succ k ih => exact Nat.le_trans (ds_M_st G k p q) ih
theorem ds_M_le (G : bs_G) (k p q : Nat) : ds_M G k p q ≤ 1000000 := Nat.le_trans (ds_M_le0 G k p q) (ds_E_le G _ p q)
theorem ds_M_pp (G : bs_G) (k p : Nat) : ds_M G k p p = 0 := by
  have h := ds_M_le0 G k p p
  rw [ds_E_pp] at h
  omega
theorem ds_M_tri (G : bs_G) : ∀ k r, r < k → ∀ p q, ds_M G k p q ≤ ds_M G k p r + ds_M G k r q := by
  intro k
  induction k with
  | zero => intro r h; omega
  | succ k ih =>
    intro r hr p q
    have kk := ds_M_pp G k k
    by_cases e : r = k
    · subst e
      rw [ds_M, ds_M, ds_M, kk]
      omega
    · have t1 := ih r (by omega) p q
      have t2 := ih r (by omega) p k
      have t3 := ih r (by omega) k q
      rw [ds_M, ds_M, ds_M]
      omega
def ds_F (G : bs_G) (p q : Nat) : Nat := ds_M G (g_np G) p q
theorem ds_F_tri {G : bs_G} {r : Nat} (hr : r < g_np G) (p q : Nat) : ds_F G p q ≤ ds_F G p r + ds_F G r q := ds_M_tri G _ r hr p q
theorem ds_F_ed {G : bs_G} {i : Nat} (hi : i < g_nu G) : ds_F G (g_fr G i) (g_to G i) ≤ g_le G i ∧ ds_F G (g_to G i) (g_fr G i) ≤ g_le G i := by
  have h := ds_E_ed hi
  refine ⟨Nat.le_trans (ds_M_le0 G _ _ _) h, Nat.le_trans (ds_M_le0 G _ _ _) ?_⟩
  rw [ds_E_sy]
  exact h
/-- an edge from r to q -/
def ds_e (G : bs_G) (i r q : Nat) : Prop := i < g_nu G ∧ ((g_fr G i = r ∧ g_to G i = q) ∨ (g_to G i = r ∧ g_fr G i = q))
def ds_w (G : bs_G) (s : Nat) : Nat → Nat → Nat → Prop
  | 0, q, w => q = s ∧ w = 0
  | n + 1, q, w => ∃ r v i, ds_w G s n r v ∧ ds_e G i r q ∧ w = v + g_le G i
theorem ds_e_F {G : bs_G} {i r q : Nat} (h : ds_e G i r q) : ds_F G r q ≤ g_le G i := by
  have e := ds_F_ed h.1
  rcases h.2 with ⟨a, b⟩ | ⟨a, b⟩
  · rw [← a, ← b]; exact e.1
  · rw [← a, ← b]; exact e.2
theorem ds_e_np {G : bs_G} (hG : g_ok G) {i r q : Nat} (h : ds_e G i r q) : r < g_np G ∧ q < g_np G := by
  have b := g_bd hG h.1
  rcases h.2 with ⟨a, c⟩ | ⟨a, c⟩
  · rw [← a, ← c]; exact ⟨b.1, b.2.1⟩
  · rw [← a, ← c]; exact ⟨b.2.1, b.1⟩
theorem ds_w_F {G : bs_G} (hG : g_ok G) {s : Nat} : ∀ n q w, ds_w G s n q w → ds_F G s q ≤ w := by
  intro n
  induction n with
  | zero =>
    rintro q w ⟨rfl, rfl⟩
    exact Nat.le_of_eq (ds_M_pp G _ _)
  | succ n ih =>
    rintro q w ⟨r, v, i, h1, h2, rfl⟩
    have a := ih r v h1
    have b := ds_e_F h2
    have c := ds_F_tri (ds_e_np hG h2).1 s q
    omega
theorem ds_w_c {G : bs_G} {s r : Nat} : ∀ m n q v u, ds_w G s n r v → ds_w G r m q u → ds_w G s (n + m) q (v + u) := by
  intro m
  induction m with
  | zero =>
    rintro n q v u h ⟨rfl, rfl⟩
    exact h
  | succ m ih =>
    rintro n q v u h ⟨t, y, i, h1, h2, rfl⟩
    exact ⟨t, v + y, i, ih n t v y h h1, h2, by omega⟩
theorem ds_w_E {G : bs_G} {p q : Nat} : ∀ n, n ≤ g_nu G → ds_E G n p q < 1000000 → ∃ k, ds_w G p k q (ds_E G n p q) := by
  intro n
  induction n with
  | zero =>
    intro _ h
    have h : (if p = q then 0 else 1000000) < 1000000 := h
    by_cases e : p = q
    · refine ⟨0, e.symm, ?_⟩
      show (if p = q then 0 else 1000000) = 0
      rw [if_pos e]
    · rw [if_neg e] at h; omega
  | succ n ih =>
    intro hn h
    rw [ds_E] at h ⊢
    by_cases c : (p = g_fr G n ∧ q = g_to G n) ∨ (p = g_to G n ∧ q = g_fr G n)
    · rw [if_pos c] at h ⊢
      by_cases d : ds_E G n p q ≤ g_le G n
      · rw [Nat.min_eq_left d] at h ⊢
        exact ih (by omega) h
      · rw [Nat.min_eq_right (by omega)]
        refine ⟨1, p, 0, n, ⟨rfl, rfl⟩, ⟨by omega, ?_⟩, by omega⟩
        rcases c with ⟨a, b⟩ | ⟨a, b⟩
        · exact Or.inl ⟨a.symm, b.symm⟩
        · exact Or.inr ⟨a.symm, b.symm⟩
    · rw [if_neg c] at h ⊢
      exact ih (by omega) h
theorem ds_w_M {G : bs_G} : ∀ k p q, ds_M G k p q < 1000000 → ∃ n, ds_w G p n q (ds_M G k p q) := by
  intro k
  induction k with
  | zero => intro p q h; exact ds_w_E _ (Nat.le_refl _) h
  | succ k ih =>
    intro p q h
    rw [ds_M] at h ⊢
    by_cases d : ds_M G k p q ≤ ds_M G k p k + ds_M G k k q
    · rw [Nat.min_eq_left d] at h ⊢
      exact ih p q h
    · rw [Nat.min_eq_right (by omega)] at h ⊢
      obtain ⟨n1, w1⟩ := ih p k (by omega)
      obtain ⟨n2, w2⟩ := ih k q (by omega)
      exact ⟨n1 + n2, ds_w_c _ _ _ _ _ w1 w2⟩
theorem ds_w_np {G : bs_G} (hG : g_ok G) {s : Nat} (hs : s < g_np G) : ∀ n q w, ds_w G s n q w → q < g_np G := by
  intro n
  cases n with
  | zero => rintro q w ⟨rfl, -⟩; exact hs
  | succ n => rintro q w ⟨r, v, i, h1, h2, -⟩; exact (ds_e_np hG h2).2
/-- how many points lie nearer than t -/
def ds_n (G : bs_G) (s t : Nat) : Nat := g_sm (fun v => g_if (ds_F G s v < t)) (g_np G)
theorem ds_n_lt {G : bs_G} {s r t : Nat} (hr : r < g_np G) (h : ds_F G s r < t) : ds_n G s (ds_F G s r) + 1 ≤ ds_n G s t := by
  unfold ds_n
  have : ∀ n, r < n → g_sm (fun v => g_if (ds_F G s v < ds_F G s r)) n + 1 ≤ g_sm (fun v => g_if (ds_F G s v < t)) n := by
    intro n
    induction n with
    | zero => intro h; omega
    | succ n ih =>
      intro hn
      simp only [g_sm]
      by_cases e : r = n
      · subst e
        have m := g_sm_mono (h := fun v => g_if (ds_F G s v < ds_F G s r)) (k := fun v => g_if (ds_F G s v < t)) r (fun i _ => by
          by_cases c : ds_F G s i < ds_F G s r
          · rw [g_if1 c, g_if1 (show ds_F G s i < t by omega)]; exact Nat.le_refl _
          · rw [g_if0 c]; exact Nat.zero_le _)
        rw [g_if0 (Nat.lt_irrefl _), g_if1 h]
        omega
      · have := ih (by omega)
        have : g_if (ds_F G s n < ds_F G s r) ≤ g_if (ds_F G s n < t) := by
          by_cases c : ds_F G s n < ds_F G s r
          · rw [g_if1 c, g_if1 (show ds_F G s n < t by omega)]; exact Nat.le_refl _
          · rw [g_if0 c]; exact Nat.zero_le _
        omega
  exact this _ hr
/-- along a best walk all is best -/
theorem ds_best {G : bs_G} (hG : g_ok G) {s n q r v i : Nat} (h1 : ds_w G s n r v) (h2 : ds_e G i r q) (h3 : ds_F G s q = v + g_le G i) : ds_F G s r = v := by
  have a := ds_w_F hG n r v h1
  have b := ds_e_F h2
  have c := ds_F_tri (ds_e_np hG h2).1 s q
  omega
theorem ds_bd {G : bs_G} (hG : g_ok G) {s : Nat} : ∀ n q w, ds_w G s n q w → ds_F G s q = w → w ≤ 720 * ds_n G s w := by
  intro n
  induction n with
  | zero => rintro q w ⟨rfl, rfl⟩ _; exact Nat.zero_le _
  | succ n ih =>
    rintro q w ⟨r, v, i, h1, h2, rfl⟩ hq
    have hr := ds_best hG h1 h2 hq
    have a := ih r v h1 hr
    have b := g_bd hG h2.1
    by_cases z : g_le G i = 0
    · rw [z, Nat.add_zero]; exact a
    · have := ds_n_lt (t := v + g_le G i) (ds_e_np hG h2).1 (by rw [hr]; omega)
      rw [hr] at this
      omega
theorem ds_fin {G : bs_G} (hG : g_ok G) {s : Nat} : ∀ n q w, ds_w G s n q w → ds_F G s q ≤ 21600 := by
  have q0 := g_bn hG
  have big : ∀ q, ds_F G s q < 1000000 → ds_F G s q ≤ 21600 := by
    intro q h
    obtain ⟨n, hn⟩ := ds_w_M (g_np G) s q h
    have a := ds_bd hG n q _ hn rfl
    have b : ds_n G s (ds_M G (g_np G) s q) ≤ g_np G := g_sm1 (fun _ => g_if_le _) _
    have e : ds_F G s q = ds_M G (g_np G) s q := rfl
    omega
  intro n
  induction n with
  | zero =>
    rintro q w ⟨rfl, rfl⟩
    have : ds_F G q q = 0 := ds_M_pp G _ _
    omega
  | succ n ih =>
    rintro q w ⟨r, v, i, h1, h2, rfl⟩
    have a := ih r v h1
    have b := ds_e_F h2
    have c := ds_F_tri (ds_e_np hG h2).1 s q
    have d := g_bd hG h2.1
    exact big q (by omega)
/-- the class's row: nothing, or a length -/
def ds_sh (A : Nat → Option Nat) (a b l : Nat) : Option Nat := match A a, A b with
  | none, _ => none
  | some v, none => some (v + l)
  | some v, some w => if v + l < w then some (v + l) else none
/-- the row behind a try to shorten, and whether it did -/
def ds_r (A : Nat → Option Nat) (a b l : Nat) : Nat → Option Nat := match ds_sh A a b l with
  | none => A
  | some v => fun q => if q = b then some v else A q
def ds_c (A : Nat → Option Nat) (a b l : Nat) : Nat := match ds_sh A a b l with
  | none => 0
  | some _ => 1
theorem ds_sh_n {A : Nat → Option Nat} {a b l : Nat} (h : ds_sh A a b l = none) : ds_r A a b l = A ∧ ds_c A a b l = 0 := by
  unfold ds_r ds_c
  rw [h]
  exact ⟨rfl, rfl⟩
theorem ds_sh_s {A : Nat → Option Nat} {a b l v : Nat} (h : ds_sh A a b l = some v) : ds_r A a b l = (fun q => if q = b then some v else A q) ∧ ds_c A a b l = 1 := by
  unfold ds_r ds_c
  rw [h]
  exact ⟨rfl, rfl⟩
/-- what it shortened to -/
theorem ds_sh_v {A : Nat → Option Nat} {a b l v : Nat} (h : ds_sh A a b l = some v) : ∃ u, A a = some u ∧ v = u + l ∧ ∀ w, A b = some w → u + l < w := by
  unfold ds_sh at h
  cases ha : A a with
  | none => rw [ha] at h; cases h
  | some u =>
    rw [ha] at h
    cases hb : A b with
    | none =>
      rw [hb] at h
      have h : some (u + l) = some v := h
      cases h
      exact ⟨u, rfl, rfl, fun w hw => (by cases hw)⟩
    | some w =>
      rw [hb] at h
      have h : (if u + l < w then some (u + l) else none) = some v := h
      by_cases c : u + l < w
      · rw [if_pos c] at h
        cases h
        exact ⟨u, rfl, rfl, fun w' hw => (by cases hw; exact c)⟩
      · rw [if_neg c] at h; cases h
theorem ds_sh_0 {A : Nat → Option Nat} {a b l u : Nat} (h : ds_sh A a b l = none) (ha : A a = some u) : ∃ w, A b = some w ∧ w ≤ u + l := by
  unfold ds_sh at h
  rw [ha] at h
  cases hb : A b with
  | none => rw [hb] at h; cases h
  | some w =>
    rw [hb] at h
    have h : (if u + l < w then some (u + l) else none) = none := h
    by_cases c : u + l < w
    · rw [if_pos c] at h; cases h
    · exact ⟨w, rfl, by omega⟩
/-- every length is a walk's -/
def ds_iv (G : bs_G) (s : Nat) (A : Nat → Option Nat) : Prop := (∀ q w, A q = some w → ∃ n, ds_w G s n q w) ∧ A s = some 0
theorem ds_iv_r {G : bs_G} {s a b i : Nat} {A : Nat → Option Nat} (h : ds_iv G s A) (he : ds_e G i a b) : ds_iv G s (ds_r A a b (g_le G i)) := by
  cases c : ds_sh A a b (g_le G i) with
  | none => rw [(ds_sh_n c).1]; exact h
  | some v =>
    rw [(ds_sh_s c).1]
    obtain ⟨u, u1, u2, u3⟩ := ds_sh_v c
    refine ⟨fun q w hq => ?_, ?_⟩
    · have hq : (if q = b then some v else A q) = some w := hq
      by_cases e : q = b
      · rw [if_pos e] at hq
        cases hq
        obtain ⟨n, hn⟩ := h.1 a u u1
        exact ⟨n + 1, a, u, i, hn, by rw [e]; exact he, u2⟩
      · rw [if_neg e] at hq
        exact h.1 q w hq
    · show (if s = b then some v else A s) = some 0
      by_cases e : s = b
      · have := u3 0 (by rw [← e]; exact h.2)
        omega
      · rw [if_neg e]; exact h.2
/-- settled -/
def ds_st (G : bs_G) (s : Nat) (A : Nat → Option Nat) (q : Nat) : Prop := A q = some (ds_F G s q)
theorem ds_st_r {G : bs_G} (hG : g_ok G) {s a b i q : Nat} {A : Nat → Option Nat} (h : ds_iv G s A) (he : ds_e G i a b) (hq : ds_st G s A q) : ds_st G s (ds_r A a b (g_le G i)) q := by
  cases c : ds_sh A a b (g_le G i) with
  | none => rw [(ds_sh_n c).1]; exact hq
  | some v =>
    rw [(ds_sh_s c).1]
    obtain ⟨u, u1, u2, u3⟩ := ds_sh_v c
    show (if q = b then some v else A q) = _
    by_cases e : q = b
    · subst e
      have := u3 _ hq
      obtain ⟨n, hn⟩ := h.1 a u u1
      have := ds_w_F hG (n + 1) q (u + g_le G i) ⟨a, u, i, hn, he, rfl⟩
      omega
    · rw [if_neg e]; exact hq
theorem ds_st_new {G : bs_G} (hG : g_ok G) {s a b i : Nat} {A : Nat → Option Nat} (h : ds_iv G s A) (he : ds_e G i a b) (ha : ds_st G s A a) (hb : ds_F G s b = ds_F G s a + g_le G i) : ds_st G s (ds_r A a b (g_le G i)) b := by
  cases c : ds_sh A a b (g_le G i) with
  | none =>
    rw [(ds_sh_n c).1]
    obtain ⟨w, w1, w2⟩ := ds_sh_0 c ha
    obtain ⟨n, hn⟩ := h.1 b w w1
    have := ds_w_F hG n b w hn
    show A b = some _
    rw [w1]
    congr 1
    omega
  | some v =>
    rw [(ds_sh_s c).1]
    obtain ⟨u, u1, u2, -⟩ := ds_sh_v c
    have ha : A a = some _ := ha
    rw [ha] at u1
    cases u1
    show (if b = b then some v else A b) = _
    rw [if_pos rfl, u2, hb]
/-- one round -/
def ds_p (G : bs_G) (A : Nat → Option Nat) : Nat → (Nat → Option Nat) × Nat
  | 0 => (A, 0)
  | n + 1 => (ds_r (ds_r (ds_p G A n).1 (g_fr G n) (g_to G n) (g_le G n)) (g_to G n) (g_fr G n) (g_le G n), ((ds_p G A n).2 ||| ds_c (ds_p G A n).1 (g_fr G n) (g_to G n) (g_le G n)) ||| ds_c (ds_r (ds_p G A n).1 (g_fr G n) (g_to G n) (g_le G n)) (g_to G n) (g_fr G n) (g_le G n))
theorem ds_e1 {G : bs_G} {n : Nat} (h : n < g_nu G) : ds_e G n (g_fr G n) (g_to G n) := ⟨h, Or.inl ⟨rfl, rfl⟩⟩
theorem ds_e2 {G : bs_G} {n : Nat} (h : n < g_nu G) : ds_e G n (g_to G n) (g_fr G n) := ⟨h, Or.inr ⟨rfl, rfl⟩⟩
theorem ds_p_iv {G : bs_G} {s : Nat} {A : Nat → Option Nat} (h : ds_iv G s A) : ∀ n, n ≤ g_nu G → ds_iv G s (ds_p G A n).1 := by
  intro n
  induction n with
  | zero => intro _; exact h
  | succ n ih => intro hn; exact ds_iv_r (ds_iv_r (ih (by omega)) (ds_e1 (by omega))) (ds_e2 (by omega))
theorem ds_p_st {G : bs_G} (hG : g_ok G) {s q : Nat} {A : Nat → Option Nat} (h : ds_iv G s A) (hq : ds_st G s A q) : ∀ n, n ≤ g_nu G → ds_st G s (ds_p G A n).1 q := by
  intro n
  induction n with
  | zero => intro _; exact hq
  | succ n ih =>
    intro hn
    have iv := ds_p_iv h n (by omega)
    exact ds_st_r hG (ds_iv_r iv (ds_e1 (by omega))) (ds_e2 (by omega)) (ds_st_r hG iv (ds_e1 (by omega)) (ih (by omega)))
theorem ds_p_new {G : bs_G} (hG : g_ok G) {s a b i : Nat} {A : Nat → Option Nat} (h : ds_iv G s A) (he : ds_e G i a b) (ha : ds_st G s A a) (hb : ds_F G s b = ds_F G s a + g_le G i) : ∀ n, i < n → n ≤ g_nu G → ds_st G s (ds_p G A n).1 b := by
  intro n
  induction n with
  | zero => intro h; omega
  | succ n ih =>
    intro hi hn
    have iv := ds_p_iv h n (by omega)
    have iv1 := ds_iv_r iv (ds_e1 (show n < g_nu G by omega))
    have sa := ds_p_st hG h ha n (by omega)
    by_cases e : i = n
    · subst e
      rcases he.2 with ⟨x, y⟩ | ⟨x, y⟩
      · have t := ds_st_new hG iv he sa hb
        subst x
        subst y
        exact ds_st_r hG iv1 (ds_e2 (by omega)) t
      · have sa1 := ds_st_r hG iv (ds_e1 (show i < g_nu G by omega)) sa
        have t := ds_st_new hG iv1 he sa1 hb
        subst x
        subst y
        exact t
    · exact ds_st_r hG iv1 (ds_e2 (by omega)) (ds_st_r hG iv (ds_e1 (by omega)) (ih (by omega) (by omega)))
theorem ds_p_01 (G : bs_G) (A : Nat → Option Nat) (n : Nat) : (ds_p G A n).2 = 0 ∨ (ds_p G A n).2 = 1 := by
  have k : ∀ A a b l, ds_c A a b l = 0 ∨ ds_c A a b l = 1 := by
    intro A a b l
    unfold ds_c
    split
    · exact Or.inl rfl
    · exact Or.inr rfl
  induction n with
  | zero => exact Or.inl rfl
  | succ n ih =>
    rw [ds_p]
    rcases ih with h1 | h1 <;> rcases k (ds_p G A n).1 (g_fr G n) (g_to G n) (g_le G n) with h2 | h2 <;> rcases k (ds_r (ds_p G A n).1 (g_fr G n) (g_to G n) (g_le G n)) (g_to G n) (g_fr G n) (g_le G n) with h3 | h3 <;> simp [h1, h2, h3]
theorem ds_p_0 {G : bs_G} {A : Nat → Option Nat} : ∀ n, (ds_p G A n).2 = 0 → (ds_p G A n).1 = A := by
  have k : ∀ A a b l, ds_c A a b l = 0 → ds_r A a b l = A := by
    intro A a b l h
    cases c : ds_sh A a b l with
    | none => exact (ds_sh_n c).1
    | some v => rw [(ds_sh_s c).2] at h; cases h
  intro n
  induction n with
  | zero => intro _; rfl
  | succ n ih =>
    intro h
    rw [ds_p] at h ⊢
    have h : ((ds_p G A n).2 ||| ds_c (ds_p G A n).1 (g_fr G n) (g_to G n) (g_le G n)) ||| ds_c (ds_r (ds_p G A n).1 (g_fr G n) (g_to G n) (g_le G n)) (g_to G n) (g_fr G n) (g_le G n) = 0 := h
    have h1 := Nat.or_eq_zero_iff.mp h
    have h2 := Nat.or_eq_zero_iff.mp h1.1
    show ds_r (ds_r (ds_p G A n).1 _ _ _) _ _ _ = A
    rw [k _ _ _ _ h1.2, k _ _ _ _ h2.2]
    exact ih h2.1
/-- how many are settled -/
def ds_ct (G : bs_G) (s : Nat) (A : Nat → Option Nat) : Nat := g_sm (fun q => g_if (A q = some (ds_F G s q))) (g_np G)
/-- all that can be reached is settled -/
def ds_al (G : bs_G) (s : Nat) (A : Nat → Option Nat) : Prop := ∀ n q w, ds_w G s n q w → ds_st G s A q
theorem ds_edge {G : bs_G} (hG : g_ok G) {s : Nat} {A : Nat → Option Nat} (h : ds_iv G s A) : ∀ n q w, ds_w G s n q w → ds_F G s q = w → ¬ ds_st G s A q → ∃ i a b, ds_e G i a b ∧ ds_st G s A a ∧ ¬ ds_st G s A b ∧ ds_F G s b = ds_F G s a + g_le G i := by
  intro n
  induction n with
  | zero =>
    rintro q w ⟨rfl, rfl⟩ hq hn
    refine absurd ?_ hn
    show A q = some (ds_F G q q)
    rw [hq]
    exact h.2
  | succ n ih =>
    rintro q w ⟨r, v, i, h1, h2, rfl⟩ hq hn
    have hr := ds_best hG h1 h2 hq
    by_cases c : ds_st G s A r
    · exact ⟨i, r, q, h2, c, hn, by rw [hr]; exact hq⟩
    · exact ih r v h1 hr c
theorem ds_round {G : bs_G} (hG : g_ok G) {s : Nat} (hs : s < g_np G) {A : Nat → Option Nat} (h : ds_iv G s A) (hn : ¬ ds_al G s A) : ds_ct G s A < ds_ct G s (ds_p G A (g_nu G)).1 ∧ (ds_p G A (g_nu G)).2 = 1 := by
  have : ∃ n q w, ds_w G s n q w ∧ ¬ ds_st G s A q := by
    apply Classical.byContradiction
    intro z
    apply hn
    intro n q w hw
    apply Classical.byContradiction
    intro y
    exact z ⟨n, q, w, hw, y⟩
  obtain ⟨n, q, w, hw, hq⟩ := this
  have f := ds_fin hG n q w hw
  obtain ⟨n2, hn2⟩ := ds_w_M (g_np G) s q (show ds_M G (g_np G) s q < 1000000 from (by have e : ds_F G s q = ds_M G (g_np G) s q := rfl; omega))
  obtain ⟨i, a, b, e1, e2, e3, e4⟩ := ds_edge hG h n2 q _ hn2 rfl hq
  have nw := ds_p_new hG h e1 e2 e4 (g_nu G) e1.1 (Nat.le_refl _)
  have hb := (ds_e_np hG e1).2
  constructor
  · have lt : ∀ n, b < n → g_sm (fun q => g_if (A q = some (ds_F G s q))) n < g_sm (fun q => g_if ((ds_p G A (g_nu G)).1 q = some (ds_F G s q))) n := by
      have mn : ∀ n, g_sm (fun q => g_if (A q = some (ds_F G s q))) n ≤ g_sm (fun q => g_if ((ds_p G A (g_nu G)).1 q = some (ds_F G s q))) n := fun n => g_sm_mono n fun q _ => by
        by_cases c : A q = some (ds_F G s q)
        · rw [g_if1 c, g_if1 (show (ds_p G A (g_nu G)).1 q = some (ds_F G s q) from ds_p_st hG h c _ (Nat.le_refl _))]; exact Nat.le_refl _
        · rw [g_if0 c]; exact Nat.zero_le _
      intro n
      induction n with
      | zero => intro h; omega
      | succ n ih =>
        intro hn
        simp only [g_sm]
        by_cases e : b = n
        · subst e
          have := mn b
          rw [g_if0 (show ¬ A b = some (ds_F G s b) from e3), g_if1 (show (ds_p G A (g_nu G)).1 b = some (ds_F G s b) from nw)]
          omega
        · have := ih (by omega)
          have : g_if (A n = some (ds_F G s n)) ≤ g_if ((ds_p G A (g_nu G)).1 n = some (ds_F G s n)) := by
            by_cases c : A n = some (ds_F G s n)
            · rw [g_if1 c, g_if1 (show (ds_p G A (g_nu G)).1 n = some (ds_F G s n) from ds_p_st hG h c _ (Nat.le_refl _))]; exact Nat.le_refl _
            · rw [g_if0 c]; exact Nat.zero_le _
          omega
    exact lt _ hb
  · rcases ds_p_01 G A (g_nu G) with z | z
    · have := ds_p_0 _ z
      rw [this] at nw
      exact absurd nw e3
    · exact z
