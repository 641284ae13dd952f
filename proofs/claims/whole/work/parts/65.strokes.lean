/-! STROKES (own) -/
theorem g_sm_add (h k : Nat → Nat) (n : Nat) : g_sm (fun i => h i + k i) n = g_sm h n + g_sm k n := by
  induction n with
  | zero => rfl
  | succ n ih => simp only [g_sm]; rw [ih]; omega
theorem g_sm_z {h : Nat → Nat} : ∀ n, (∀ i, i < n → h i = 0) → g_sm h n = 0 := by
  intro n
  induction n with
  | zero => intro _; rfl
  | succ n ih => intro e; simp only [g_sm]; rw [ih (fun i hi => e i (by omega)), e n (by omega)]
theorem g_sm_swap (f : Nat → Nat → Nat) (n m : Nat) : g_sm (fun p => g_sm (f p) m) n = g_sm (fun i => g_sm (fun p => f p i) n) m := by
  induction n with
  | zero => exact (g_sm_z m fun i _ => rfl).symm
  | succ n ih =>
    show g_sm (fun p => g_sm (f p) m) n + g_sm (f n) m = _
    rw [ih, ← g_sm_add]
    rfl
theorem g_sm_pt {h : Nat → Nat} {k n : Nat} (hk : k < n) : g_sm (fun p => if k = p then h p else 0) n = h k := by
  have := g_sm_at (h := fun p => if k = p then h p else 0) (k := fun _ => 0) (i := k) (d := h k) (by show (if k = k then h k else 0) = _; rw [if_pos rfl, Nat.zero_add]) (fun j hj => by show (if k = j then h j else 0) = 0; rw [if_neg (fun z => hj z.symm)]) n hk
  rw [this, g_sm_z n (fun i _ => rfl), Nat.zero_add]
theorem g_sm_mod {h k : Nat → Nat} {q : Nat} : ∀ n, (∀ i, i < n → h i % q = k i % q) → g_sm h n % q = g_sm k n % q := by
  intro n
  induction n with
  | zero => intro _; rfl
  | succ n ih =>
    intro e
    simp only [g_sm]
    rw [Nat.add_mod, ih (fun i hi => e i (by omega)), e n (by omega), ← Nat.add_mod]
/-- the odd points that bear a label -/
def g_oc (G : bs_G) (lab : Nat → Nat) (c : Nat) : Nat → Nat := g_sm (fun p => if lab p = c then g_en G p % 2 else 0)
theorem g_oc_ev {G : bs_G} (hG : g_ok G) {lab : Nat → Nat} (hl : ∀ i, i < g_nu G → lab (g_fr G i) = lab (g_to G i)) (c : Nat) : g_oc G lab c (g_np G) % 2 = 0 := by
  have e1 : g_oc G lab c (g_np G) % 2 = g_sm (fun p => g_sm (fun i => (if g_fr G i = p then (if lab p = c then 1 else 0) else 0) + (if g_to G i = p then (if lab p = c then 1 else 0) else 0)) (g_nu G)) (g_np G) % 2 := by
    refine g_sm_mod _ fun p _ => ?_
    show (if lab p = c then g_en G p % 2 else 0) % 2 = _
    by_cases h : lab p = c
    · rw [if_pos h, Nat.mod_mod]
      congr 1
      refine g_sm_cg _ fun i _ => ?_
      rw [if_pos h]
      rfl
    · rw [if_neg h, g_sm_z]
      intro i _
      rw [if_neg h]
      split <;> split <;> rfl
  rw [e1, g_sm_swap]
  have e2 : g_sm (fun i => g_sm (fun p => (if g_fr G i = p then (if lab p = c then 1 else 0) else 0) + (if g_to G i = p then (if lab p = c then 1 else 0) else 0)) (g_np G)) (g_nu G) = g_sm (fun i => 2 * (if lab (g_fr G i) = c then 1 else 0)) (g_nu G) := by
    refine g_sm_cg _ fun i hi => ?_
    have b := g_bd hG hi
    rw [g_sm_add, g_sm_pt (h := fun p => if lab p = c then 1 else 0) b.1, g_sm_pt (h := fun p => if lab p = c then 1 else 0) b.2.1, hl i hi]
    omega
  rw [e2]
  have e3 : ∀ n, g_sm (fun i => 2 * (if lab (g_fr G i) = c then 1 else 0)) n % 2 = 0 := by
    intro n
    induction n with
    | zero => rfl
    | succ n ih => simp only [g_sm]; omega
  exact e3 _
theorem g_oc_sum {G : bs_G} {lab : Nat → Nat} (hl : ∀ p, p < g_np G → lab p < g_np G) : g_sm (fun c => g_oc G lab c (g_np G)) (g_np G) = g_sm (fun p => g_en G p % 2) (g_np G) := by
  unfold g_oc
  rw [g_sm_swap (fun c p => if lab p = c then g_en G p % 2 else 0)]
  refine g_sm_cg _ fun p hp => ?_
  exact g_sm_pt (h := fun _ => g_en G p % 2) (hl p hp)
/-- labels in use, weighed -/
def g_wl (G : bs_G) (R : Nat) (lab wt : Nat → Nat) : Nat → Nat := g_sm (fun c => if g_us G R lab c = true then wt c else 0)
theorem g_wl_mi {G : bs_G} (hG : g_ok G) {W L R Q k : Nat} (wt : Nat → Nat) (hW : g_co G W L) (hR : g_un G W L R) (hk : k < g_nu G) (k1 : R.testBit k = true) (hp : ∀ i, i < g_nu G → (Q.testBit i = true ↔ R.testBit i = true ∧ g_gl G L (g_nu G) (g_fr G i) = g_gl G L (g_nu G) (g_fr G k))) : g_wl G R (g_gl G L (g_nu G)) wt (g_np G) = g_wl G (g_mi R Q) (g_gl G L (g_nu G)) wt (g_np G) + wt (g_gl G L (g_nu G) (g_fr G k)) := by
  have q0 := g_bn hG
  have q1 : 2 ^ g_nu G ≤ 2 ^ 24 := Nat.pow_le_pow_right (by decide) q0.2.1
  have hR24 : R < 2 ^ 24 := Nat.lt_of_lt_of_le (g_lt_of (fun i hi => g_tb_lt hW.1 (hR.1 i hi))) q1
  have tb := g_mi_tb (Q := Q) hR24
  have wl : ∀ i, i < g_nu G → R.testBit i = true → g_gl G L (g_nu G) (g_fr G i) = g_gl G L (g_nu G) (g_to G i) := fun i hi h => g_gl_b ((g_co_f hW hi).mp (hR.1 i h)) _ hi
  have b := g_bd hG hk
  refine g_sm_at (i := g_gl G L (g_nu G) (g_fr G k)) ?_ (fun c hc => ?_) _ (g_gl_lt hG b.1 _ (Nat.le_refl _))
  · have u1 : g_us G R (g_gl G L (g_nu G)) (g_gl G L (g_nu G) (g_fr G k)) = true := g_us_c.mpr ⟨k, hk, k1, Or.inl rfl⟩
    have u2 : ¬ g_us G (g_mi R Q) (g_gl G L (g_nu G)) (g_gl G L (g_nu G) (g_fr G k)) = true := by
      rw [g_us_c]
      rintro ⟨i, i1, i2, i3⟩
      rw [tb, Bool.and_eq_true] at i2
      have e : g_gl G L (g_nu G) (g_fr G i) = g_gl G L (g_nu G) (g_fr G k) := by
        rcases i3 with h | h
        · exact h
        · rw [wl i i1 i2.1]; exact h
      have := (hp i i1).mpr ⟨i2.1, e⟩
      rw [this] at i2
      exact absurd i2.2 (by decide)
    rw [if_pos u1, if_neg u2, Nat.zero_add]
  · have e : g_us G R (g_gl G L (g_nu G)) c = true ↔ g_us G (g_mi R Q) (g_gl G L (g_nu G)) c = true := by
      rw [g_us_c, g_us_c]
      constructor
      · rintro ⟨i, i1, i2, i3⟩
        refine ⟨i, i1, ?_, i3⟩
        rw [tb, Bool.and_eq_true]
        refine ⟨i2, ?_⟩
        cases z : Q.testBit i with
        | false => rfl
        | true =>
          have e := ((hp i i1).mp z).2
          have w := wl i i1 i2
          rcases i3 with h | h
          · exact absurd (h.symm.trans e) hc
          · exact absurd (h.symm.trans (w.symm.trans e)) hc
      · rintro ⟨i, i1, i2, i3⟩
        rw [tb, Bool.and_eq_true] at i2
        exact ⟨i, i1, i2.1, i3⟩
    by_cases z : g_us G R (g_gl G L (g_nu G)) c = true
    · rw [if_pos z, if_pos (e.mp z)]
    · rw [if_neg z, if_neg (fun y => z (e.mpr y))]
theorem g_all_tb {G : bs_G} {i : Nat} (hi : i < g_nu G) : (2 ^ g_nu G - 1).testBit i = true := by
  rw [Nat.testBit_two_pow_sub_one, decide_eq_true_iff]
  exact hi
theorem g_all_co (G : bs_G) : g_co G (2 ^ g_nu G - 1) 0 := by
  have h := g_cm_co (G := G) (L := 0) (Nat.two_pow_pos _)
  unfold g_cm at h
  rwa [Nat.xor_zero] at h
/-- the labels of the whole figure -/
def g_la (G : bs_G) : Nat → Nat := g_gl G 0 (g_nu G)
theorem g_la_b {G : bs_G} {i : Nat} (hi : i < g_nu G) : g_la G (g_fr G i) = g_la G (g_to G i) := g_gl_b (Nat.zero_testBit i) _ hi
theorem g_la_lt {G : bs_G} (hG : g_ok G) {p : Nat} (hp : p < g_np G) : g_la G p < g_np G := g_gl_lt hG hp _ (Nat.le_refl _)
/-- STROKES of a label -/
def g_so1 (G : bs_G) (c : Nat) : Nat := if 1 < g_oc G (g_la G) c (g_np G) / 2 then g_oc G (g_la G) c (g_np G) / 2 else 1
def g_st (G : bs_G) : Nat := g_wl G (2 ^ g_nu G - 1) (g_la G) (g_so1 G) (g_np G)
theorem g_on_part {G : bs_G} (hG : g_ok G) {R Q k : Nat} (hR : g_un G (2 ^ g_nu G - 1) 0 R) (hk : k < g_nu G) (k1 : R.testBit k = true) (hp : ∀ i, i < g_nu G → (Q.testBit i = true ↔ R.testBit i = true ∧ g_la G (g_fr G i) = g_la G (g_fr G k))) : g_on G Q (g_np G) = g_oc G (g_la G) (g_la G (g_fr G k)) (g_np G) := by
  refine g_sm_cg _ fun p _ => ?_
  have hb : ∀ i, g_bt Q i = 1 ↔ Q.testBit i = true := fun i => by rw [g_bt_tb]
  by_cases h : g_la G p = g_la G (g_fr G k)
  · rw [if_pos h]
    congr 1
    refine g_sm_cg _ fun i hi => ?_
    by_cases z : Q.testBit i = true
    · rw [if_pos ((hb i).mpr z)]
    · rw [if_neg (fun y => z ((hb i).mp y))]
      have n : ∀ q, (g_fr G i = q ∨ g_to G i = q) → g_la G q = g_la G (g_fr G k) → False := by
        intro q hq hl
        have e : g_la G (g_fr G i) = g_la G (g_fr G k) := by
          rcases hq with hq | hq
          · rw [hq]; exact hl
          · rw [g_la_b hi, hq]; exact hl
        exact z ((hp i hi).mpr ⟨hR.2 k i hk hi k1 (g_all_tb hi) e.symm, e⟩)
      rw [g_if0 (fun y => n p (Or.inl y) h), g_if0 (fun y => n p (Or.inr y) h)]
  · rw [if_neg h]
    have : g_es G p Q (g_nu G) = 0 := by
      refine g_sm_z _ fun i hi => ?_
      by_cases z : Q.testBit i = true
      · rw [if_pos ((hb i).mpr z)]
        have e := ((hp i hi).mp z).2
        rw [g_if0 (fun y => h (by rw [← y]; exact e)), g_if0 (fun y => h (by rw [← y, ← g_la_b hi]; exact e))]
      · rw [if_neg (fun y => z ((hb i).mp y))]
    rw [this]
theorem fn_div2 {a : Nat} (ha : a < 2 ^ 31) : nI a / nI 2 = nI (a / 2) := pk_div ha (by decide) (by decide)
theorem tf_strokes {m fc g : Nat} {FG : Nat → bs_G} {mu : bs_Mm} (hF : mFG m fc FG mu) (hgf : g < fc) : FX12_strokes m mu (nI g) = some (nI (g_st (FG g))) := by
  have hf := hF.1
  have hV := (hF.2.2 g hgf).2
  have hG := (hF.2.2 g hgf).1
  have q0 := g_bn hG
  have hg : g < 13 := by omega
  generalize FG g = G at *
  have q1 : 2 ^ g_nu G ≤ 2 ^ 24 := Nat.pow_le_pow_right (by decide) q0.2.1
  have hW := g_all_co G
  have o1 : ∀ c, g_oc G (g_la G) c (g_np G) ≤ 30 := fun c => Nat.le_trans (g_sm1 (fun p => by split <;> omega) _) q0.2.2.1
  have w1 : ∀ c, g_so1 G c ≤ 30 := fun c => by have := o1 c; unfold g_so1; split <;> omega
  have w2 : ∀ R, g_wl G R (g_la G) (g_so1 G) (g_np G) ≤ 30 * g_np G := fun R => g_sm_le (fun c => by have := w1 c; split <;> omega) _
  unfold FX12_strokes
  rw [tf_figY hF.2.1 hf hgf, fg_bd_s, if_neg (by decide), tf_all hV hg hG, fg_bd_s]
  refine Exists.elim (fg_lp_i (body := FX12_strokes_b18 m mu (nI g)) (fun r s => ∃ R, s.1 = nI R ∧ g_un G (2 ^ g_nu G - 1) 0 R ∧ s.2 = nI (g_st G - g_wl G R (g_la G) (g_so1 G) (g_np G)) ∧ g_wl G R (g_la G) (g_so1 G) (g_np G) ≤ g_st G ∧ r = g_dl G R (g_la G) (g_np G)) (fun t => t = nI (g_st G)) (fun r s hI => ?_) fg_fu (g_dl G (2 ^ g_nu G - 1) (g_la G) (g_np G)) (nI (2 ^ g_nu G - 1), nI 0) ⟨_, rfl, ⟨g_sub_rfl _, fun i j _ _ _ h _ => h⟩, by show nI 0 = nI (g_st G - g_st G); rw [Nat.sub_self], Nat.le_refl _, rfl⟩ (fg_fu_lt (by have : g_dl G (2 ^ g_nu G - 1) (g_la G) (g_np G) ≤ g_np G := g_sm1 (fun _ => g_if_le _) _; omega))) (fun t ht => ?_)
  · obtain ⟨rv, nv⟩ := s
    obtain ⟨R, e1, hR, e2, hle, hr⟩ := hI
    have e1 : rv = nI R := e1
    have e2 : nv = _ := e2
    subst e1
    subst e2
    have hRn : R < 2 ^ g_nu G := g_lt_of (fun i hi => g_tb_lt hW.1 (hR.1 i hi))
    have sl := w2 (2 ^ g_nu G - 1)
    have sl : g_st G ≤ 30 * g_np G := sl
    by_cases z : R = 0
    · subst z
      have d0 : g_wl G 0 (g_la G) (g_so1 G) (g_np G) = 0 := by
        refine g_sm_z _ fun c _ => if_neg ?_
        rw [g_us_c]
        rintro ⟨i, -, i2, -⟩
        rw [Nat.zero_testBit] at i2
        cases i2
      refine Or.inr ⟨nI (g_st G - g_wl G 0 (g_la G) (g_so1 G) (g_np G)), ?_, ?_⟩
      · unfold FX12_strokes_b18
        rw [if_pos (show nI 0 = 0 from rfl)]
      · rw [d0, Nat.sub_zero]
    · obtain ⟨k, Q, k1, k2, c1, c2, c3, c4, c5⟩ := tf_first hV hg hG hRn z (body := FX12_firstPart_b8 m mu (nI g) (nI R)) (fun s => rfl)
      have kn := g_tb_lt hRn k1
      have hp := g_part hW hR kn k1 c2 c3 c4 c5
      have hm := g_wl_mi hG (g_so1 G) hW hR kn k1 hp
      have hd := g_dl_mi hG hW hR kn k1 hp
      have ho := g_on_part hG hR kn k1 hp
      have ol := o1 (g_la G (g_fr G k))
      refine Or.inl ⟨(nI (g_mi R Q), nI (g_st G - g_wl G (g_mi R Q) (g_la G) (g_so1 G) (g_np G))), g_dl G (g_mi R Q) (g_la G) (g_np G), ?_, by unfold g_la at *; omega, _, rfl, g_un_mi q0.2.1 hW hR hp, rfl, by unfold g_la at *; omega, rfl⟩
      unfold FX12_strokes_b18 FX12_firstPart
      dsimp only
      rw [if_neg (fun y => z ((fn_eq0 (show R < 2 ^ 31 by omega)).mp y)), c1, fg_bd_s, fg_bd_s, tf_odd hV hg hG (show Q < 2 ^ 30 by omega), ho, fg_bd_s, fn_not, fa_and, fn_div2 (by omega)]
      have es : (if nI 1 < nI (g_oc G (g_la G) (g_la G (g_fr G k)) (g_np G) / 2) then nI (g_oc G (g_la G) (g_la G (g_fr G k)) (g_np G) / 2) else nI 1) = nI (g_so1 G (g_la G (g_fr G k))) := by
        unfold g_so1
        by_cases y : 1 < g_oc G (g_la G) (g_la G (g_fr G k)) (g_np G) / 2
        · rw [if_pos y, if_pos ((nI_ltI (by decide) (by omega)).mpr y)]
        · rw [if_neg y, if_neg (fun q => y ((nI_ltI (by decide) (by omega)).mp q))]
      rw [es, fn_add]
      congr 3
      congr 1
      unfold g_la at *
      omega
  · obtain ⟨h1, h2⟩ := ht
    rw [h1, h2]
    rfl

/-- the labels that odd points bear, as bits -/
def g_gw (G : bs_G) (lab : Nat → Nat) (od : Nat) : Nat → Nat
  | 0 => 0
  | n + 1 => if od.testBit n = false then g_gw G lab od n else g_gw G lab od n ||| 2 ^ lab n
theorem g_gw_tb {G : bs_G} {lab : Nat → Nat} {od c : Nat} : ∀ n, (g_gw G lab od n).testBit c = true ↔ ∃ p, p < n ∧ od.testBit p = true ∧ lab p = c := by
  intro n
  induction n with
  | zero =>
    show (0 : Nat).testBit c = true ↔ _
    rw [Nat.zero_testBit]
    exact ⟨fun h => (by cases h), fun ⟨p, h, _⟩ => (by omega)⟩
  | succ n ih =>
    have e : (∃ p, p < n + 1 ∧ od.testBit p = true ∧ lab p = c) ↔ ((∃ p, p < n ∧ od.testBit p = true ∧ lab p = c) ∨ (od.testBit n = true ∧ lab n = c)) := by
      constructor
      · rintro ⟨p, h1, h2⟩
        by_cases z : p = n
        · subst z; exact Or.inr h2
        · exact Or.inl ⟨p, by omega, h2⟩
      · rintro (⟨p, h1, h2⟩ | h)
        · exact ⟨p, by omega, h2⟩
        · exact ⟨n, by omega, h⟩
    rw [e, ← ih, g_gw]
    cases d : od.testBit n with
    | false => simp
    | true =>
      rw [if_neg (by decide), g_tb_or, Bool.or_eq_true, decide_eq_true_iff]
      simp
theorem g_gw_lt {G : bs_G} {lab : Nat → Nat} {od : Nat} (hl : ∀ p, p < g_np G → lab p < 30) : ∀ n, n ≤ g_np G → g_gw G lab od n < 2 ^ 30 := by
  intro n
  induction n with
  | zero => intro _; exact Nat.two_pow_pos 30
  | succ n ih =>
    intro hn
    rw [g_gw]
    split
    · exact ih (by omega)
    · exact g_or_lt (ih (by omega)) (hl n (by omega))
theorem g_od_tb {G : bs_G} (p : Nat) : (g_od G (g_nu G)).testBit p = true ↔ g_en G p % 2 = 1 := by
  have h := g_b_od G p (g_nu G)
  rw [g_b_t] at h
  have h : ((g_od G (g_nu G)).testBit p).toNat = g_en G p % 2 := h
  rw [← h]
  cases (g_od G (g_nu G)).testBit p <;> simp
theorem g_st_eq {G : bs_G} (hG : g_ok G) : g_st G + pc_n (g_gw G (g_la G) (g_od G (g_nu G)) (g_np G)) 32 = g_pa G (2 ^ g_nu G - 1) 0 + pc_n (g_od G (g_nu G)) 32 / 2 := by
  have q0 := g_bn hG
  have ev := g_oc_ev hG (lab := g_la G) (fun i hi => g_la_b hi)
  have e1 : pc_n (g_gw G (g_la G) (g_od G (g_nu G)) (g_np G)) 32 = g_sm (fun c => g_if (0 < g_oc G (g_la G) c (g_np G))) (g_np G) := by
    have a : pc_n (g_gw G (g_la G) (g_od G (g_nu G)) (g_np G)) 32 = g_sm (fun c => g_if (0 < g_oc G (g_la G) c (g_np G))) 32 := by
      refine g_sm_cg _ fun c _ => ?_
      show g_b _ c = _
      rw [g_b_t]
      have k : (g_gw G (g_la G) (g_od G (g_nu G)) (g_np G)).testBit c = true ↔ 0 < g_oc G (g_la G) c (g_np G) := by
        rw [g_gw_tb]
        constructor
        · rintro ⟨p, p1, p2, p3⟩
          have h1 := g_sm_one (h := fun p => if g_la G p = c then g_en G p % 2 else 0) p1
          rw [if_pos p3, (g_od_tb p).mp p2] at h1
          exact h1
        · intro h
          apply Classical.byContradiction
          intro z
          have : g_oc G (g_la G) c (g_np G) = 0 := by
            refine g_sm_z _ fun p hp => ?_
            by_cases y : g_la G p = c
            · rw [if_pos y]
              have : ¬ g_en G p % 2 = 1 := fun w => z ⟨p, hp, (g_od_tb p).mpr w, y⟩
              omega
            · rw [if_neg y]
          omega
      cases d : (g_gw G (g_la G) (g_od G (g_nu G)) (g_np G)).testBit c with
      | true => rw [g_if1 (k.mp d)]; rfl
      | false => rw [g_if0 (fun y => by rw [k.mpr y] at d; cases d)]; rfl
    have z : ∀ c, g_np G ≤ c → (fun c => g_if (0 < g_oc G (g_la G) c (g_np G))) c = 0 := by
      intro c hc
      have : g_oc G (g_la G) c (g_np G) = 0 := by
        refine g_sm_z _ fun p hp => if_neg ?_
        have := g_la_lt hG hp
        omega
      show g_if _ = 0
      rw [this]
      rfl
    have e2 := g_sm_zr (h := fun c => g_if (0 < g_oc G (g_la G) c (g_np G))) (n := g_np G) (32 - g_np G) z
    rw [show g_np G + (32 - g_np G) = 32 by omega] at e2
    rw [a, e2]
  have e3 : pc_n (g_od G (g_nu G)) 32 = g_sm (fun c => g_oc G (g_la G) c (g_np G)) (g_np G) := by
    rw [g_pc_od hG, g_oc_sum (fun p hp => g_la_lt hG hp)]
    exact g_sm_cg _ fun p _ => by show g_es G p _ _ % 2 = _; rw [g_es_all]
  have e4 : ∀ n, g_sm (fun c => g_oc G (g_la G) c (g_np G)) n / 2 = g_sm (fun c => g_oc G (g_la G) c (g_np G) / 2) n ∧ g_sm (fun c => g_oc G (g_la G) c (g_np G)) n % 2 = 0 := by
    intro n
    induction n with
    | zero => exact ⟨by simp [g_sm], rfl⟩
    | succ n ih =>
      have := ev n
      simp only [g_sm]
      omega
  rw [e1, e3, (e4 _).1]
  have us : ∀ c, 0 < g_oc G (g_la G) c (g_np G) → g_us G (2 ^ g_nu G - 1) (g_la G) c = true := by
    intro c h
    apply Classical.byContradiction
    intro z
    have : g_oc G (g_la G) c (g_np G) = 0 := by
      refine g_sm_z _ fun p hp => ?_
      by_cases y : g_la G p = c
      · rw [if_pos y]
        have : g_en G p = 0 := by
          refine g_sm_z _ fun i hi => ?_
          rw [g_if0 (fun w => z (g_us_c.mpr ⟨i, hi, g_all_tb hi, Or.inl (by rw [w]; exact y)⟩)), g_if0 (fun w => z (g_us_c.mpr ⟨i, hi, g_all_tb hi, Or.inr (by rw [w]; exact y)⟩))]
        rw [this]
      · rw [if_neg y]
    omega
  show g_sm _ _ + _ = g_sm _ _ + _
  rw [← g_sm_add, ← g_sm_add]
  refine g_sm_cg _ fun c _ => ?_
  have o2 := ev c
  have u := us c
  unfold g_so1
  by_cases z : g_us G (2 ^ g_nu G - 1) (g_la G) c = true
  · have z2 : g_us G (2 ^ g_nu G - 1) (g_gl G 0 (g_nu G)) c = true := z
    rw [if_pos z, g_if1 z2]
    by_cases y : 0 < g_oc G (g_la G) c (g_np G)
    · rw [g_if1 y]
      split <;> omega
    · rw [g_if0 y]
      split <;> omega
  · have z2 : ¬ g_us G (2 ^ g_nu G - 1) (g_gl G 0 (g_nu G)) c = true := z
    rw [if_neg z, g_if0 z2]
    have y : ¬ 0 < g_oc G (g_la G) c (g_np G) := fun y => z (u y)
    rw [g_if0 y]
    omega
theorem sf_strokes {x f : Nat} {mu : bs_Mm} {G : bs_G} (hx : x + 63 ≤ f) (hV : cFv f G mu) (hG : g_ok G) : ∃ mu', FX5_strokesOf x mu f = some (nI (g_st G), mu') ∧ ∀ a, a ≠ x + 28 → a ≠ x + 29 → mu' a = mu a := by
  have q0 := g_bn hG
  obtain ⟨mu1, p1, p2, p3⟩ := sf_parts hx hV hG (g_all_co G)
  have hV1 : cFv f G mu1 := cFv_of hV (fun k _ => p2 _ (by omega) (by omega))
  have ho := g_od_lt hG _ (Nat.le_refl _)
  have hl := g_gw_lt (G := G) (lab := g_la G) (od := g_od G (g_nu G)) (fun p hp => by have := g_la_lt hG hp; omega)
  refine ⟨mu1, ?_, p2⟩
  unfold FX5_strokesOf
  rw [show nI 0 = nI 0 from rfl, p1, fg_b2_s, sf_oddP hV1 hG, fg_bd_s]
  rw [fg_lp_n (fun i => (nI (g_gw G (g_la G) (g_od G (g_nu G)) i), nI i)) (nI (g_gw G (g_la G) (g_od G (g_nu G)) (g_np G))) (g_np G) (by rfl) (fun i hi => ?_) ?_ (fg_fu_lt (by omega))]
  · have e := g_st_eq hG
    have l1 := hl _ (Nat.le_refl _)
    have b1 : pc_n (g_od G (g_nu G)) 32 ≤ 32 := g_sm1 (fun i => by show _ / _ % 2 ≤ 1; omega) 32
    have b2 : pc_n (g_gw G (g_la G) (g_od G (g_nu G)) (g_np G)) 32 ≤ g_pa G (2 ^ g_nu G - 1) 0 := by
      have : pc_n (g_od G (g_nu G)) 32 / 2 ≤ g_st G := by
        have o : g_st G + pc_n (g_gw G (g_la G) (g_od G (g_nu G)) (g_np G)) 32 = g_pa G (2 ^ g_nu G - 1) 0 + pc_n (g_od G (g_nu G)) 32 / 2 := e
        have h := g_pc_od hG
        have hh : pc_n (g_od G (g_nu G)) 32 = g_sm (fun c => g_oc G (g_la G) c (g_np G)) (g_np G) := by
          rw [g_pc_od hG, g_oc_sum (fun p hp => g_la_lt hG hp)]
          exact g_sm_cg _ fun p _ => by show g_es G p _ _ % 2 = _; rw [g_es_all]
        have ev := g_oc_ev hG (lab := g_la G) (fun i hi => g_la_b hi)
        have e4 : ∀ n, g_sm (fun c => g_oc G (g_la G) c (g_np G)) n / 2 ≤ g_sm (fun c => g_oc G (g_la G) c (g_np G) / 2) n ∧ g_sm (fun c => g_oc G (g_la G) c (g_np G)) n % 2 = 0 := by
          intro n
          induction n with
          | zero => exact ⟨by simp [g_sm], rfl⟩
          | succ n ih =>
            have := ev n
            simp only [g_sm]
            omega
        rw [hh]
        refine Nat.le_trans (e4 _).1 (g_sm_mono _ fun c _ => ?_)
        by_cases z : g_us G (2 ^ g_nu G - 1) (g_la G) c = true
        · rw [if_pos z]
          unfold g_so1
          split <;> omega
        · rw [if_neg z]
          have : g_oc G (g_la G) c (g_np G) = 0 := by
            refine g_sm_z _ fun p hp => ?_
            by_cases y : g_la G p = c
            · rw [if_pos y]
              have : g_en G p = 0 := by
                refine g_sm_z _ fun i hi => ?_
                rw [g_if0 (fun w => z (g_us_c.mpr ⟨i, hi, g_all_tb hi, Or.inl (by rw [w]; exact y)⟩)), g_if0 (fun w => z (g_us_c.mpr ⟨i, hi, g_all_tb hi, Or.inr (by rw [w]; exact y)⟩))]
              rw [this]
            · rw [if_neg y]
          rw [this]
          exact Nat.zero_le _
      omega
    have dle : g_pa G (2 ^ g_nu G - 1) 0 ≤ g_np G := g_sm1 (fun _ => g_if_le _) _
    rw [fg_bd_s, pc_bits mu1 (by omega), fg_bd_s, pc_bits mu1 (by omega), fg_bd_s, fn_div2 (by omega), fn_sub b2, fn_add]
    congr 3
    omega
  · unfold FX5_strokesOf_b18
    simp (disch := omega) only [fg_gd_t, fg_bd_s, fg_b2_s, fg_wr_s, fg_let_s, fn_add, fn_sub, fn_mul, fn_cl, fn_lt, fn_le, fn_eq, fn_eq0, fn_lt0, fn_0le, fn_0lt, fn_le0, fn_in, fn_shl, fn_shr, fa_and, fa_or, bs_xorI, if_true, if_false, hV1.2.2.1, Nat.le_refl]
  · unfold FX5_strokesOf_b18
    have lt := g_la_lt hG hi
    have r : bs_iv (mu1 (x + 29) i) = nI (g_la G i) := p3 i hi
    simp (disch := omega) only [fg_gd_t, fg_bd_s, fg_b2_s, fg_wr_s, fg_let_s, fn_add, fn_sub, fn_mul, fn_cl, fn_lt, fn_le, fn_eq, fn_eq0, fn_lt0, fn_0le, fn_0lt, fn_le0, fn_in, fn_shl, fn_shr, fa_and, fa_or, bs_xorI, if_true, if_false, hV1.2.2.1, if_neg (show ¬ g_np G ≤ i by omega), fn_bit0, r]
    rw [g_gw]
    split <;> rfl
