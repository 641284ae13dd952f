/-! READING A FIGURE (own): the class's steps -/
theorem z01_1 : (nI 1 = 0) ∨ (nI 1 = 1) := Or.inr rfl
theorem z01_0 : (nI 0 = 0) ∨ (nI 0 = 1) := Or.inl nI_0
theorem rf_c_of {x : Nat} {s : rf_S} {mu mu' : bs_Mm} (h : rf_c x s mu) (e6 : mu' (x + 9) 6 = mu (x + 9) 6) (e7 : mu' (x + 9) 7 = mu (x + 9) 7) (c : ∀ a, a ≠ x + 9 → mu' a = mu a) : rf_c x s mu' := by
  obtain ⟨h1, h2, h3, h4, h5, h6, h7⟩ := h
  exact ⟨cFv_of h1 fun k hk => c _ (by omega), fun p hp => by rw [c _ (by omega)]; exact h2 p hp, fun i hi => by rw [c _ (by omega)]; exact h3 i hi, fun k hk => by rw [c _ (by omega)]; exact h4 k hk, by rw [e6]; exact h5, by rw [e7]; exact h6, fun p hp => by rw [c _ (by omega)]; exact h7 p hp⟩
def rf_N (s : rf_S) (c : Nat) : rf_S := match rf_n s c with | none => (s.1, s.2.1, (fun i => if i = c then some (rf_w s) else rf_n s i), s.2.2.2) | some p => rf_J s p (rf_w s)
def rf_O (s : rf_S) : rf_S := (s.1, s.2.1, s.2.2.1, s.2.2.2.1, rf_d s + 1, bs_fn (rf_k s) (rf_d s) (rf_w s))
def rf_D (s : rf_S) : rf_S := (s.1, s.2.1, s.2.2.1, s.2.2.2.1, rf_d s - 1, rf_k s)
def rf_C (s : rf_S) : rf_S := rf_J (rf_D s) (rf_k s (rf_d s - 1)) (rf_w s)
theorem rf_ok_N {s : rf_S} (h : rf_ok s) {c : Nat} (hc : c < 8) : rf_ok (rf_N s c) := by
  unfold rf_N
  cases e : rf_n s c with
  | none =>
    obtain ⟨h1, h2, h3, h4, h5, h6, h7, h8, h9, h10, h11, h12⟩ := h
    refine ⟨h1, h2, h3, fun i p hi hp => ?_, h5, h6, h7, h8, h9, h10, h11, h12⟩
    have hp : (if i = c then some (rf_w s) else rf_n s i) = some p := hp
    by_cases d : i = c
    · rw [if_pos d] at hp
      rw [← Option.some.inj hp]
      exact h5
    · rw [if_neg d] at hp
      exact h4 i p hi hp
  | some p => exact rf_ok_J h (h.2.2.2.1 c p hc e) h.2.2.2.2.1
theorem rf_ok_O {s : rf_S} (h : rf_ok s) (hd : rf_d s < 6) : rf_ok (rf_O s) := by
  obtain ⟨h1, h2, h3, h4, h5, h6, h7, h8, h9, h10, h11, h12⟩ := h
  refine ⟨h1, h2, h3, h4, h5, show rf_d s + 1 ≤ 6 by omega, fun k hk => ?_, h8, h9, h10, h11, h12⟩
  have hk : k < rf_d s + 1 := hk
  show bs_fn (rf_k s) (rf_d s) (rf_w s) k < g_np (rf_g s)
  by_cases e : k = rf_d s
  · subst e
    rw [bs_fn_s]
    exact h5
  · rw [bs_fn_n e]
    exact h7 k (by omega)
theorem rf_ok_D {s : rf_S} (h : rf_ok s) : rf_ok (rf_D s) := by
  obtain ⟨h1, h2, h3, h4, h5, h6, h7, h8, h9, h10, h11, h12⟩ := h
  exact ⟨h1, h2, h3, h4, h5, show rf_d s - 1 ≤ 6 by omega, fun k hk => h7 k (by have hk : k < rf_d s - 1 := hk; omega), h8, h9, h10, h11, h12⟩
theorem rf_ok_C {s : rf_S} (h : rf_ok s) (hd : 0 < rf_d s) : rf_ok (rf_C s) := rf_ok_J (rf_ok_D h) (h.2.2.2.2.2.2.1 _ (by omega)) h.2.2.2.2.1
/-- reading goes on in MOVES: the class's state is s, moves are due or not -/
def rc_S (x : Nat) (s : rf_S) (due : Bool) (l : Int32) (mu : bs_Mm) : Prop := rf_c x s mu ∧ bs_iv (mu (x + 9) 5) = nI 2 ∧ bs_iv (mu (x + 9) 10) = nI (if due = true then 1 else 0) ∧ bs_iv (mu (x + 9) 4) = l
theorem rc_S_8 {x : Nat} {s : rf_S} {due : Bool} {l : Int32} {v : Value} {mu : bs_Mm} (h : rc_S x s due l mu) : rc_S x s due l (bs_up mu (x + 9) 8 v) := ⟨rf_c_of h.1 (bs_up_j (by decide)) (bs_up_j (by decide)) fun a ha => bs_up_f ha, by rw [bs_up_j (by decide)]; exact h.2.1, by rw [bs_up_j (by decide)]; exact h.2.2.1, by rw [bs_up_j (by decide)]; exact h.2.2.2⟩
set_option maxHeartbeats 1000000 in
theorem rc_digY {x n a v b : Nat} {l : Int32} {T : Nat → Nat} {s : rf_S} {due : Bool} {mu : bs_Mm} (hok : rf_ok s) (hS : rc_S x s due l mu) (hT : cT x n T mu) (h8 : bs_iv (mu (x + 9) 8) = nI 0) (hd : tdg n T a) (hy : rb_y n T (g_nu (rf_g s)) a v b) : ∃ mu', rd_go x n l a mu = rd_go x n l b mu' ∧ rc_S x (rf_B s v) false l mu' ∧ cfr x mu mu' := by
  have q0 := g_bn hok.1
  have t2 := hT.2.1
  have ta := (hT.2.2 a hd.1).2.2
  have hda := hd.1
  have hdg := hd.2
  obtain ⟨y1, y2, y3, y4⟩ := hy
  obtain ⟨hc, p5, p10, p4⟩ := hS
  have e107 : bs_iv (mu (x + 10) 7) = nI (g_nu (rf_g s)) := hc.1.2.1
  obtain ⟨m1, hm1⟩ : ∃ y, y = bs_up (bs_up mu (x + 9) 9 (.int (nI (T a - 48)))) (x + 9) 8 (.int (nI 1)) := ⟨_, rfl⟩
  have f1 : ∀ c, c ≠ x + 9 → m1 c = mu c := fun c hc => by rw [hm1, bs_up_f hc, bs_up_f hc]
  have o1 : ∀ k, k ≠ 8 → k ≠ 9 → m1 (x + 9) k = mu (x + 9) k := fun k k1 k2 => by rw [hm1, bs_up_j k1, bs_up_j k2]
  have c1 : rf_c x s m1 := rf_c_of hc (o1 6 (by decide) (by decide)) (o1 7 (by decide) (by decide)) f1
  have e18 : bs_iv (m1 (x + 9) 8) = nI 1 := by rw [hm1, bs_up_eq]; rfl
  have e19 : bs_iv (m1 (x + 9) 9) = nI (T a - 48) := by rw [hm1, bs_up_j (by decide), bs_up_eq]; rfl
  have fr1 : cfr x mu m1 := fun c hc => f1 c (by omega)
  have up8 : bs_iv (bs_up mu (x + 9) 9 (.int (nI (T a - 48))) (x + 9) 8) = nI 0 := by rw [bs_up_j (by decide)]; exact h8
  have dig : ∀ (fl q : Int32) (r : bs_Mm), (if fl = 0 then (fg_b2 (FX2_makesBubble x m1) (fun v9 mu8 => fg_gd (decide (v9 = 0 ∨ v9 = 1)) (some (v9, mu8)))) else some (nI 1, m1)) = some (q, r) → (q = 0 ∨ q = 1) → FX2_takes x mu (nI (T a)) fl = some (q, r) := by
    intro fl q r hq hq2
    have j50 : FX2_takesDigit_j50 x mu fl (nI (T a - 48)) = some (q, r) := by
      unfold FX2_takesDigit_j50
      rw [fg_wr_s, up8, fn_add, fg_wr_s, ← hm1, e18, if_pos rfl]
      exact hq
    have td : FX2_takesDigit x mu (nI (T a - 48)) fl = some (q, r) := by
      unfold FX2_takesDigit
      rw [h8, if_neg (by decide), if_pos nI_0, e107, if_pos ((nI_ltI (by omega) (by decide)).mpr y1)]
      unfold FX2_takesDigit_j29
      rw [h8, if_pos nI_0]
      exact j50
    unfold FX2_takes
    rw [p5, if_pos rfl, (sf_isD ta).1 hdg, fg_bd_s, if_neg (by decide), fn_sub (by omega), td, fg_b2_s, fg_dt hq2, fg_gd_t]
  rcases y4 with ⟨b1, b2, b3⟩ | ⟨b1, b2, b3, b4⟩
  · subst b1
    rw [← b2] at e19
    obtain ⟨m2, k1, k2, k3, k4, k5⟩ := rc_bub hok c1 y1 e19 y2 y3
    have tk := dig (nI (if tdb n T (a + 1) = true then 1 else 0)) (nI 1) m2 (by rw [if_neg (fun h => b3 (tdb_c.mp h)), if_pos nI_0, k1, fg_b2_s, fg_dt z01_1, fg_gd_t]) (Or.inr rfl)
    refine ⟨m2, (rd_step hT hda tk).1 (by decide), ⟨k2, by rw [k4 5 (by decide) (by decide), o1 5 (by decide) (by decide)]; exact p5, k3, by rw [k4 4 (by decide) (by decide), o1 4 (by decide) (by decide)]; exact p4⟩, cfr_tr fr1 k5⟩
  · subst b1
    have hdb := b3.1
    have hdgb := b3.2
    have tb := (hT.2.2 (a + 1) hdb).2.2
    have T1 : cT x n T m1 := cT_fr hT fr1
    have tk := dig (nI (if tdb n T (a + 1) = true then 1 else 0)) (nI 1) m1 (by rw [if_pos (tdb_c.mpr b3), if_neg (by decide)]) (Or.inr rfl)
    obtain ⟨m3, hm3⟩ : ∃ y, y = bs_up (bs_up m1 (x + 9) 9 (.int (nI v))) (x + 9) 8 (.int (nI 2)) := ⟨_, rfl⟩
    have f3 : ∀ c, c ≠ x + 9 → m3 c = m1 c := fun c hc => by rw [hm3, bs_up_f hc, bs_up_f hc]
    have o3 : ∀ k, k ≠ 8 → k ≠ 9 → m3 (x + 9) k = m1 (x + 9) k := fun k k1 k2 => by rw [hm3, bs_up_j k1, bs_up_j k2]
    have c3 : rf_c x s m3 := rf_c_of c1 (o3 6 (by decide) (by decide)) (o3 7 (by decide) (by decide)) f3
    have e38 : bs_iv (m3 (x + 9) 8) = nI 2 := by rw [hm3, bs_up_eq]; rfl
    have e39 : bs_iv (m3 (x + 9) 9) = nI v := by rw [hm3, bs_up_j (by decide), bs_up_eq]; rfl
    obtain ⟨m4, k1, k2, k3, k4, k5⟩ := rc_bub hok c3 y1 e39 y2 y3
    have up8b : bs_iv (bs_up m1 (x + 9) 9 (.int (nI v)) (x + 9) 8) = nI 1 := by rw [bs_up_j (by decide)]; exact e18
    have tk2 : ∀ fl, FX2_takes x m1 (nI (T (a + 1))) fl = some (nI 1, m4) := fun fl => by
      have j50 : FX2_takesDigit_j50 x m1 fl (nI v) = some (nI 1, m4) := by
        unfold FX2_takesDigit_j50
        rw [fg_wr_s, up8b, fn_add, fg_wr_s, ← hm3, e38, if_neg (by decide), k1, fg_b2_s, fg_dt z01_1, fg_gd_t]
      have td : FX2_takesDigit x m1 (nI (T (a + 1) - 48)) fl = some (nI 1, m4) := by
        unfold FX2_takesDigit
        rw [e18, if_neg (by decide), if_neg (by decide)]
        unfold FX2_takesDigit_j29
        rw [e18, if_neg (by decide), e19, fn_mul, fn_add, show (T a - 48) * 10 + (T (a + 1) - 48) = v by omega]
        exact j50
      unfold FX2_takes
      rw [o1 5 (by decide) (by decide), p5, if_pos rfl, (sf_isD tb).1 hdgb, fg_bd_s, if_neg (by decide), fn_sub (by omega), td, fg_b2_s, fg_dt z01_1, fg_gd_t]
    have fr4 : cfr x mu m4 := cfr_tr fr1 (cfr_tr (fun c hc => f3 c (by omega)) k5)
    refine ⟨m4, ((rd_step hT hda tk).1 (by decide)).trans ((rd_step T1 hdb (tk2 _)).1 (by decide)), ⟨k2, by rw [k4 5 (by decide) (by decide), o3 5 (by decide) (by decide), o1 5 (by decide) (by decide)]; exact p5, k3, by rw [k4 4 (by decide) (by decide), o3 4 (by decide) (by decide), o1 4 (by decide) (by decide)]; exact p4⟩, fr4⟩
