/-! THE CALLS (own): bubble, guest, worth: both sides, thrown or answered -/
theorem bs_CTp {X : bs_M} {hh : List (Nat × Nat × Nat × Nat)} {rm : Room} {av : List Value} {nx : Nat} {sh : bs_Sh} {mu : bs_Mm} {Ph Ph' : bs_Po} (k : bs_CT X hh rm av nx sh mu Ph') (h : ∀ v n s m, Ph' v n s m → Ph v n s m) : bs_CT X hh rm av nx sh mu Ph := fun l D dA hl =>
  (k l D dA hl).mono (fun _ _ h => h) (fun _ _ _ _ _ h => h) fun a s o t _ hq => ⟨⟨by
    obtain ⟨v, n, s', m', e1, e2, e3⟩ := hq.1.1
    exact ⟨v, n, s', m', e1, h _ _ _ _ e2, e3⟩, hq.1.2⟩, hq.2⟩
theorem lS_o {x : Nat} {D : li_D} {v : Value} {mu : bs_Mm} (h : lS x D mu) : lS x D (bs_up mu (x + 194) 0 v) := ⟨lC_of h.1 fun b b1 b2 _ _ _ _ => bs_up_f (by omega), lM_of h.2.1 (fun k hk => by rw [bs_up_f (by omega)]) fun b b1 b2 b3 b4 => bs_up_f (by omega), h.2.2⟩
/-- a call that may throw: the law's own method says k, the model answers r and says in its own cell whether it threw -/
def lw_T (Yh : bs_M) (hh : List (Nat × Nat × Nat × Nat)) (Ym : bs_M) (x : Nat) (As Bs : List Value) : Prop := ∀ (R : Nat → Nat → Option Nat) (nx : Nat) (sh : bs_Sh) (mu : bs_Mm), lw_I R x sh mu → ∃ (k r : Int32) (d : Nat), d ≤ 400 ∧ bs_CT Yh hh (bs_rm 11 1 6) (.ref x :: Bs) nx sh mu (fun v nx1 sh1 mu1 => v = some (.int k) ∧ sh1 = sh ∧ bs_C Ym (bs_rm d 0 0) (.ref (x + 159) :: As) nx1 sh mu1 (fun w nx2 sh2 mu2 => w = some (.int r) ∧ nx2 = nx1 ∧ sh2 = sh ∧ lw_I R x sh mu2 ∧ bs_iv (mu2 (x + 159) 0) = k ∧ (k = 0 → bs_lv (mu2 (x + 194) 0) = r.toInt64)))
theorem lw_t {Yh Ym : bs_M} {hh : List (Nat × Nat × Nat × Nat)} {As Bs : List Value} {x nx d : Nat} {R : Nat → Nat → Option Nat} {sh : bs_Sh} {mu mu1 mu2 : bs_Mm} {k r : Int32} {P : bs_Po} (K : bs_CT Yh hh (bs_rm 11 1 6) (.ref x :: Bs) nx sh mu P) (hP : ∀ v n s m, P v n s m → v = some (.int k) ∧ s = sh ∧ m = mu1 ∧ fg_R R mu1) (hd : d ≤ 400) (M : fg_R R mu1 → ∀ n, bs_C Ym (bs_rm d 0 0) (.ref (x + 159) :: As) n sh mu1 (fg_po R n sh (some (.int r)) mu2)) (I : lw_I R x sh mu) (h2 : ∃ D, lS x D mu2) (e : bs_iv (mu2 (x + 159) 0) = k) (e2 : k = 0 → bs_lv (mu2 (x + 194) 0) = r.toInt64) : ∃ (k r : Int32) (d : Nat), d ≤ 400 ∧ bs_CT Yh hh (bs_rm 11 1 6) (.ref x :: Bs) nx sh mu (fun v nx1 sh1 mu1 => v = some (.int k) ∧ sh1 = sh ∧ bs_C Ym (bs_rm d 0 0) (.ref (x + 159) :: As) nx1 sh mu1 (fun w nx2 sh2 mu2 => w = some (.int r) ∧ nx2 = nx1 ∧ sh2 = sh ∧ lw_I R x sh mu2 ∧ bs_iv (mu2 (x + 159) 0) = k ∧ (k = 0 → bs_lv (mu2 (x + 194) 0) = r.toInt64))) :=
  ⟨k, r, d, hd, bs_CTp K fun v n s m q => by
    obtain ⟨q1, q2, q3, q4⟩ := hP v n s m q
    refine ⟨q1, q2, ?_⟩
    rw [q3]
    exact (M q4 n).post fun _ _ _ _ z => ⟨z.1, z.2.1, z.2.2.1, by rw [z.2.2.2.1]; exact I.to z.2.2.2.2 h2, by rw [z.2.2.2.1]; exact e, by rw [z.2.2.2.1]; exact e2⟩⟩
theorem lT_bub (x : Nat) (a b c : Int32) : lw_T mL_bubble hhL_bubble mX12_bubble_ x [.int a, .int b, .int c] [.int a, .int b, .int c, .ref (x + 194)] := fun R nx sh mu I => by
  obtain ⟨HX, HM, ho, hn, hR, ⟨T, S, ⟨fc, FG⟩, ⟨rc, UR⟩, ⟨qn, QT, QJ, QP⟩, ⟨ST, pu, pb⟩, ⟨rn, V⟩⟩, h⟩ := id I
  have hF : cFG x fc FG mu := h.1.2.2.1
  have hG : mFG (x + 159) fc FG mu := h.2.1.2.2.1
  have h12 := hF.1
  have thr : ((a < 0 ∨ nI fc ≤ a) ∨ ∃ j, j < fc ∧ a = nI j ∧ ((b < 0 ∨ nI (g_nu (FG j)) ≤ b) ∨ ∃ p, p < g_nu (FG j) ∧ b = nI p ∧ ∀ k, k < 5 → c ≠ nI k)) → (FX12_isBubble (x + 159) mu a b = some 0 ∨ (FX12_isBubble (x + 159) mu a b = some 1 ∧ FX12_in (x + 159) mu c (nI 0) (nI 4) = some 0)) → _ := fun z1 z2 => lw_t (x := x) (mu1 := mu) (mu2 := bs_up mu (x + 159) 0 (.int (nI 1))) (k := 1) (r := nI 0) (d := 3) (lx_bub (x := x) (ou := x + 194) (HX.s 0 rfl rfl rfl) (cx_bub (nx := nx) HX hR hF a b c z1)) (fun _ _ _ _ q => ⟨q.1, q.2.1, q.2.2, hR⟩) (by decide) (fun _ n => wX12_bubble_ (nx := n) HM hR (tf_bubT z2)) I ⟨_, lS_0 h⟩ (by rw [bs_up_eq]; rfl) (fun z => absurd z (by decide))
  rcases g_at_c fc (by omega) a with ha | ⟨j, hj, ha⟩
  · exact thr (Or.inl ha) (Or.inl (tf_bubN hG.2.1 h12 ha b))
  · subst ha
    have np := g_bn (hF.2.2 j hj).1
    rcases g_at_c (g_nu (FG j)) (by have := np.2.1; omega) b with hb | ⟨p, hp, hb⟩
    · exact thr (Or.inr ⟨j, hj, rfl, Or.inl hb⟩) (Or.inl (tf_bubB hG hj hb))
    · subst hb
      rcases tf_inR (m := x + 159) (mu := mu) (n := 4) (by decide) c with ⟨h1, h2⟩ | ⟨k, hk, hc, h2⟩
      · exact thr (Or.inr ⟨j, hj, rfl, Or.inr ⟨p, hp, rfl, fun k hk => h2 k (by omega)⟩⟩) (Or.inr ⟨tf_bubY hG hj hp, h1⟩)
      · subst hc
        have h3 := lS_o (v := .long (nI (k_bub (FG j) p k)).toInt64) h
        exact lw_t (x := x) (mu1 := bs_up mu (x + 194) 0 (.long (nI (k_bub (FG j) p k)).toInt64)) (mu2 := bs_up (bs_up mu (x + 194) 0 (.long (nI (k_bub (FG j) p k)).toInt64)) (x + 159) 0 (.int (nI 0))) (k := 0) (r := nI (k_bub (FG j) p k)) (d := 3) (ly_bub (x := x) (ou := x + 194) (nx := nx) (d := 1) (by decide) (HX.s 0 rfl rfl rfl) ho (wX11_bubble HX hR (sf_bub hF hj hp (show k < 5 by omega)))) (fun _ _ _ _ z => ⟨z.1, z.2.1, z.2.2.1, z.2.2.2.up (hn 0)⟩) (by decide) (fun r1 n => wX12_bubble_ (nx := n) HM r1 (tf_bubA h3.2.1.2.2.1 hj hp (show k < 5 by omega))) I ⟨_, lS_0 h3⟩ (by rw [bs_up_eq]; rfl) (fun _ => by rw [bs_up_f (by omega), bs_up_eq]; rfl)
theorem lT_gue (x : Nat) (a b : Int32) : lw_T mL_guest hhL_guest mX12_guest x [.int a, .int b] [.int a, .int b, .ref (x + 194)] := fun R nx sh mu I => by
  obtain ⟨HX, HM, ho, hn, hR, ⟨T, S, ⟨fc, FG⟩, ⟨rc, UR⟩, ⟨qn, QT, QJ, QP⟩, ⟨ST, pu, pb⟩, ⟨rn, V⟩⟩, h⟩ := id I
  have hF : cGU x rn V mu := h.1.2.2.2.2.2.2.2.2.2
  have hG : mGU (x + 159) rn V mu := h.2.1.2.2.2.2.2.2
  have h30 := hF.1
  have thr : ((a < 0 ∨ nI rn ≤ a) ∨ ∀ k, k < 4 → b ≠ nI k) → ((a < 0 ∨ nI rn ≤ a) ∨ (FX12_in (x + 159) mu a (nI 0) (nI rn - nI 1) = some 1 ∧ FX12_in (x + 159) mu b (nI 0) (nI 3) = some 0)) → _ := fun z1 z2 => lw_t (x := x) (mu1 := mu) (mu2 := bs_up mu (x + 159) 0 (.int (nI 1))) (k := 1) (r := nI 0) (d := 1) (lx_gue (x := x) (ou := x + 194) (HX.s 0 rfl rfl rfl) (cx_gue (nx := nx) HX hR hF a b z1)) (fun _ _ _ _ q => ⟨q.1, q.2.1, q.2.2, hR⟩) (by decide) (fun _ n => wX12_guest (nx := n) HM hR (tf_guT h30 hG.2.1 z2)) I ⟨_, lS_0 h⟩ (by rw [bs_up_eq]; rfl) (fun z => absurd z (by decide))
  rcases g_at_c rn (by omega) a with ha | ⟨j, hj, ha⟩
  · exact thr (Or.inl ha) (Or.inl ha)
  · subst ha
    rcases tf_inR (m := x + 159) (mu := mu) (n := 3) (by decide) b with ⟨h1, h2⟩ | ⟨k, hk, hc, h2⟩
    · exact thr (Or.inr fun k hk => h2 k (by omega)) (Or.inr ⟨tf_inZ (by omega) hj, h1⟩)
    · subst hc
      have h3 := lS_o (v := .long (V j k).toInt64) h
      exact lw_t (x := x) (mu1 := bs_up mu (x + 194) 0 (.long (V j k).toInt64)) (mu2 := bs_up (bs_up mu (x + 194) 0 (.long (V j k).toInt64)) (x + 159) 0 (.int (nI 0))) (k := 0) (r := V j k) (d := 1) (ly_gue (x := x) (ou := x + 194) (nx := nx) (d := 0) (by decide) (HX.s 0 rfl rfl rfl) ho (wX11_guest HX hR (sf_guA hF hj (show k < 4 by omega)))) (fun _ _ _ _ z => ⟨z.1, z.2.1, z.2.2.1, z.2.2.2.up (hn 0)⟩) (by decide) (fun r1 n => wX12_guest (nx := n) HM r1 (tf_guA h3.2.1.2.2.2.2.2.2 hj (show k < 4 by omega))) I ⟨_, lS_0 h3⟩ (by rw [bs_up_eq]; rfl) (fun _ => by rw [bs_up_f (by omega), bs_up_eq]; rfl)
theorem lT_wor (x : Nat) (a b c d e f : Int32) : lw_T mL_worth hhL_worth mX12_worth x [.int a, .int b, .int c, .int d, .int e, .int f] [.int a, .int b, .int c, .int d, .int e, .int f, .ref (x + 194)] := fun R nx sh mu I => by
  obtain ⟨HX, HM, ho, hn, hR, ⟨T, S, ⟨fc, FG⟩, ⟨rc, UR⟩, ⟨qn, QT, QJ, QP⟩, ⟨ST, pu, pb⟩, ⟨rn, V⟩⟩, h⟩ := id I
  have hF : cUR x rc UR mu := h.1.2.2.2.1
  have hG : mUR (x + 159) rc UR mu := h.2.1.2.2.2.1
  have h6 := hF.1
  rcases g_at_c rc (by omega) a with ha | ⟨j, hj, ha⟩
  · exact lw_t (x := x) (mu1 := mu) (mu2 := bs_up mu (x + 159) 0 (.int (nI 1))) (k := 1) (r := nI 0) (d := 5) (lx_wor (x := x) (ou := x + 194) (HX.s 0 rfl rfl rfl) (cx_wor (nx := nx) HX hR hF a b c d e f ha)) (fun _ _ _ _ q => ⟨q.1, q.2.1, q.2.2, hR⟩) (by decide) (fun _ n => wX12_worth (nx := n) HM hR (tf_worthN hG ha b c d e f)) I ⟨_, lS_0 h⟩ (by rw [bs_up_eq]; rfl) (fun z => absurd z (by decide))
  · subst ha
    obtain ⟨mu1, k1, k2⟩ := sf_worthY hF hj b c d e f
    have h1 : lS x (T, S, (fc, FG), (rc, UR), (qn, QT, QJ, QP), (ST, pu, pb), (rn, V)) mu1 := ⟨lC_of h.1 fun y y1 y2 y3 y4 y5 y6 => k2 y (by omega) (by omega), lM_of h.2.1 (fun k _ => by rw [k2 _ (by omega) (by omega)]) fun y y1 y2 y3 y4 => k2 y (by omega) (by omega), h.2.2⟩
    have h3 := lS_o (v := .long (u_v (u_e b c d e f) (UR j)).toInt64) h1
    obtain ⟨mu2, q1, q2, q3, q4⟩ := tf_worthY h3.2.1.2.2.2.1 hj b c d e f
    have h4 : lS x (T, S, (fc, FG), (rc, UR), (qn, QT, QJ, QP), (ST, pu, pb), (rn, V)) mu2 := ⟨lC_of h3.1 fun y y1 y2 _ _ _ _ => q4 y (by omega) (by omega), lM_of h3.2.1 (fun k hk => q3 k (by omega)) fun y y1 y2 y3 y4 => q4 y (by omega) (by omega), h3.2.2⟩
    have K1 := wX11_worth (nx := nx) HX hR k1
    exact lw_t (x := x) (mu1 := bs_up mu1 (x + 194) 0 (.long (u_v (u_e b c d e f) (UR j)).toInt64)) (mu2 := mu2) (k := 0) (r := u_v (u_e b c d e f) (UR j)) (d := 5) (ly_wor (x := x) (ou := x + 194) (d := 5) (by decide) (HX.s 0 rfl rfl rfl) ho K1) (fun _ _ _ _ z => ⟨z.1, z.2.1, z.2.2.1, z.2.2.2.up (hn 0)⟩) (by decide) (fun r1 n => wX12_worth (nx := n) HM r1 q1) I ⟨_, h4⟩ q2 (fun _ => by rw [q4 _ (by omega) (by omega), bs_up_eq]; rfl)
