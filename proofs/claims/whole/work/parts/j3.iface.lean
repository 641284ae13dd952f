/-! THE LAW'S INTERFACE (own): both sides answer alike, and the invariant stands -/
/-- between two calls: the two objects at x and x + 159, the law's own row at x + 194 -/
def lw_I (R : Nat → Nat → Option Nat) (x : Nat) (sh : bs_Sh) (mu : bs_Mm) : Prop := fg_S (bs_tS x) R x sh ∧ fg_S (bs_tM (x + 159)) R (x + 159) sh ∧ sh (x + 194) = (15, 1) ∧ (∀ j, R (x + 194) j = none) ∧ fg_R R mu ∧ ∃ D, lS x D mu
/-- a call with these arguments: the class answers r, then the model answers r -/
def lw_B (Yc Ym : bs_M) (x : Nat) (As : List Value) : Prop := ∀ (R : Nat → Nat → Option Nat) (nx : Nat) (sh : bs_Sh) (mu : bs_Mm), lw_I R x sh mu → ∃ (r : Int32) (d1 d2 : Nat), d1 ≤ 400 ∧ d2 ≤ 400 ∧ bs_C Yc (bs_rm d1 0 0) (.ref x :: As) nx sh mu (fun v nx1 sh1 mu1 => v = some (.int r) ∧ nx1 = nx ∧ sh1 = sh ∧ bs_C Ym (bs_rm d2 0 0) (.ref (x + 159) :: As) nx sh mu1 (fun w nx2 sh2 mu2 => w = some (.int r) ∧ nx2 = nx ∧ sh2 = sh ∧ lw_I R x sh mu2))
theorem lw_I.to {R : Nat → Nat → Option Nat} {x : Nat} {sh : bs_Sh} {mu mu2 : bs_Mm} (I : lw_I R x sh mu) (hR : fg_R R mu2) (h : ∃ D, lS x D mu2) : lw_I R x sh mu2 := ⟨I.1, I.2.1, I.2.2.1, I.2.2.2.1, hR, h⟩
theorem lw_fx {Yc Ym : bs_M} {As : List Value} {x nx d1 d2 : Nat} {R : Nat → Nat → Option Nat} {sh : bs_Sh} {mu mu1 mu2 : bs_Mm} {r : Int32} (h1 : d1 ≤ 400) (h2 : d2 ≤ 400) (k1 : bs_C Yc (bs_rm d1 0 0) (.ref x :: As) nx sh mu (fg_po R nx sh (some (.int r)) mu1)) (k2 : fg_R R mu1 → bs_C Ym (bs_rm d2 0 0) (.ref (x + 159) :: As) nx sh mu1 (fg_po R nx sh (some (.int r)) mu2)) (I : lw_I R x sh mu) (h : ∃ D, lS x D mu2) : ∃ (r : Int32) (d1 d2 : Nat), d1 ≤ 400 ∧ d2 ≤ 400 ∧ bs_C Yc (bs_rm d1 0 0) (.ref x :: As) nx sh mu (fun v nx1 sh1 mu1 => v = some (.int r) ∧ nx1 = nx ∧ sh1 = sh ∧ bs_C Ym (bs_rm d2 0 0) (.ref (x + 159) :: As) nx sh mu1 (fun w nx2 sh2 mu2 => w = some (.int r) ∧ nx2 = nx ∧ sh2 = sh ∧ lw_I R x sh mu2)) :=
  ⟨r, d1, d2, h1, h2, k1.post fun _ _ _ _ q => ⟨q.1, q.2.1, q.2.2.1, by
    rw [q.2.2.2.1]
    exact (k2 q.2.2.2.2).post fun _ _ _ _ z => ⟨z.1, z.2.1, z.2.2.1, by rw [z.2.2.2.1]; exact I.to z.2.2.2.2 h⟩⟩⟩
theorem lw_no {Y : bs_M} {rm : Room} {av : List Value} {nx : Nat} {R : Nat → Nat → Option Nat} {sh : bs_Sh} {mu : bs_Mm} {v : Value} (hR : fg_R R mu) (k : bs_C Y rm av nx sh mu (bs_no nx sh mu v)) : bs_C Y rm av nx sh mu (fg_po R nx sh (some v) mu) := k.post fun _ _ _ _ q => ⟨q.1, q.2.1, q.2.2.1, q.2.2.2, hR⟩
theorem lw_ex {Y : bs_M} {rm : Room} {av : List Value} {nx : Nat} {R : Nat → Nat → Option Nat} {sh : bs_Sh} {mu mu1 : bs_Mm} {v : Value} (hR : fg_R R mu1) (k : bs_C Y rm av nx sh mu (bs_ex nx sh v mu1)) : bs_C Y rm av nx sh mu (fg_po R nx sh (some v) mu1) := k.post fun _ _ _ _ q => ⟨q.1, q.2.1, q.2.2.1, q.2.2.2, hR⟩
theorem li_fault {x : Nat} {D : li_D} {mu : bs_Mm} (h : lS x D mu) (a : Int32) : ∃ r mu1 mu2, FX11_fault x mu a = some (r, mu1) ∧ FX12_fault (x + 159) mu1 a = some (r, mu2) ∧ lS x D mu2 := by
  by_cases h0 : a = 0
  · subst h0
    exact li_fault0 h
  · by_cases h1 : a = nI 1
    · subst h1
      exact li_fault1 h
    · exact li_faultN h h0 h1
theorem lb_far (x : Nat) (a b c : Int32) : lw_B mX11_far mX12_far x [.int a, .int b, .int c] := fun R nx sh mu I => by
  obtain ⟨HX, HM, -, -, hR, D, h⟩ := id I
  obtain ⟨r, mu1, mu2, k1, k2, k3⟩ := li_far h a b c
  exact lw_fx (r := r) (mu1 := mu1) (mu2 := mu2) (d1 := 2) (d2 := 3) (by decide) (by decide) (wX11_far HX hR k1) (fun h1 => wX12_far HM h1 k2) I ⟨D, k3⟩
theorem lb_span (x : Nat) (a : Int32) : lw_B mX11_span mX12_span x [.int a] := fun R nx sh mu I => by
  obtain ⟨HX, HM, -, -, hR, D, h⟩ := id I
  obtain ⟨r, mu1, mu2, k1, k2, k3⟩ := li_span h a
  exact lw_fx (r := r) (mu1 := mu1) (mu2 := mu2) (d1 := 3) (d2 := 2) (by decide) (by decide) (wX11_span HX hR k1) (fun h1 => wX12_span HM h1 k2) I ⟨D, k3⟩
theorem lb_strokes (x : Nat) (a : Int32) : lw_B mX11_strokes mX12_strokes x [.int a] := fun R nx sh mu I => by
  obtain ⟨HX, HM, -, -, hR, D, h⟩ := id I
  obtain ⟨r, mu1, k1, k2, k3⟩ := li_strokes h a
  exact lw_fx (r := r) (mu1 := mu1) (mu2 := mu1) (d1 := 4) (d2 := 2) (by decide) (by decide) (wX11_strokes HX hR k1) (fun h1 => wX12_strokes HM h1 k2) I ⟨D, k3⟩
theorem lb_pop (x : Nat) (a b c : Int32) : lw_B mX11_pop mX12_pop x [.int a, .int b, .int c] := fun R nx sh mu I => by
  obtain ⟨HX, HM, -, -, hR, D, h⟩ := id I
  obtain ⟨r, mu1, k1, k2, k3⟩ := li_pop h a b c
  exact lw_fx (r := r) (mu1 := mu1) (mu2 := mu1) (d1 := 3) (d2 := 3) (by decide) (by decide) (wX11_pop HX hR k1) (fun h1 => wX12_pop HM h1 k2) I ⟨D, k3⟩
theorem lb_many (x : Nat) (a b : Int32) : lw_B mX11_many mX12_many x [.int a, .int b] := fun R nx sh mu I => by
  obtain ⟨HX, HM, -, -, hR, D, h⟩ := id I
  obtain ⟨r, k1, k2⟩ := li_many h a b
  exact lw_fx (r := r) (mu1 := mu) (mu2 := mu) (d1 := 2) (d2 := 2) (by decide) (by decide) (wX11_many HX hR k1) (fun h1 => wX12_many HM h1 k2) I ⟨D, h⟩
theorem lb_count (x : Nat) (a : Int32) : lw_B mX11_count mX12_count x [.int a] := fun R nx sh mu I => by
  obtain ⟨HX, HM, -, -, hR, D, h⟩ := id I
  obtain ⟨r, k1, k2⟩ := li_count h a
  exact lw_fx (r := r) (mu1 := mu) (mu2 := mu) (d1 := 0) (d2 := 0) (by decide) (by decide) (wX11_count HX hR k1) (fun h1 => wX12_count HM h1 k2) I ⟨D, h⟩
theorem lb_weakest (x : Nat) (a : Int32) : lw_B mX11_weakest mX12_weakest x [.int a] := fun R nx sh mu I => by
  obtain ⟨HX, HM, -, -, hR, D, h⟩ := id I
  obtain ⟨r, mu1, k1, k2, k3⟩ := li_weakest h a
  exact lw_fx (r := r) (mu1 := mu1) (mu2 := mu1) (d1 := 4) (d2 := 4) (by decide) (by decide) (wX11_weakest HX hR k1) (fun h1 => wX12_weakest HM h1 k2) I ⟨D, k3⟩
theorem lb_twice (x : Nat) (a : Int32) : lw_B mX11_twice mX12_twice x [.int a] := fun R nx sh mu I => by
  obtain ⟨HX, HM, -, -, hR, D, h⟩ := id I
  obtain ⟨r, mu1, mu2, k1, k2, k3⟩ := li_twice h a
  exact lw_fx (r := r) (mu1 := mu1) (mu2 := mu2) (d1 := 4) (d2 := 28) (by decide) (by decide) (wX11_twice HX hR k1) (fun h1 => wX12_twice HM h1 k2) I ⟨D, k3⟩
theorem lb_alike (x : Nat) (a b : Int32) : lw_B mX11_alike mX12_alike x [.int a, .int b] := fun R nx sh mu I => by
  obtain ⟨HX, HM, -, -, hR, D, h⟩ := id I
  obtain ⟨r, mu1, mu2, k1, k2, k3⟩ := li_alike h a b
  exact lw_fx (r := r) (mu1 := mu1) (mu2 := mu2) (d1 := 5) (d2 := 24) (by decide) (by decide) (wX11_alike HX hR k1) (fun h1 => wX12_alike HM h1 k2) I ⟨D, k3⟩
theorem lb_match (x : Nat) (a b c : Int32) : lw_B mX11_match mX12_match x [.int a, .int b, .int c] := fun R nx sh mu I => by
  obtain ⟨HX, HM, -, -, hR, D, h⟩ := id I
  obtain ⟨r, mu1, mu2, k1, k2, k3⟩ := li_match h a b c
  exact lw_fx (r := r) (mu1 := mu1) (mu2 := mu2) (d1 := 5) (d2 := 24) (by decide) (by decide) (wX11_match HX hR k1) (fun h1 => wX12_match HM h1 k2) I ⟨D, k3⟩
theorem lb_plain (x : Nat) (a : Int32) : lw_B mX11_plain mX12_plain x [.int a] := fun R nx sh mu I => by
  obtain ⟨HX, HM, -, -, hR, D, h⟩ := id I
  obtain ⟨r, mu1, mu2, D2, k1, k2, k3⟩ := li_plain h a
  exact lw_fx (r := r) (mu1 := mu1) (mu2 := mu2) (d1 := 4) (d2 := 3) (by decide) (by decide) (wX11_plain HX hR k1) (fun h1 => wX12_plain HM h1 k2) I ⟨D2, k3⟩
theorem lb_fault (x : Nat) (a : Int32) : lw_B mX11_fault mX12_fault x [.int a] := fun R nx sh mu I => by
  obtain ⟨HX, HM, -, -, hR, D, h⟩ := id I
  obtain ⟨r, mu1, mu2, k1, k2, k3⟩ := li_fault h a
  exact lw_fx (r := r) (mu1 := mu1) (mu2 := mu2) (d1 := 6) (d2 := 374) (by decide) (by decide) (wX11_fault HX hR k1) (fun h1 => wX12_fault HM h1 k2) I ⟨D, k3⟩
theorem lb_figure (x : Nat) : lw_B mX11_figure mX12_figure x [] := fun R nx sh mu I => by
  obtain ⟨HX, HM, -, -, hR, D, h⟩ := id I
  obtain ⟨r, mu1, mu2, D2, k1, k2, k3⟩ := li_figure h 
  exact lw_fx (r := r) (mu1 := mu1) (mu2 := mu2) (d1 := 6) (d2 := 30) (by decide) (by decide) (wX11_figure HX hR k1) (fun h1 => wX12_figure HM h1 k2) I ⟨D2, k3⟩
theorem lb_rule (x : Nat) : lw_B mX11_rule mX12_rule x [] := fun R nx sh mu I => by
  obtain ⟨HX, HM, -, -, hR, D, h⟩ := id I
  obtain ⟨r, mu1, mu2, D2, k1, k2, k3⟩ := li_rule h 
  exact lw_fx (r := r) (mu1 := mu1) (mu2 := mu2) (d1 := 6) (d2 := 374) (by decide) (by decide) (wX11_rule HX hR k1) (fun h1 => wX12_rule HM h1 k2) I ⟨D2, k3⟩
theorem lb_aged (x : Nat) (a b c d : Int32) : lw_B mX11_aged mX12_aged x [.int a, .int b, .int c, .int d] := fun R nx sh mu I => by
  obtain ⟨HX, HM, -, -, hR, D, h⟩ := id I
  obtain ⟨r, mu1, mu2, k1, k2, k3⟩ := li_aged h a b c d
  exact lw_fx (r := r) (mu1 := mu1) (mu2 := mu2) (d1 := 7) (d2 := 6) (by decide) (by decide) (wX11_aged HX hR k1) (fun h1 => wX12_aged HM h1 k2) I ⟨D, k3⟩
theorem lb_falls (x : Nat) (a b c : Int32) : lw_B mX11_falls mX12_falls x [.int a, .int b, .int c] := fun R nx sh mu I => by
  obtain ⟨HX, HM, -, -, hR, D, h⟩ := id I
  obtain ⟨r, mu1, mu2, k1, k2, k3⟩ := li_falls h a b c
  exact lw_fx (r := r) (mu1 := mu1) (mu2 := mu2) (d1 := 7) (d2 := 6) (by decide) (by decide) (wX11_falls HX hR k1) (fun h1 => wX12_falls HM h1 k2) I ⟨D, k3⟩
theorem lb_add (x : Nat) (a b c d : Int32) : lw_B mX11_add mX12_add x [.int a, .int b, .int c, .int d] := fun R nx sh mu I => by
  obtain ⟨HX, HM, -, -, hR, D, h⟩ := id I
  obtain ⟨r, mu1, mu2, D2, k1, k2, k3⟩ := li_add h a b c d
  exact lw_fx (r := r) (mu1 := mu1) (mu2 := mu2) (d1 := 3) (d2 := 3) (by decide) (by decide) (wX11_add HX hR k1) (fun h1 => wX12_add HM h1 k2) I ⟨D2, k3⟩
theorem lb_comes (x : Nat) (a b c : Int32) : lw_B mX11_comes mX12_comes x [.int a, .int b, .int c] := fun R nx sh mu I => by
  obtain ⟨HX, HM, -, -, hR, D, h⟩ := id I
  obtain ⟨r, mu1, mu2, D2, k1, k2, k3⟩ := li_comes h a b c
  exact lw_fx (r := r) (mu1 := mu1) (mu2 := mu2) (d1 := 1) (d2 := 2) (by decide) (by decide) (wX11_comes HX hR k1) (fun h1 => wX12_comes HM h1 k2) I ⟨D2, k3⟩
theorem lb_made (x : Nat) (a b : Int32) : lw_B mX11_made mX12_made x [.int a, .int b] := fun R nx sh mu I => by
  obtain ⟨HX, HM, -, -, hR, D, h⟩ := id I
  obtain ⟨r, mu1, mu2, k1, k2, k3⟩ := (li_made h a b 0).1
  exact lw_fx (r := r) (mu1 := mu1) (mu2 := mu2) (d1 := 4) (d2 := 5) (by decide) (by decide) (wX11_made HX hR k1) (fun h1 => wX12_made HM h1 k2) I ⟨D, k3⟩
theorem lb_set (x : Nat) (a b c : Int32) : lw_B mX11_set mX12_set x [.int a, .int b, .int c] := fun R nx sh mu I => by
  obtain ⟨HX, HM, -, -, hR, D, h⟩ := id I
  obtain ⟨r, mu1, mu2, k1, k2, k3⟩ := (li_made h a b c).2
  exact lw_fx (r := r) (mu1 := mu1) (mu2 := mu2) (d1 := 5) (d2 := 5) (by decide) (by decide) (wX11_set HX hR k1) (fun h1 => wX12_set HM h1 k2) I ⟨D, k3⟩
theorem lb_run (x : Nat) (a : Int64) : lw_B mX11_run mX12_run x [.long a] := fun R nx sh mu I => by
  obtain ⟨HX, HM, -, -, hR, D, h⟩ := id I
  obtain ⟨r, mu1, mu2, D2, k1, k2, k3⟩ := li_run h a
  exact lw_fx (r := r) (mu1 := mu1) (mu2 := mu2) (d1 := 4) (d2 := 1) (by decide) (by decide) (wX11_run HX hR k1) (fun h1 => wX12_run HM h1 k2) I ⟨D2, k3⟩
theorem lb_hands (x : Nat) (a : Int32) : lw_B mX11_hands mX12_hands x [.int a] := fun R nx sh mu I => by
  obtain ⟨HX, HM, -, -, hR, ⟨T, S, ⟨fc, FG⟩, ⟨rc, UR⟩, ⟨qn, QT, QJ, QP⟩, ⟨ST, pu, pb⟩, ⟨rn, V⟩⟩, h⟩ := id I
  have hF : cFG x fc FG mu := h.1.2.2.1
  have hG : mFG (x + 159) fc FG mu := h.2.1.2.2.1
  have h12 := hF.1
  rcases g_at_c fc (by omega) a with ha | ⟨j, hj, ha⟩
  · exact lw_fx (d1 := 10) (d2 := 10) (by decide) (by decide) (lw_no hR (c_handsN (fg_stS HX hR) hF ha)) (fun h1 => lw_no h1 (n_handsN (fg_stS HM h1) hG ha)) I ⟨_, h⟩
  · subst ha
    exact lw_fx (d1 := 10) (d2 := 10) (by decide) (by decide) (lw_no hR (c_handsY (fg_stS HX hR) hF hj)) (fun h1 => lw_no h1 (n_handsY (fg_stS HM h1) hG hj)) I ⟨_, h⟩
theorem lb_ends (x : Nat) (a b : Int32) : lw_B mX11_ends mX12_ends x [.int a, .int b] := fun R nx sh mu I => by
  obtain ⟨HX, HM, -, -, hR, ⟨T, S, ⟨fc, FG⟩, ⟨rc, UR⟩, ⟨qn, QT, QJ, QP⟩, ⟨ST, pu, pb⟩, ⟨rn, V⟩⟩, h⟩ := id I
  have hF : cFG x fc FG mu := h.1.2.2.1
  have hG : mFG (x + 159) fc FG mu := h.2.1.2.2.1
  have h12 := hF.1
  rcases g_at_c fc (by omega) a with ha | ⟨j, hj, ha⟩
  · exact lw_fx (d1 := 10) (d2 := 10) (by decide) (by decide) (lw_no hR (c_endsN (fg_stS HX hR) hF ha b)) (fun h1 => lw_no h1 (n_endsN (fg_stS HM h1) hG ha b)) I ⟨_, h⟩
  · subst ha
    have np := g_bn (hF.2.2 j hj).1
    rcases g_at_c (g_np (FG j)) (by have := np.2.1; have := np.2.2.1; omega) b with hb | ⟨p, hp, hb⟩
    · exact lw_fx (d1 := 10) (d2 := 10) (by decide) (by decide) (lw_no hR (c_endsB (fg_stS HX hR) hF hj hb)) (fun h1 => lw_no h1 (n_endsB (fg_stS HM h1) hG hj hb)) I ⟨_, h⟩
    · subst hb
      exact lw_fx (d1 := 10) (d2 := 10) (by decide) (by decide) (lw_no hR (c_endsY (fg_stS HX hR) hF hj hp)) (fun h1 => lw_no h1 (n_endsY (fg_stS HM h1) hG hj hp)) I ⟨_, h⟩
theorem lb_holds (x : Nat) (a b : Int32) : lw_B mX11_holds mX12_holds x [.int a, .int b] := fun R nx sh mu I => by
  obtain ⟨HX, HM, -, -, hR, ⟨T, S, ⟨fc, FG⟩, ⟨rc, UR⟩, ⟨qn, QT, QJ, QP⟩, ⟨ST, pu, pb⟩, ⟨rn, V⟩⟩, h⟩ := id I
  have hF : cFG x fc FG mu := h.1.2.2.1
  have hG : mFG (x + 159) fc FG mu := h.2.1.2.2.1
  have h12 := hF.1
  rcases g_at_c fc (by omega) a with ha | ⟨j, hj, ha⟩
  · exact lw_fx (d1 := 10) (d2 := 10) (by decide) (by decide) (lw_no hR (c_holdsN (fg_stS HX hR) hF ha b)) (fun h1 => lw_no h1 (n_holdsN (fg_stS HM h1) hG ha b)) I ⟨_, h⟩
  · subst ha
    have np := g_bn (hF.2.2 j hj).1
    rcases g_at_c (g_nu (FG j)) (by have := np.2.1; have := np.2.2.1; omega) b with hb | ⟨p, hp, hb⟩
    · exact lw_fx (d1 := 10) (d2 := 10) (by decide) (by decide) (lw_no hR (c_holdsB (fg_stS HX hR) hF hj hb)) (fun h1 => lw_no h1 (n_holdsB (fg_stS HM h1) hG hj hb)) I ⟨_, h⟩
    · subst hb
      exact lw_fx (d1 := 10) (d2 := 10) (by decide) (by decide) (lw_no hR (c_holdsY (fg_stS HX hR) hF hj hp)) (fun h1 => lw_no h1 (n_holdsY (fg_stS HM h1) hG hj hp)) I ⟨_, h⟩
theorem lb_bursts (x : Nat) (a b : Int32) : lw_B mX11_bursts mX12_bursts x [.int a, .int b] := fun R nx sh mu I => by
  obtain ⟨HX, HM, -, -, hR, ⟨T, S, ⟨fc, FG⟩, ⟨rc, UR⟩, ⟨qn, QT, QJ, QP⟩, ⟨ST, pu, pb⟩, ⟨rn, V⟩⟩, h⟩ := id I
  have hF : cFG x fc FG mu := h.1.2.2.1
  have hG : mFG (x + 159) fc FG mu := h.2.1.2.2.1
  have hO : cSo x S mu := h.1.2.1
  have hP : mSo (x + 159) S mu := h.2.1.2.1
  have hk : so_ok S := h.2.2.1
  have hD : ∀ k, k < fc → g_iv (FG k) ∧ ∀ b, b < g_nb (FG k) → g_so (FG k) b < S.1 := h.2.2.2.1
  have h12 := hF.1
  rcases g_at_c fc (by omega) a with ha | ⟨j, hj, ha⟩
  · exact lw_fx (d1 := 10) (d2 := 10) (by decide) (by decide) (lw_no hR (c_burstsN (fg_stS HX hR) hF ha b)) (fun h1 => lw_no h1 (n_burstsN (fg_stS HM h1) hG ha b)) I ⟨_, h⟩
  · subst ha
    have np := g_bn (hF.2.2 j hj).1
    rcases g_at_c (g_nb (FG j)) (by have := np.1; omega) b with hb | ⟨p, hp, hb⟩
    · exact lw_fx (d1 := 10) (d2 := 10) (by decide) (by decide) (lw_no hR (c_burstsB (fg_stS HX hR) hF hj hb)) (fun h1 => lw_no h1 (n_burstsB (fg_stS HM h1) hG hj hb)) I ⟨_, h⟩
    · subst hb
      exact lw_fx (d1 := 10) (d2 := 10) (by decide) (by decide) (lw_no hR (c_burstsY (fg_stS HX hR) hF hj hO hk (hD j hj).2 hp)) (fun h1 => lw_no h1 (n_burstsY (fg_stS HM h1) hG hj hP hk (hD j hj).2 hp)) I ⟨_, h⟩
theorem lb_rest (x : Nat) (a b : Int32) : lw_B mX11_rest mX12_rest x [.int a, .int b] := fun R nx sh mu I => by
  obtain ⟨HX, HM, -, -, hR, ⟨T, S, ⟨fc, FG⟩, ⟨rc, UR⟩, ⟨qn, QT, QJ, QP⟩, ⟨ST, pu, pb⟩, ⟨rn, V⟩⟩, h⟩ := id I
  have hF : cFG x fc FG mu := h.1.2.2.1
  have hG : mFG (x + 159) fc FG mu := h.2.1.2.2.1
  have hO : cSo x S mu := h.1.2.1
  have hP : mSo (x + 159) S mu := h.2.1.2.1
  have hk : so_ok S := h.2.2.1
  have hD : ∀ k, k < fc → g_iv (FG k) ∧ ∀ b, b < g_nb (FG k) → g_so (FG k) b < S.1 := h.2.2.2.1
  have h12 := hF.1
  rcases g_at_c fc (by omega) a with ha | ⟨j, hj, ha⟩
  · exact lw_fx (d1 := 10) (d2 := 10) (by decide) (by decide) (lw_no hR (c_restN (fg_stS HX hR) hF ha b)) (fun h1 => lw_no h1 (n_restN (fg_stS HM h1) hG ha b)) I ⟨_, h⟩
  · subst ha
    have np := g_bn (hF.2.2 j hj).1
    rcases g_at_c (g_nb (FG j)) (by have := np.1; omega) b with hb | ⟨p, hp, hb⟩
    · exact lw_fx (d1 := 10) (d2 := 10) (by decide) (by decide) (lw_no hR (c_restB (fg_stS HX hR) hF hj hb)) (fun h1 => lw_no h1 (n_restB (fg_stS HM h1) hG hj hb)) I ⟨_, h⟩
    · subst hb
      exact lw_fx (d1 := 10) (d2 := 10) (by decide) (by decide) (lw_no hR (c_restY (fg_stS HX hR) hF hj hO hk (hD j hj).2 hp)) (fun h1 => lw_no h1 (n_restY (fg_stS HM h1) hG hj hP hk (hD j hj).2 hp)) I ⟨_, h⟩
