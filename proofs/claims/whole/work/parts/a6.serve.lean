/-! RUN: the class's turns -/
/-- a guest's turn: how it went, and the shelf, taken, tick, x behind it -/
def rn_o (G : bs_G) (pu pb : Int32) (CH : Nat → Int32) (c p : Int32) (s : rn_S) : Int32 × rn_S := if s.2.2.1 - c ≤ p then (if rn_th G s.1 then rn_f G pu pb CH (g_nb G) 0 s else (nI 2, s)) else (nI 1, s)
set_option maxHeartbeats 1000000 in
theorem sf_outc {x f g : Nat} {G : bs_G} {pu pb c p : Int32} {CH : Nat → Int32} {s : rn_S} {mu0 mu : bs_Mm} (hx : x + 63 ≤ f) (hg : g < 30) (hV : cFv f G mu) (hG : g_ok G) (h53 : bs_iv (mu (x + 53) g) = s.2.2.1) (h56 : bs_iv (mu (x + 56) g) = c) (h58 : bs_iv (mu (x + 58) g) = p) (hpu : bs_iv (mu (x + 50) 1) = pu) (hpb : bs_iv (mu (x + 50) 2) = pb) (hCH : ∀ b, b < g_nb G → bs_iv (mu (x + 4) (g_so G b)) = CH (g_so G b)) (hC : rn_C x g mu mu s) : ∃ mu', FX9_outcomeFor x mu (nI g) f = some ((rn_o G pu pb CH c p s).1, mu') ∧ rn_C x g mu mu' (rn_o G pu pb CH c p s).2 := by
  have q0 := g_bn hG
  unfold FX9_outcomeFor rn_o
  rw [fn_in hg (by decide), fg_gd_t, fg_gd_t, fg_gd_t, fn_cl (by omega), h53, h56, h58]
  by_cases cl : s.2.2.1 - c ≤ p
  · rw [if_pos cl, if_pos cl]
    obtain ⟨mu1, m1, m2⟩ := sf_isTh hx hV hG hC.1
    have hC1 : rn_C x g mu mu1 s := by
      obtain ⟨h1, h2, h3, h4, -, -, -, -⟩ := hC
      refine ⟨fun k hk => by rw [m2 _ (by omega)]; exact h1 k hk, by rw [m2 _ (by omega)]; exact h2, by rw [m2 _ (by omega)]; exact h3, by rw [m2 _ (by omega)]; exact h4, fun j _ => by rw [m2 _ (by omega)], fun j _ => by rw [m2 _ (by omega)], fun j _ => by rw [m2 _ (by omega)], fun a _ _ _ _ a5 => m2 a a5⟩
    rw [m1, fg_b2_s]
    by_cases ct : rn_th G s.1
    · rw [if_pos ct, if_pos ct, if_neg (show ¬ nI 1 = 0 by decide)]
      refine Exists.elim (fg_lp_i (body := FX9_outcomeFor_b37 x f (nI g)) (fun r st => ∃ b s1, st.1 = nI b ∧ b + r = g_nb G ∧ rn_C x g mu st.2 s1 ∧ rn_f G pu pb CH r b s1 = rn_f G pu pb CH (g_nb G) 0 s) (fun t => (∃ mu2, t = .inl mu2 ∧ (rn_f G pu pb CH (g_nb G) 0 s).1 = nI 0 ∧ rn_C x g mu mu2 (rn_f G pu pb CH (g_nb G) 0 s).2) ∨ ∃ mu2, t = .inr (nI 3, mu2) ∧ (rn_f G pu pb CH (g_nb G) 0 s).1 = nI 3 ∧ rn_C x g mu mu2 (rn_f G pu pb CH (g_nb G) 0 s).2) (fun r st hI => ?_) fg_fu (g_nb G) (nI 0, mu1) ⟨0, s, rfl, by omega, hC1, rfl⟩ (fg_fu_lt (by omega))) (fun t ht => ?_)
      · obtain ⟨bv, mu2⟩ := st
        obtain ⟨b, s1, e, hr, hC2, he⟩ := hI
        have e : bv = nI b := e
        subst e
        have hC2 : rn_C x g mu mu2 s1 := hC2
        obtain ⟨c1, c2, c3, c4, c5, c6, c7, c8⟩ := id hC2
        have hV2 : cFv f G mu2 := cFv_of hV (fun k _ => c8 _ (by omega) (by omega) (by omega) (by omega) (by omega))
        cases r with
        | zero =>
          have e : b = g_nb G := by omega
          subst e
          refine Or.inr ⟨.inl mu2, ?_, Or.inl ⟨mu2, rfl, by rw [← he]; rfl, by rw [← he]; exact hC2⟩⟩
          unfold FX9_outcomeFor_b37
          simp (disch := omega) only [fg_gd_t, fg_bd_s, fg_b2_s, fg_wr_s, fg_let_s, fn_add, fn_sub, fn_mul, fn_cl, fn_lt, fn_le, fn_eq, fn_eq0, fn_lt0, fn_0le, fn_0lt, fn_le0, fn_in, fn_shl, fn_shr, fa_and, fa_or, bs_xorI, if_true, if_false, hV2.1, Nat.le_refl]
        | succ r =>
          have hb : b < g_nb G := by omega
          have so := hG.2.2.2.2.1 b hb
          have rs := hV2.2.2.2.2.1 b hb
          have cb := sf_bubOf (x := x) hV2 hG (show b < 2 ^ 30 by omega)
          have e1 : bs_iv (mu2 (x + 50) 1) = pu := by rw [c7 1 (by decide)]; exact hpu
          have e2 : bs_iv (mu2 (x + 50) 2) = pb := by rw [c7 2 (by decide)]; exact hpb
          have e4 : bs_iv (mu2 (x + 4) (g_so G b)) = CH (g_so G b) := by rw [c8 _ (by omega) (by omega) (by omega) (by omega) (by omega)]; exact hCH b hb
          obtain ⟨k1, k2⟩ := c1 _ so
          obtain ⟨mu3, n1, n2⟩ := sf_mkB (tk := pb + pu * nI (g_cb G b (g_nu G))) (ch := CH (g_so G b)) hg so k2 (show rn_R x g (g_so G b) mu2 mu2 (s1.1 (g_so G b)) s1.2.1 s1.2.2.1 s1.2.2.2 from ⟨k1, c2, c3, c4, fun _ _ => rfl, fun _ _ => rfl, fun _ _ => rfl, fun _ _ => rfl, fun _ _ _ _ _ => rfl⟩)
          have hC3 := rn_C_mk hC2 (Nat.le_trans (rn_mk_le _ _ _ _) k2) n2
          have ev : FX9_outcomeFor_b37 x f (nI g) (nI b, mu2) = if (rn_mk (pb + pu * nI (g_cb G b (g_nu G))) (CH (g_so G b)) (s1.1 (g_so G b)) s1.2).1 = true then some (.inl (nI (b + 1), mu3)) else some (.inr (.inr (nI 3, mu3))) := by
            unfold FX9_outcomeFor_b37
            simp (disch := omega) only [fg_gd_t, fg_bd_s, fg_b2_s, fg_wr_s, fg_let_s, fn_add, fn_sub, fn_mul, fn_cl, fn_lt, fn_le, fn_eq, fn_eq0, fn_lt0, fn_0le, fn_0lt, fn_le0, fn_in, fn_shl, fn_shr, fa_and, fa_or, bs_xorI, if_true, if_false, hV2.1, if_neg (show ¬ g_nb G ≤ b by omega), rs, cb]
            rw [e1, e2, e4, n1, fg_b2_s]
            cases hz : (rn_mk (pb + pu * nI (g_cb G b (g_nu G))) (CH (g_so G b)) (s1.1 (g_so G b)) (s1.2.1, s1.2.2.1, s1.2.2.2)).1 with
            | true => rfl
            | false => rfl
          rw [rn_f] at he
          by_cases y : (rn_mk (pb + pu * nI (g_cb G b (g_nu G))) (CH (g_so G b)) (s1.1 (g_so G b)) s1.2).1 = true
          · rw [if_pos y] at he
            exact Or.inl ⟨(nI (b + 1), mu3), r, by rw [ev, if_pos y], Nat.lt_succ_self r, b + 1, _, rfl, by omega, hC3, he⟩
          · rw [if_neg y] at he
            exact Or.inr ⟨.inr (nI 3, mu3), by rw [ev, if_neg y], Or.inr ⟨mu3, rfl, by rw [← he], by rw [← he]; exact hC3⟩⟩
      · obtain ⟨t1, t2⟩ := ht
        rw [t1]
        rcases t2 with ⟨mu2, e, e2, e3⟩ | ⟨mu2, e, e2, e3⟩
        · subst e
          rw [fg_l3_l, e2]
          exact ⟨mu2, rfl, e3⟩
        · subst e
          rw [fg_l3_r, e2]
          exact ⟨mu2, rfl, e3⟩
    · rw [if_neg ct, if_neg ct, if_pos (show nI 0 = 0 from rfl)]
      exact ⟨mu1, rfl, hC1⟩
  · rw [if_neg cl, if_neg cl]
    exact ⟨mu, rfl, hC⟩
/-- all that a run goes by: figures; tick, figure, patience of a guest; paces; chances; stock; seed -/
abbrev rn_Z : Type := (Nat → bs_G) × (Nat → Nat) × (Nat → Nat) × (Nat → Nat) × Int32 × Int32 × (Nat → Int32) × (Nat → Nat) × Int64
def rz_G (Z : rn_Z) (g : Nat) : bs_G := Z.1 (Z.2.2.1 g)
def rz_t (Z : rn_Z) (g : Nat) : Int32 := nI (Z.2.1 g)
def rz_j (Z : rn_Z) (g : Nat) : Nat := Z.2.2.1 g
def rz_p (Z : rn_Z) (g : Nat) : Int32 := nI (Z.2.2.2.1 g)
def rz_u (Z : rn_Z) : Int32 := Z.2.2.2.2.1
def rz_b (Z : rn_Z) : Int32 := Z.2.2.2.2.2.1
def rz_c (Z : rn_Z) : Nat → Int32 := Z.2.2.2.2.2.2.1
def rz_s (Z : rn_Z) : Nat → Nat := Z.2.2.2.2.2.2.2.1
def rz_x (Z : rn_Z) : Int64 := Z.2.2.2.2.2.2.2.2
/-- free, served, shelf, x behind g guests -/
abbrev rn_W : Type := Int32 × Int32 × (Nat → Nat) × Int64
def rn_bg (Z : rn_Z) (g : Nat) (w : rn_W) : Int32 := if w.1 < rz_t Z g then rz_t Z g else w.1
def rn_ou (Z : rn_Z) (g : Nat) (w : rn_W) : Int32 × rn_S := rn_o (rz_G Z g) (rz_u Z) (rz_b Z) (rz_c Z) (rz_t Z g) (rz_p Z g) (w.2.2.1, nI 0, rn_bg Z g w, w.2.2.2)
def rn_n (Z : rn_Z) : Nat → rn_W
  | 0 => (nI 0, nI 0, rz_s Z, rz_x Z)
  | g + 1 => ((rn_ou Z g (rn_n Z g)).2.2.2.1, (rn_n Z g).2.1 + (if (rn_ou Z g (rn_n Z g)).1 = 0 then nI 1 else nI 0), (rn_ou Z g (rn_n Z g)).2.1, (rn_ou Z g (rn_n Z g)).2.2.2.2)
def rn_V (Z : rn_Z) (g k : Nat) : Int32 := if k = 0 then (rn_ou Z g (rn_n Z g)).1 else if k = 1 then rn_bg Z g (rn_n Z g) else if k = 2 then (rn_ou Z g (rn_n Z g)).2.2.2.1 else (rn_ou Z g (rn_n Z g)).2.2.1
/-- the class's queue and stall -/
def cQU (x n : Nat) (T J P : Nat → Nat) (mu : bs_Mm) : Prop := n ≤ 30 ∧ bs_iv (mu (x + 50) 3) = nI n ∧ bs_rw mu (x + 56) n T ∧ bs_rw mu (x + 57) n J ∧ bs_rw mu (x + 58) n P
def cSK (x : Nat) (ST : Nat → Nat) (pu pb : Int32) (mu : bs_Mm) : Prop := (∀ k, k < 6 → bs_iv (mu (x + 51) k) = nI (ST k) ∧ ST k ≤ 99) ∧ bs_iv (mu (x + 50) 1) = pu ∧ bs_iv (mu (x + 50) 2) = pb
