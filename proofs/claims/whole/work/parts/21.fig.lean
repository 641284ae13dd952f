/-! FIGURES (own): what a figure is, and how the class keeps it -/
theorem bs_callVn {Z : bs_Z} {X : bs_M} {rm : Room} {pc : Nat} {lo : bs_L} {st rest : List Value} {nc ns nx : Nat} {sh : bs_Sh} {mu : bs_Mm} {ix n ci b d0 : Nat} {Y : bs_M} {As : List Value} {w0 : Value} (d : decode X.2.1 pc = .ok (.invokevirtual ix, 3)) (w : bs_cv X.1.cls ix Y n ci) (hC : bs_C Y (bs_rm d0 0 0) (.ref b :: As) nx sh mu (bs_no nx sh mu w0)) (hn : As.length = n) (hb : (sh b).1 = ci) (hst : st = As.reverse ++ .ref b :: rest) (hw : (rest.map fun v => v.category).sum ≤ 8) (hR : bs_cr rm (bs_rm d0 0 0) Y.2.2.1 nc ns)
    (kk : bs_V Z X rm (pc + 3) lo (w0 :: rest) nc ns nx sh mu) : bs_V Z X rm pc lo st nc ns nx sh mu :=
  bs_callV d w hC hn hb hst hw hR fun v nx' sh' mu' h => by
    obtain ⟨e1, e2, e3, e4⟩ := h
    rw [e1, e2, e3, e4]
    exact kk
theorem bs_callSn {Z : bs_Z} {X : bs_M} {rm : Room} {pc : Nat} {lo : bs_L} {st rest : List Value} {nc ns nx : Nat} {sh : bs_Sh} {mu : bs_Mm} {ix n d0 : Nat} {Y : bs_M} {As : List Value} {w0 : Value} (d : decode X.2.1 pc = .ok (.invokestatic ix, 3)) (w : bs_cs X.1.cls ix Y n) (hC : bs_C Y (bs_rm d0 0 0) As nx sh mu (bs_no nx sh mu w0)) (hn : As.length = n) (hst : st = As.reverse ++ rest) (hw : (rest.map fun v => v.category).sum ≤ 8) (hR : bs_cr rm (bs_rm d0 0 0) Y.2.2.1 nc ns)
    (kk : bs_V Z X rm (pc + 3) lo (w0 :: rest) nc ns nx sh mu) : bs_V Z X rm pc lo st nc ns nx sh mu :=
  bs_callS d w hC hn hst hw hR fun v nx' sh' mu' h => by
    obtain ⟨e1, e2, e3, e4⟩ := h
    rw [e1, e2, e3, e4]
    exact kk
/-- a figure: balloons, bubbles, points, hands; a balloon's sort; a bubble's length, ends, balloon -/
abbrev bs_G : Type := (Nat × Nat × Nat × Nat) × (Nat → Nat) × (Nat → Nat) × (Nat → Nat) × (Nat → Nat) × (Nat → Nat)
def g_nb (G : bs_G) : Nat := G.1.1
def g_nu (G : bs_G) : Nat := G.1.2.1
def g_np (G : bs_G) : Nat := G.1.2.2.1
def g_mh (G : bs_G) : Nat := G.1.2.2.2
def g_so (G : bs_G) : Nat → Nat := G.2.1
def g_le (G : bs_G) : Nat → Nat := G.2.2.1
def g_fr (G : bs_G) : Nat → Nat := G.2.2.2.1
def g_to (G : bs_G) : Nat → Nat := G.2.2.2.2.1
def g_bo (G : bs_G) : Nat → Nat := G.2.2.2.2.2
def g_sm (h : Nat → Nat) : Nat → Nat | 0 => 0 | k + 1 => g_sm h k + h k
def g_if (p : Prop) [Decidable p] : Nat := if p then 1 else 0
theorem g_if1 {p : Prop} [Decidable p] (h : p) : g_if p = 1 := if_pos h
theorem g_if0 {p : Prop} [Decidable p] (h : ¬ p) : g_if p = 0 := if_neg h
theorem g_if_le (p : Prop) [Decidable p] : g_if p ≤ 1 := by unfold g_if; split <;> omega
theorem g_sm_le {h : Nat → Nat} {c : Nat} (hh : ∀ k, h k ≤ c) : ∀ k, g_sm h k ≤ c * k := by
  intro k
  induction k with
  | zero => exact Nat.le_refl _
  | succ k ih => have := hh k; simp only [g_sm]; rw [Nat.mul_succ]; omega
/-- the ends at a point -/
def g_en (G : bs_G) (p : Nat) : Nat := g_sm (fun i => g_if (g_fr G i = p) + g_if (g_to G i = p)) (g_nu G)
/-- 1 where a twist lies behind bubble i; where it is slack -/
def g_tw (G : bs_G) (i : Nat) : Nat := g_if (i + 1 < g_nu G ∧ g_bo G i = g_bo G (i + 1))
def g_sl (G : bs_G) (i : Nat) : Nat := g_if (g_tw G i = 1 ∧ g_en G (g_to G i) < 3)
def g_ok (G : bs_G) : Prop := g_nb G ≤ 6 ∧ g_nu G ≤ 24 ∧ g_np G ≤ 30 ∧ (∀ i, i < g_nu G → g_fr G i < g_np G ∧ g_to G i < g_np G ∧ g_bo G i < g_nb G) ∧ (∀ b, b < g_nb G → g_so G b < 6) ∧ (∀ b, b < g_nb G → g_sm (fun i => if g_bo G i = b then g_le G i else 0) (g_nu G) ≤ 720) ∧ g_mh G ≤ 24 ∧ ∀ i, i + 1 < g_nu G → g_bo G i ≤ g_bo G (i + 1)
theorem g_en_le (G : bs_G) (p : Nat) : g_en G p ≤ 2 * g_nu G := g_sm_le (fun i => by have h1 := g_if_le (g_fr G i = p); have h2 := g_if_le (g_to G i = p); omega) _
theorem g_sm_one {h : Nat → Nat} {i : Nat} : ∀ {n : Nat}, i < n → h i ≤ g_sm h n := by
  intro n
  induction n with
  | zero => intro h; omega
  | succ n ih =>
    intro hi
    simp only [g_sm]
    by_cases e : i = n
    · subst e; omega
    · have := ih (by omega); omega
theorem g_bd {G : bs_G} (h : g_ok G) {i : Nat} (hi : i < g_nu G) : g_fr G i < g_np G ∧ g_to G i < g_np G ∧ g_bo G i < g_nb G ∧ g_le G i ≤ 720 ∧ g_nb G ≤ 6 ∧ g_nu G ≤ 24 ∧ g_np G ≤ 30 := by
  obtain ⟨h1, h2, h3, h4, -, h6, -⟩ := h
  obtain ⟨a, b, c⟩ := h4 i hi
  have t : g_le G i ≤ g_sm (fun j => if g_bo G j = g_bo G i then g_le G j else 0) (g_nu G) := Nat.le_trans (Nat.le_of_eq (if_pos rfl).symm) (g_sm_one (h := fun j => if g_bo G j = g_bo G i then g_le G j else 0) hi)
  have t2 := h6 _ c
  exact ⟨a, b, c, by omega, h1, h2, h3⟩
theorem g_bn {G : bs_G} (h : g_ok G) : g_nb G ≤ 6 ∧ g_nu G ≤ 24 ∧ g_np G ≤ 30 ∧ g_mh G ≤ 24 := ⟨h.1, h.2.1, h.2.2.1, h.2.2.2.2.2.2.1⟩
theorem g_be {G : bs_G} (h : g_ok G) (p : Nat) : g_en G p ≤ 48 := by have := g_en_le G p; have := h.2.1; omega
theorem g_tw_le (G : bs_G) (i : Nat) : g_tw G i ≤ 1 := g_if_le _
theorem g_sl_le (G : bs_G) (i : Nat) : g_sl G i ≤ 1 := g_if_le _
theorem g_tw_in {G : bs_G} {i : Nat} (h : g_tw G i ≠ 0) : g_tw G i = 1 ∧ i + 1 < g_nu G ∧ g_bo G i = g_bo G (i + 1) := by
  unfold g_tw at h ⊢
  by_cases z : i + 1 < g_nu G ∧ g_bo G i = g_bo G (i + 1)
  · exact ⟨g_if1 z, z⟩
  · exact absurd (g_if0 z) h
theorem g_sm1 {h : Nat → Nat} (hh : ∀ k, h k ≤ 1) (k : Nat) : g_sm h k ≤ k := by have := g_sm_le hh k; omega
/-- the class's figure at f: its shape, its values -/
def cFs (f : Nat) (sh : bs_Sh) (mu : bs_Mm) : Prop := (sh f).1 = 1 ∧ (∀ k, k < 6 → bs_rv (mu f k) = some (f + 1 + k)) ∧ ∀ k, k < 6 → sh (f + 1 + k) = (14, if k = 0 then 6 else if k = 5 then 30 else 24)
def cFv (f : Nat) (G : bs_G) (mu : bs_Mm) : Prop := bs_iv (mu f 6) = nI (g_nb G) ∧ bs_iv (mu f 7) = nI (g_nu G) ∧ bs_iv (mu f 8) = nI (g_np G) ∧ bs_iv (mu f 9) = nI (g_mh G) ∧ bs_rw mu (f + 1) (g_nb G) (g_so G) ∧ bs_rw mu (f + 2) (g_nu G) (g_le G) ∧ bs_rw mu (f + 3) (g_nu G) (g_fr G) ∧ bs_rw mu (f + 4) (g_nu G) (g_to G) ∧ bs_rw mu (f + 5) (g_nu G) (g_bo G) ∧ bs_rw mu (f + 6) (g_np G) (g_en G)
set_option maxHeartbeats 4000000 in
theorem f_twistBehind {f nx : Nat} {sh : bs_Sh} {mu : bs_Mm} {G : bs_G} (hS : cFs f sh mu) (hV : cFv f G mu) (hG : g_ok G) (i : Nat) (hi : i < 2 ^ 30) : bs_C mX1_twistBehind (bs_rm 0 0 0) [.ref f, .int (nI i)] nx sh mu (bs_no nx sh mu (.int (nI (g_tw G i)))) := by
  have q0 := g_bn hG
  refine bs_ct (by decide +kernel) (Nat.le_of_ble_eq_true rfl) ?_
  refine bs_iload_n dX1_twistBehind_0 rfl ?_
  refine bs_iconst (v := nI 1) dX1_twistBehind_1 (by decide) ?_
  refine bs_iaddN dX1_twistBehind_2 ?_
  refine bs_aload_n dX1_twistBehind_3 rfl ?_
  refine bs_getN (v := (g_nu G)) dX1_twistBehind_4 fX1_40 (hS.1) (hV.2.1) ?_
  refine bs_icmp_geN (tgt := 31) dX1_twistBehind_7 (by decide) (by have q0 := hi; omega) (by have q0 := g_bn hG; omega) (fun c7 => ?_) (fun c7 => ?_)
  · refine bs_iconst (v := nI 0) dX1_twistBehind_31 (by decide) ?_
    exact bs_zret dX1_twistBehind_32 rfl (by decide) (by decide) (by decide) ⟨by rw [g_tw, g_if0 (by omega)], rfl, rfl, rfl⟩
  · refine bs_aload_n dX1_twistBehind_10 rfl ?_
    refine bs_getR (b := (f + 5)) dX1_twistBehind_11 fX1_24 (hS.1) (hS.2.1 4 (by decide)) ?_
    refine bs_iload_n dX1_twistBehind_14 rfl ?_
    refine bs_ialdN (n := 24) (v := (g_bo G i)) dX1_twistBehind_15 (hS.2.2 4 (by decide)) (by have q0 := hi; omega) (by decide) (hV.2.2.2.2.2.2.2.2.1 i (by have q0 := hi; omega)) ?_
    refine bs_aload_n dX1_twistBehind_16 rfl ?_
    refine bs_getR (b := (f + 5)) dX1_twistBehind_17 fX1_24 (hS.1) (hS.2.1 4 (by decide)) ?_
    refine bs_iload_n dX1_twistBehind_20 rfl ?_
    refine bs_iconst (v := nI 1) dX1_twistBehind_21 (by decide) ?_
    refine bs_iaddN dX1_twistBehind_22 ?_
    refine bs_ialdN (n := 24) (v := (g_bo G (i + 1))) dX1_twistBehind_23 (hS.2.2 4 (by decide)) (by have q0 := hi; omega) (by decide) (hV.2.2.2.2.2.2.2.2.1 (i + 1) (by have q0 := hi; omega)) ?_
    refine bs_icmp_neN (tgt := 31) dX1_twistBehind_24 (by decide) (by have q0 := g_bd hG (i := i) (by omega); omega) (by have q0 := g_bd hG (i := (i + 1)) (by omega); omega) (fun c24 => ?_) (fun c24 => ?_)
    · refine bs_iconst (v := nI 0) dX1_twistBehind_31 (by decide) ?_
      exact bs_zret dX1_twistBehind_32 rfl (by decide) (by decide) (by decide) ⟨by rw [g_tw, g_if0 (by omega)], rfl, rfl, rfl⟩
    · refine bs_iconst (v := nI 1) dX1_twistBehind_27 (by decide) ?_
      refine bs_goto (tgt := 32) dX1_twistBehind_28 (by decide) ?_
      exact bs_zret dX1_twistBehind_32 rfl (by decide) (by decide) (by decide) ⟨by rw [g_tw, g_if1 (by omega)], rfl, rfl, rfl⟩
set_option maxHeartbeats 4000000 in
theorem f_slackBehind {f nx : Nat} {sh : bs_Sh} {mu : bs_Mm} {G : bs_G} (hS : cFs f sh mu) (hV : cFv f G mu) (hG : g_ok G) (i : Nat) (hi : i < 2 ^ 30) : bs_C mX1_slackBehind (bs_rm 1 0 0) [.ref f, .int (nI i)] nx sh mu (bs_no nx sh mu (.int (nI (g_sl G i)))) := by
  have q0 := g_bn hG
  refine bs_ct (by decide +kernel) (Nat.le_of_ble_eq_true rfl) ?_
  refine bs_aload_n dX1_slackBehind_0 rfl ?_
  refine bs_iload_n dX1_slackBehind_1 rfl ?_
  refine bs_callVn dX1_slackBehind_2 qX1_65 (f_twistBehind hS hV hG i (by omega)) rfl (hS.1) rfl (Nat.le_of_ble_eq_true rfl) ⟨⟨by decide, by decide⟩, by decide, by decide⟩ ?_
  refine bs_if_eqN (tgt := 27) dX1_slackBehind_5 (by decide) (by have q0 := g_tw_le G i; omega) (fun c5 => ?_) (fun c5 => ?_)
  · refine bs_iconst (v := nI 0) dX1_slackBehind_27 (by decide) ?_
    exact bs_zret dX1_slackBehind_28 rfl (by decide) (by decide) (by decide) ⟨by rw [g_sl, g_if0 (by omega)], rfl, rfl, rfl⟩
  · have c5n := g_tw_in c5
    refine bs_aload_n dX1_slackBehind_8 rfl ?_
    refine bs_getR (b := (f + 6)) dX1_slackBehind_9 fX1_27 (hS.1) (hS.2.1 5 (by decide)) ?_
    refine bs_aload_n dX1_slackBehind_12 rfl ?_
    refine bs_getR (b := (f + 4)) dX1_slackBehind_13 fX1_21 (hS.1) (hS.2.1 3 (by decide)) ?_
    refine bs_iload_n dX1_slackBehind_16 rfl ?_
    refine bs_ialdN (n := 24) (v := (g_to G i)) dX1_slackBehind_17 (hS.2.2 3 (by decide)) (by have q0 := hi; omega) (by decide) (hV.2.2.2.2.2.2.2.1 i (by have q0 := hi; omega)) ?_
    refine bs_ialdN (n := 30) (v := (g_en G (g_to G i))) dX1_slackBehind_18 (hS.2.2 5 (by decide)) (by have q0 := g_bd hG (i := i) (by omega); omega) (by decide) (hV.2.2.2.2.2.2.2.2.2 (g_to G i) (by have q0 := g_bd hG (i := i) (by omega); omega)) ?_
    refine bs_iconst (v := nI 3) dX1_slackBehind_19 (by decide) ?_
    refine bs_icmp_geN (tgt := 27) dX1_slackBehind_20 (by decide) (by have q0 := g_be hG (g_to G i); omega) (by omega) (fun c20 => ?_) (fun c20 => ?_)
    · refine bs_iconst (v := nI 0) dX1_slackBehind_27 (by decide) ?_
      exact bs_zret dX1_slackBehind_28 rfl (by decide) (by decide) (by decide) ⟨by rw [g_sl, g_if0 (by omega)], rfl, rfl, rfl⟩
    · refine bs_iconst (v := nI 1) dX1_slackBehind_23 (by decide) ?_
      refine bs_goto (tgt := 28) dX1_slackBehind_24 (by decide) ?_
      exact bs_zret dX1_slackBehind_28 rfl (by decide) (by decide) (by decide) ⟨by rw [g_sl, g_if1 ⟨c5n.1, by omega⟩], rfl, rfl, rfl⟩
set_option maxHeartbeats 4000000 in
theorem f_twists_l {f nx : Nat} {sh : bs_Sh} {mu : bs_Mm} {G : bs_G} (hS : cFs f sh mu) (hV : cFv f G mu) (hG : g_ok G) : ∀ (r i : Nat), i + r = g_nu G → bs_W (bs_no nx sh mu (.int (nI (g_sm (g_tw G) (g_nu G))))) mX1_twists (bs_rm 1 0 0) 4 (bs_mk [(0, .ref f), (1, .int (nI (g_sm (g_tw G) i))), (2, .int (nI i))]) [] 0 0 nx sh mu := by
  have q0 := g_bn hG
  intro r
  induction r with
  | zero =>
    intro i hi
    refine bs_iload_n dX1_twists_4 rfl ?_
    refine bs_aload_n dX1_twists_5 rfl ?_
    refine bs_getN (v := (g_nu G)) dX1_twists_6 fX1_40 (hS.1) (hV.2.1) ?_
    refine bs_icmp_geN (tgt := 29) dX1_twists_9 (by decide) (by omega) (by have q0 := g_bn hG; omega) (fun c9 => ?_) (fun c9 => ?_)
    · refine bs_iload_n dX1_twists_29 rfl ?_
      exact bs_iret dX1_twists_30 rfl (by decide) (by decide) ⟨by rw [show i = g_nu G by omega], rfl, rfl, rfl⟩
    · omega
  | succ r ih =>
    intro i hi
    refine bs_iload_n dX1_twists_4 rfl ?_
    refine bs_aload_n dX1_twists_5 rfl ?_
    refine bs_getN (v := (g_nu G)) dX1_twists_6 fX1_40 (hS.1) (hV.2.1) ?_
    refine bs_icmp_geN (tgt := 29) dX1_twists_9 (by decide) (by omega) (by have q0 := g_bn hG; omega) (fun c9 => ?_) (fun c9 => ?_)
    · omega
    · refine bs_aload_n dX1_twists_12 rfl ?_
      refine bs_iload_n dX1_twists_13 rfl ?_
      refine bs_callVn dX1_twists_14 qX1_65 (f_twistBehind hS hV hG i (by omega)) rfl (hS.1) rfl (Nat.le_of_ble_eq_true rfl) ⟨⟨by decide, by decide⟩, by decide, by decide⟩ ?_
      refine bs_if_eqN (tgt := 23) dX1_twists_17 (by decide) (by have q0 := g_tw_le G i; omega) (fun c17 => ?_) (fun c17 => ?_)
      · refine bs_iincN (n := 1) dX1_twists_23 rfl rfl ?_
        refine bs_goto (tgt := 4) dX1_twists_26 (by decide) ?_
        refine bs_W.mk [(0, .ref f), (1, .int (nI (g_sm (g_tw G) (i + 1)))), (2, .int (nI (i + 1)))] ?_ (ih (i + 1) (by omega))
        intro q hq
        simp only [List.mem_cons, List.not_mem_nil, or_false] at hq
        rcases hq with rfl | rfl | rfl
        · rfl
        · show some (Value.int (nI (g_sm (g_tw G) i))) = some (Value.int (nI (g_sm (g_tw G) (i + 1))))
          rw [g_sm, c17, Nat.add_zero]
        · rfl
      · refine bs_iincN (n := 1) dX1_twists_20 rfl rfl ?_
        refine bs_iincN (n := 1) dX1_twists_23 rfl rfl ?_
        refine bs_goto (tgt := 4) dX1_twists_26 (by decide) ?_
        refine bs_W.mk [(0, .ref f), (1, .int (nI (g_sm (g_tw G) (i + 1)))), (2, .int (nI (i + 1)))] ?_ (ih (i + 1) (by omega))
        intro q hq
        simp only [List.mem_cons, List.not_mem_nil, or_false] at hq
        rcases hq with rfl | rfl | rfl
        · rfl
        · show some (Value.int (nI ((g_sm (g_tw G) i) + 1))) = some (Value.int (nI (g_sm (g_tw G) (i + 1))))
          rw [g_sm, (g_tw_in c17).1]
        · rfl
set_option maxHeartbeats 4000000 in
theorem f_twists {f nx : Nat} {sh : bs_Sh} {mu : bs_Mm} {G : bs_G} (hS : cFs f sh mu) (hV : cFv f G mu) (hG : g_ok G) : bs_C mX1_twists (bs_rm 1 0 0) [.ref f] nx sh mu (bs_no nx sh mu (.int (nI (g_sm (g_tw G) (g_nu G))))) := by
  refine bs_ct (by decide +kernel) (Nat.le_of_ble_eq_true rfl) ?_
  refine bs_iconst (v := nI 0) dX1_twists_0 (by decide) ?_
  refine bs_istore_n dX1_twists_1 rfl (by decide) ?_
  refine bs_iconst (v := nI 0) dX1_twists_2 (by decide) ?_
  refine bs_istore_n dX1_twists_3 rfl (by decide) ?_
  refine bs_W.mk [(0, .ref f), (1, .int (nI (g_sm (g_tw G) 0))), (2, .int (nI 0))] ?_ (f_twists_l hS hV hG (g_nu G) 0 (by omega))
  intro q hq
  simp only [List.mem_cons, List.not_mem_nil, or_false] at hq
  rcases hq with rfl | rfl | rfl <;> rfl
