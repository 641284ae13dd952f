/-! THE CALLS (own): bubble, guest, worth of the class where they throw, in every state -/
set_option maxHeartbeats 4000000 in
set_option maxRecDepth 100000 in
theorem cx_bub {x nx fc : Nat} {FG : Nat → bs_G} {R : Nat → Nat → Option Nat} {sh : bs_Sh} {mu : bs_Mm} (HX : fg_S (bs_tS x) R x sh) (hR : fg_R R mu) (hF : cFG x fc FG mu) (a b e : Int32) (hbad : (a < 0 ∨ nI fc ≤ a) ∨ ∃ j, j < fc ∧ a = nI j ∧ ((b < 0 ∨ nI (g_nu (FG j)) ≤ b) ∨ ∃ p, p < g_nu (FG j) ∧ b = nI p ∧ ∀ k, k < 5 → e ≠ nI k)) : bs_CX mX11_bubble (bs_rm 10 1 6) [.ref x, .int a, .int b, .int e] nx sh mu bs_ff (bs_xx sh mu) := by
  have h12 := hF.1
  refine bs_ctx (by decide +kernel) (Nat.le_of_ble_eq_true rfl) ?_
  refine bs_aload_n dX11_bubble_0 rfl ?_
  refine bs_iload_n dX11_bubble_1 rfl ?_
  rcases hbad with ha | ⟨j, hj, rfl, hb⟩
  · refine fg_callV dX11_bubble_2 qX11_143 (wX11_figureAt HX hR (sf_figN hF.2.1 ha)) rfl (HX.s 0 rfl rfl rfl) rfl (Nat.le_of_ble_eq_true rfl) ⟨⟨by decide, by decide⟩, by decide, by decide⟩ (fun _ => ?_)
    refine bs_astoreN dX11_bubble_5 rfl (by decide) ?_
    refine bs_aloadN dX11_bubble_7 rfl ?_
    refine bs_ifnullN (tgt := 21) dX11_bubble_9 (by decide) ?_
    exact bs_throw dX11_bubble_21 dX11_bubble_24 dX11_bubble_25 dX11_bubble_27 dX11_bubble_30 rfl kX11_bubble.2.1 (List.mem_of_getElem? (i := 0) rfl) (by decide) (by decide) (by decide) (by decide) (fun _ _ => ⟨rfl, rfl⟩)
  · have hf := fg_F12 HX j (by omega)
    refine fg_callV dX11_bubble_2 qX11_143 (wX11_figureAt HX hR (sf_figY hF.2.1 h12 hj)) rfl (HX.s 0 rfl rfl rfl) rfl (Nat.le_of_ble_eq_true rfl) ⟨⟨by decide, by decide⟩, by decide, by decide⟩ (fun _ => ?_)
    refine bs_astore (x := x + 63 + 7 * j) dX11_bubble_5 rfl (by decide) ?_
    refine bs_aload (x := x + 63 + 7 * j) dX11_bubble_7 rfl ?_
    refine bs_ifnull dX11_bubble_9 ?_
    refine bs_aload (x := x + 63 + 7 * j) dX11_bubble_12 rfl ?_
    refine bs_iload_n dX11_bubble_14 rfl ?_
    rcases hb with hb | ⟨p, hp, rfl, he⟩
    · refine fg_callV dX11_bubble_15 qX11_171 (wX1_hasBubble HX hf hR (sf_hasBN (hF.2.2 j hj).2 hb)) rfl (hf.s0) rfl (Nat.le_of_ble_eq_true rfl) ⟨⟨by decide, by decide⟩, by decide, by decide⟩ (fun _ => ?_)
      refine bs_if_ne (tgt := 31) dX11_bubble_18 (by decide) (fun c => absurd rfl c) (fun c => ?_)
      exact bs_throw dX11_bubble_21 dX11_bubble_24 dX11_bubble_25 dX11_bubble_27 dX11_bubble_30 rfl kX11_bubble.2.1 (List.mem_of_getElem? (i := 0) rfl) (by decide) (by decide) (by decide) (by decide) (fun _ _ => ⟨rfl, rfl⟩)
    · refine fg_callV dX11_bubble_15 qX11_171 (wX1_hasBubble HX hf hR (sf_hasBY (hF.2.2 j hj).2 (hF.2.2 j hj).1 hp)) rfl (hf.s0) rfl (Nat.le_of_ble_eq_true rfl) ⟨⟨by decide, by decide⟩, by decide, by decide⟩ (fun _ => ?_)
      refine bs_if_ne (tgt := 31) dX11_bubble_18 (by decide) (fun c => ?_) (fun c => absurd c (by decide))
      refine bs_iload_n dX11_bubble_31 rfl ?_
      refine fg_tabD (b := 0) (tgt := 114) (sp := [0, 1, 2, 3, 4]) dX11_bubble_32 (by decide) (by decide) (by decide) ?_ (by decide) ?_
      · intro k hk
        exact he k (by simp only [List.mem_cons, List.not_mem_nil, or_false] at hk; omega)
      · exact bs_throw dX11_bubble_114 dX11_bubble_117 dX11_bubble_118 dX11_bubble_120 dX11_bubble_123 rfl kX11_bubble.2.1 (List.mem_of_getElem? (i := 1) rfl) (by decide) (by decide) (by decide) (by decide) (fun _ _ => ⟨rfl, rfl⟩)
set_option maxHeartbeats 4000000 in
set_option maxRecDepth 100000 in
theorem cx_gue {x nx rn : Nat} {V : Nat → Nat → Int32} {R : Nat → Nat → Option Nat} {sh : bs_Sh} {mu : bs_Mm} (HX : fg_S (bs_tS x) R x sh) (hR : fg_R R mu) (hG : cGU x rn V mu) (a b : Int32) (hbad : (a < 0 ∨ nI rn ≤ a) ∨ ∀ k, k < 4 → b ≠ nI k) : bs_CX mX11_guest (bs_rm 10 1 6) [.ref x, .int a, .int b] nx sh mu bs_ff (bs_xx sh mu) := by
  refine bs_ctx (by decide +kernel) (Nat.le_of_ble_eq_true rfl) ?_
  refine bs_iload_n dX11_guest_0 rfl ?_
  refine bs_if_lt (tgt := 15) dX11_guest_1 (by decide) (fun c1 => ?_) (fun c1 => ?_)
  · exact bs_throwW dX11_guest_15 dX11_guest_18 dX11_guest_19 dX11_guest_22 dX11_guest_25 rfl kX11_guest.2.1 (List.mem_of_getElem? (i := 2) rfl) (by decide) (by decide) (by decide) (by decide) (fun _ _ => ⟨rfl, rfl⟩)
  · refine bs_iload_n dX11_guest_4 rfl ?_
    refine bs_aload_n dX11_guest_5 rfl ?_
    refine fg_getR (b := (x + 50)) dX11_guest_6 fX11_80 (HX.s 0 rfl rfl rfl) hR (HX.r 0 10 rfl rfl rfl) ?_
    refine bs_getI dX11_guest_9 fX11_312 (HX.s 50 rfl rfl rfl) ?_
    refine bs_icmp_lt (tgt := 26) dX11_guest_12 (by decide) (fun c2 => ?_) (fun c2 => ?_)
    · have hb : ∀ k, k < 4 → b ≠ nI k := by
        rcases hbad with (h | h) | h
        · exact absurd h c1
        · rw [hG.2.1] at c2
          exact absurd c2 (Int32.not_lt.mpr h)
        · exact h
      refine bs_iload_n dX11_guest_26 rfl ?_
      refine fg_tabD (b := 0) (tgt := 96) (sp := [0, 1, 2, 3]) dX11_guest_27 (by decide) (by decide) (by decide) ?_ (by decide) ?_
      · intro k hk
        exact hb k (by simp only [List.mem_cons, List.not_mem_nil, or_false] at hk; omega)
      · exact bs_throwW dX11_guest_96 dX11_guest_99 dX11_guest_100 dX11_guest_103 dX11_guest_106 rfl kX11_guest.2.1 (List.mem_of_getElem? (i := 3) rfl) (by decide) (by decide) (by decide) (by decide) (fun _ _ => ⟨rfl, rfl⟩)
    · exact bs_throwW dX11_guest_15 dX11_guest_18 dX11_guest_19 dX11_guest_22 dX11_guest_25 rfl kX11_guest.2.1 (List.mem_of_getElem? (i := 2) rfl) (by decide) (by decide) (by decide) (by decide) (fun _ _ => ⟨rfl, rfl⟩)
set_option maxHeartbeats 4000000 in
set_option maxRecDepth 100000 in
theorem cx_wor {x nx rc : Nat} {UR : Nat → bs_U} {R : Nat → Nat → Option Nat} {sh : bs_Sh} {mu : bs_Mm} (HX : fg_S (bs_tS x) R x sh) (hR : fg_R R mu) (hU : cUR x rc UR mu) (a b e f g i : Int32) (ha : a < 0 ∨ nI rc ≤ a) : bs_CX mX11_worth (bs_rm 10 1 6) [.ref x, .int a, .int b, .int e, .int f, .int g, .int i] nx sh mu bs_ff (bs_xx sh mu) := by
  refine bs_ctx (by decide +kernel) (Nat.le_of_ble_eq_true rfl) ?_
  refine bs_aload_n dX11_worth_0 rfl ?_
  refine bs_iload_n dX11_worth_1 rfl ?_
  refine fg_callV dX11_worth_2 qX11_331 (wX11_ruleAt HX hR (sf_rulN hU ha)) rfl (HX.s 0 rfl rfl rfl) rfl (Nat.le_of_ble_eq_true rfl) ⟨⟨by decide, by decide⟩, by decide, by decide⟩ (fun _ => ?_)
  refine bs_astoreN dX11_worth_5 rfl (by decide) ?_
  refine bs_aloadN dX11_worth_7 rfl ?_
  refine bs_ifnonnullN dX11_worth_9 ?_
  exact bs_throwW dX11_worth_12 dX11_worth_15 dX11_worth_16 dX11_worth_19 dX11_worth_22 rfl kX11_worth.2.1 (List.mem_of_getElem? (i := 4) rfl) (by decide) (by decide) (by decide) (by decide) (fun _ _ => ⟨rfl, rfl⟩)
/-! the law's own three methods: thrown, or answered -/
def lw_tx (sh : bs_Sh) (mu : bs_Mm) : bs_Po := fun r _ sh' mu' => r = some (.int 1) ∧ sh' = sh ∧ mu' = mu
def lw_ty (R : Nat → Nat → Option Nat) (ou : Nat) (sh : bs_Sh) (mu : bs_Mm) (q : Int32) : bs_Po := fun r _ sh' mu' => r = some (.int 0) ∧ sh' = sh ∧ mu' = bs_up mu ou 0 (.long q.toInt64) ∧ fg_R R mu
set_option maxHeartbeats 4000000 in
set_option maxRecDepth 100000 in
theorem lx_bub {x nx ou : Nat} {sh : bs_Sh} {mu : bs_Mm} {a b e : Int32} (hx : (sh x).1 = 11) (K : bs_CX mX11_bubble (bs_rm 10 1 6) [.ref x, .int a, .int b, .int e] nx sh mu bs_ff (bs_xx sh mu)) : bs_CT mL_bubble hhL_bubble (bs_rm 11 1 6) [.ref x, .int a, .int b, .int e, .ref ou] nx sh mu (lw_tx sh mu) := by
  refine bs_cth (by decide +kernel) (Nat.le_of_ble_eq_true rfl) ?_
  refine bs_aload dL_bubble_0 rfl ?_
  refine bs_iconst (v := 0) dL_bubble_2 (by decide) ?_
  refine bs_aload_n dL_bubble_3 rfl ?_
  refine bs_iload_n dL_bubble_4 rfl ?_
  refine bs_iload_n dL_bubble_5 rfl ?_
  refine bs_iload_n dL_bubble_6 rfl ?_
  refine bs_callVX (z0 := ⟨0, 12, 15, 13⟩) dL_bubble_7 qL_7 K rfl hx rfl (Nat.le_of_ble_eq_true rfl) ⟨⟨by decide, by decide⟩, by decide, by decide⟩ rfl (by decide) (by decide) bsw_1344 (fun q1 nx1 sh1 mu1 hp1 => ?_) (fun v1 nx1 sh1 mu1 hp1 => hp1.elim)
  refine bs_astore dL_bubble_15 rfl (by decide) ?_
  refine bs_iconst (v := 1) dL_bubble_17 (by decide) ?_
  exact bs_ofmH (bs_iret dL_bubble_18 rfl (by decide) (by decide) ⟨rfl, hp1.1, hp1.2⟩)
set_option maxHeartbeats 4000000 in
set_option maxRecDepth 100000 in
theorem lx_gue {x nx ou : Nat} {sh : bs_Sh} {mu : bs_Mm} {a b : Int32} (hx : (sh x).1 = 11) (K : bs_CX mX11_guest (bs_rm 10 1 6) [.ref x, .int a, .int b] nx sh mu bs_ff (bs_xx sh mu)) : bs_CT mL_guest hhL_guest (bs_rm 11 1 6) [.ref x, .int a, .int b, .ref ou] nx sh mu (lw_tx sh mu) := by
  refine bs_cth (by decide +kernel) (Nat.le_of_ble_eq_true rfl) ?_
  refine bs_aload_n dL_guest_0 rfl ?_
  refine bs_iconst (v := 0) dL_guest_1 (by decide) ?_
  refine bs_aload_n dL_guest_2 rfl ?_
  refine bs_iload_n dL_guest_3 rfl ?_
  refine bs_iload_n dL_guest_4 rfl ?_
  refine bs_callVX (z0 := ⟨0, 10, 13, 13⟩) dL_guest_5 qL_15 K rfl hx rfl (Nat.le_of_ble_eq_true rfl) ⟨⟨by decide, by decide⟩, by decide, by decide⟩ rfl (by decide) (by decide) bsw_1344 (fun q1 nx1 sh1 mu1 hp1 => ?_) (fun v1 nx1 sh1 mu1 hp1 => hp1.elim)
  refine bs_astore dL_guest_13 rfl (by decide) ?_
  refine bs_iconst (v := 1) dL_guest_15 (by decide) ?_
  exact bs_ofmH (bs_iret dL_guest_16 rfl (by decide) (by decide) ⟨rfl, hp1.1, hp1.2⟩)
set_option maxHeartbeats 4000000 in
set_option maxRecDepth 100000 in
theorem lx_wor {x nx ou : Nat} {sh : bs_Sh} {mu : bs_Mm} {a b e f g i : Int32} (hx : (sh x).1 = 11) (K : bs_CX mX11_worth (bs_rm 10 1 6) [.ref x, .int a, .int b, .int e, .int f, .int g, .int i] nx sh mu bs_ff (bs_xx sh mu)) : bs_CT mL_worth hhL_worth (bs_rm 11 1 6) [.ref x, .int a, .int b, .int e, .int f, .int g, .int i, .ref ou] nx sh mu (lw_tx sh mu) := by
  refine bs_cth (by decide +kernel) (Nat.le_of_ble_eq_true rfl) ?_
  refine bs_aload dL_worth_0 rfl ?_
  refine bs_iconst (v := 0) dL_worth_2 (by decide) ?_
  refine bs_aload_n dL_worth_3 rfl ?_
  refine bs_iload_n dL_worth_4 rfl ?_
  refine bs_iload_n dL_worth_5 rfl ?_
  refine bs_iload_n dL_worth_6 rfl ?_
  refine bs_iload dL_worth_7 rfl ?_
  refine bs_iload dL_worth_9 rfl ?_
  refine bs_iload dL_worth_11 rfl ?_
  refine bs_callVX (z0 := ⟨0, 18, 21, 13⟩) dL_worth_13 qL_19 K rfl hx rfl (Nat.le_of_ble_eq_true rfl) ⟨⟨by decide, by decide⟩, by decide, by decide⟩ rfl (by decide) (by decide) bsw_1344 (fun q1 nx1 sh1 mu1 hp1 => ?_) (fun v1 nx1 sh1 mu1 hp1 => hp1.elim)
  refine bs_astore dL_worth_21 rfl (by decide) ?_
  refine bs_iconst (v := 1) dL_worth_23 (by decide) ?_
  exact bs_ofmH (bs_iret dL_worth_24 rfl (by decide) (by decide) ⟨rfl, hp1.1, hp1.2⟩)
set_option maxHeartbeats 4000000 in
set_option maxRecDepth 100000 in
theorem ly_bub {x nx ou d : Nat} {sh : bs_Sh} {mu mu1 : bs_Mm} {R : Nat → Nat → Option Nat} {a b e q : Int32} (hd : d ≤ 10) (hx : (sh x).1 = 11) (ho : sh ou = (15, 1)) (K : bs_C mX11_bubble (bs_rm d 0 0) [.ref x, .int a, .int b, .int e] nx sh mu (fg_po R nx sh (some (.int q)) mu1)) : bs_CT mL_bubble hhL_bubble (bs_rm 11 1 6) [.ref x, .int a, .int b, .int e, .ref ou] nx sh mu (lw_ty R ou sh mu1 q) := by
  refine bs_cth (by decide +kernel) (Nat.le_of_ble_eq_true rfl) ?_
  refine bs_aload dL_bubble_0 rfl ?_
  refine bs_iconst (v := nI 0) dL_bubble_2 (by decide) ?_
  refine bs_aload_n dL_bubble_3 rfl ?_
  refine bs_iload_n dL_bubble_4 rfl ?_
  refine bs_iload_n dL_bubble_5 rfl ?_
  refine bs_iload_n dL_bubble_6 rfl ?_
  refine fg_callV dL_bubble_7 qL_7 K rfl hx rfl (Nat.le_of_ble_eq_true rfl) ⟨⟨by show d + 1 ≤ 11; omega, by show 8 + (5 + 11) + 41 * d ≤ 41 * 11; omega⟩, Nat.le_of_ble_eq_true rfl, Nat.le_of_ble_eq_true rfl⟩ (fun hR1 => ?_)
  refine bs_i2l dL_bubble_10 ?_
  refine bs_last dL_bubble_11 ho (bs_ix_n (j := 0) (by decide) (by decide)) ?_
  refine bs_goto (tgt := 19) dL_bubble_12 (by decide) ?_
  refine bs_iconst (v := 0) dL_bubble_19 (by decide) ?_
  exact bs_ofmH (bs_iret dL_bubble_20 rfl (by decide) (by decide) ⟨rfl, rfl, rfl, hR1⟩)
set_option maxHeartbeats 4000000 in
set_option maxRecDepth 100000 in
theorem ly_gue {x nx ou d : Nat} {sh : bs_Sh} {mu mu1 : bs_Mm} {R : Nat → Nat → Option Nat} {a b q : Int32} (hd : d ≤ 10) (hx : (sh x).1 = 11) (ho : sh ou = (15, 1)) (K : bs_C mX11_guest (bs_rm d 0 0) [.ref x, .int a, .int b] nx sh mu (fg_po R nx sh (some (.int q)) mu1)) : bs_CT mL_guest hhL_guest (bs_rm 11 1 6) [.ref x, .int a, .int b, .ref ou] nx sh mu (lw_ty R ou sh mu1 q) := by
  refine bs_cth (by decide +kernel) (Nat.le_of_ble_eq_true rfl) ?_
  refine bs_aload_n dL_guest_0 rfl ?_
  refine bs_iconst (v := nI 0) dL_guest_1 (by decide) ?_
  refine bs_aload_n dL_guest_2 rfl ?_
  refine bs_iload_n dL_guest_3 rfl ?_
  refine bs_iload_n dL_guest_4 rfl ?_
  refine fg_callV dL_guest_5 qL_15 K rfl hx rfl (Nat.le_of_ble_eq_true rfl) ⟨⟨by show d + 1 ≤ 11; omega, by show 8 + (3 + 11) + 41 * d ≤ 41 * 11; omega⟩, Nat.le_of_ble_eq_true rfl, Nat.le_of_ble_eq_true rfl⟩ (fun hR1 => ?_)
  refine bs_i2l dL_guest_8 ?_
  refine bs_last dL_guest_9 ho (bs_ix_n (j := 0) (by decide) (by decide)) ?_
  refine bs_goto (tgt := 17) dL_guest_10 (by decide) ?_
  refine bs_iconst (v := 0) dL_guest_17 (by decide) ?_
  exact bs_ofmH (bs_iret dL_guest_18 rfl (by decide) (by decide) ⟨rfl, rfl, rfl, hR1⟩)
set_option maxHeartbeats 4000000 in
set_option maxRecDepth 100000 in
theorem ly_wor {x nx ou d : Nat} {sh : bs_Sh} {mu mu1 : bs_Mm} {R : Nat → Nat → Option Nat} {a b e f g i q : Int32} (hd : d ≤ 10) (hx : (sh x).1 = 11) (ho : sh ou = (15, 1)) (K : bs_C mX11_worth (bs_rm d 0 0) [.ref x, .int a, .int b, .int e, .int f, .int g, .int i] nx sh mu (fg_po R nx sh (some (.int q)) mu1)) : bs_CT mL_worth hhL_worth (bs_rm 11 1 6) [.ref x, .int a, .int b, .int e, .int f, .int g, .int i, .ref ou] nx sh mu (lw_ty R ou sh mu1 q) := by
  refine bs_cth (by decide +kernel) (Nat.le_of_ble_eq_true rfl) ?_
  refine bs_aload dL_worth_0 rfl ?_
  refine bs_iconst (v := nI 0) dL_worth_2 (by decide) ?_
  refine bs_aload_n dL_worth_3 rfl ?_
  refine bs_iload_n dL_worth_4 rfl ?_
  refine bs_iload_n dL_worth_5 rfl ?_
  refine bs_iload_n dL_worth_6 rfl ?_
  refine bs_iload dL_worth_7 rfl ?_
  refine bs_iload dL_worth_9 rfl ?_
  refine bs_iload dL_worth_11 rfl ?_
  refine fg_callV dL_worth_13 qL_19 K rfl hx rfl (Nat.le_of_ble_eq_true rfl) ⟨⟨by show d + 1 ≤ 11; omega, by show 8 + (8 + 11) + 41 * d ≤ 41 * 11; omega⟩, Nat.le_of_ble_eq_true rfl, Nat.le_of_ble_eq_true rfl⟩ (fun hR1 => ?_)
  refine bs_i2l dL_worth_16 ?_
  refine bs_last dL_worth_17 ho (bs_ix_n (j := 0) (by decide) (by decide)) ?_
  refine bs_goto (tgt := 25) dL_worth_18 (by decide) ?_
  refine bs_iconst (v := 0) dL_worth_25 (by decide) ?_
  exact bs_ofmH (bs_iret dL_worth_26 rfl (by decide) (by decide) ⟨rfl, rfl, rfl, hR1⟩)
