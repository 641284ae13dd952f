/-! QUESTIONS on figures (own), for every state: hands, ends, holds; both sides -/
theorem n_inI {a : Int32} {n : Nat} (hn : n < 2 ^ 30) (h : a < 0 ∨ nI n ≤ a) : bs_in a (nI 0) (nI n - nI 1) = nI 0 := by
  rcases h with h | h
  · exact bs_in_a h
  · refine bs_in_b ?_
    rw [Int32.lt_iff_toInt_lt, pk_sub_toInt hn (by decide)]
    have := Int32.le_iff_toInt_le.mp h
    rw [nI_toInt (by omega)] at this
    omega
theorem n_inN {nx : Nat} {sh : bs_Sh} {mu : bs_Mm} {a : Int32} {n : Nat} (hn : n < 2 ^ 30) (h : a < 0 ∨ nI n ≤ a) : bs_C mX12_in (bs_rm 0 0 0) [.int a, .int (nI 0), .int (nI n - nI 1)] nx sh mu (bs_no nx sh mu (.int (nI 0))) := by
  have k := m_in (nx := nx) (sh := sh) (mu := mu) a (nI 0) (nI n - nI 1)
  rwa [n_inI hn h] at k
theorem n_inY {nx : Nat} {sh : bs_Sh} {mu : bs_Mm} {n j : Nat} (hn : n < 2 ^ 30) (h : j < n) : bs_C mX12_in (bs_rm 0 0 0) [.int (nI j), .int (nI 0), .int (nI (n - 1))] nx sh mu (bs_no nx sh mu (.int (nI 1))) := by
  have k := m_in (nx := nx) (sh := sh) (mu := mu) (nI j) (nI 0) (nI (n - 1))
  have e : bs_in (nI j) (nI 0) (nI (n - 1)) = nI 1 := bs_in_1 (nI_pos (by omega)) (nI_nlt (by omega) (by omega))
  rwa [e] at k
theorem f_hasPointY {f nx p : Nat} {sh : bs_Sh} {mu : bs_Mm} {G : bs_G} (hS : cFs f sh mu) (hV : cFv f G mu) (hG : g_ok G) (hp : p < g_np G) : bs_C mX1_hasPoint (bs_rm 0 0 0) [.ref f, .int (nI p)] nx sh mu (bs_no nx sh mu (.int (nI 1))) := by
  have k := f_hasPoint (nx := nx) hS hV hG (nI p)
  rwa [g_hs_y hp (by have := hG.2.2.1; omega)] at k
theorem f_hasPointN {f nx : Nat} {sh : bs_Sh} {mu : bs_Mm} {G : bs_G} (hS : cFs f sh mu) (hV : cFv f G mu) (hG : g_ok G) {a : Int32} (h : a < 0 ∨ nI (g_np G) ≤ a) : bs_C mX1_hasPoint (bs_rm 0 0 0) [.ref f, .int a] nx sh mu (bs_no nx sh mu (.int (nI 0))) := by
  have k := f_hasPoint (nx := nx) hS hV hG a
  rwa [g_hs_n h] at k
theorem f_hasBubbleY {f nx p : Nat} {sh : bs_Sh} {mu : bs_Mm} {G : bs_G} (hS : cFs f sh mu) (hV : cFv f G mu) (hG : g_ok G) (hp : p < g_nu G) : bs_C mX1_hasBubble (bs_rm 0 0 0) [.ref f, .int (nI p)] nx sh mu (bs_no nx sh mu (.int (nI 1))) := by
  have k := f_hasBubble (nx := nx) hS hV hG (nI p)
  rwa [g_hs_y hp (by have := hG.2.1; omega)] at k
theorem f_hasBubbleN {f nx : Nat} {sh : bs_Sh} {mu : bs_Mm} {G : bs_G} (hS : cFs f sh mu) (hV : cFv f G mu) (hG : g_ok G) {a : Int32} (h : a < 0 ∨ nI (g_nu G) ≤ a) : bs_C mX1_hasBubble (bs_rm 0 0 0) [.ref f, .int a] nx sh mu (bs_no nx sh mu (.int (nI 0))) := by
  have k := f_hasBubble (nx := nx) hS hV hG a
  rwa [g_hs_n h] at k
set_option maxHeartbeats 4000000 in
theorem c_handsN {x nx fc : Nat} {FG : Nat → bs_G} {sh : bs_Sh} {mu : bs_Mm} (H : bs_St (bs_tS x) x sh mu) (hF : cFG x fc FG mu) {a : Int32} (ha : a < 0 ∨ nI fc ≤ a) : bs_C mX11_hands (bs_rm 10 0 0) [.ref x, .int a] nx sh mu (bs_no nx sh mu (.int (-1))) := by
  refine bs_ct (by decide +kernel) (Nat.le_of_ble_eq_true rfl) ?_
  refine bs_aload_n dX11_hands_0 rfl ?_
  refine bs_iload_n dX11_hands_1 rfl ?_
  refine bs_callVn dX11_hands_2 qX11_143 (c_figN H hF ha) rfl (H.s 0 rfl rfl rfl) rfl (Nat.le_of_ble_eq_true rfl) ⟨⟨by decide, by decide⟩, by decide, by decide⟩ ?_
  refine bs_astoreN_n dX11_hands_5 rfl (by decide) ?_
  refine bs_aloadN_n dX11_hands_6 rfl ?_
  refine bs_ifnonnullN dX11_hands_7 ?_
  refine bs_iconst (v := (-1)) dX11_hands_10 (by decide) ?_
  refine bs_goto (tgt := 18) dX11_hands_11 (by decide) ?_
  exact bs_iret dX11_hands_18 rfl (by decide) (by decide) ⟨rfl, rfl, rfl, rfl⟩
set_option maxHeartbeats 4000000 in
theorem c_endsN {x nx fc : Nat} {FG : Nat → bs_G} {sh : bs_Sh} {mu : bs_Mm} (H : bs_St (bs_tS x) x sh mu) (hF : cFG x fc FG mu) {a : Int32} (ha : a < 0 ∨ nI fc ≤ a) (b : Int32) : bs_C mX11_ends (bs_rm 10 0 0) [.ref x, .int a, .int b] nx sh mu (bs_no nx sh mu (.int (-1))) := by
  refine bs_ct (by decide +kernel) (Nat.le_of_ble_eq_true rfl) ?_
  refine bs_aload_n dX11_ends_0 rfl ?_
  refine bs_iload_n dX11_ends_1 rfl ?_
  refine bs_callVn dX11_ends_2 qX11_143 (c_figN H hF ha) rfl (H.s 0 rfl rfl rfl) rfl (Nat.le_of_ble_eq_true rfl) ⟨⟨by decide, by decide⟩, by decide, by decide⟩ ?_
  refine bs_astoreN_n dX11_ends_5 rfl (by decide) ?_
  refine bs_aloadN_n dX11_ends_6 rfl ?_
  refine bs_ifnullN (tgt := 18) dX11_ends_7 (by decide) ?_
  refine bs_iconst (v := (-1)) dX11_ends_18 (by decide) ?_
  refine bs_goto (tgt := 28) dX11_ends_19 (by decide) ?_
  exact bs_iret dX11_ends_28 rfl (by decide) (by decide) ⟨rfl, rfl, rfl, rfl⟩
set_option maxHeartbeats 4000000 in
theorem c_holdsN {x nx fc : Nat} {FG : Nat → bs_G} {sh : bs_Sh} {mu : bs_Mm} (H : bs_St (bs_tS x) x sh mu) (hF : cFG x fc FG mu) {a : Int32} (ha : a < 0 ∨ nI fc ≤ a) (b : Int32) : bs_C mX11_holds (bs_rm 10 0 0) [.ref x, .int a, .int b] nx sh mu (bs_no nx sh mu (.int (-1))) := by
  refine bs_ct (by decide +kernel) (Nat.le_of_ble_eq_true rfl) ?_
  refine bs_aload_n dX11_holds_0 rfl ?_
  refine bs_iload_n dX11_holds_1 rfl ?_
  refine bs_callVn dX11_holds_2 qX11_143 (c_figN H hF ha) rfl (H.s 0 rfl rfl rfl) rfl (Nat.le_of_ble_eq_true rfl) ⟨⟨by decide, by decide⟩, by decide, by decide⟩ ?_
  refine bs_astoreN_n dX11_holds_5 rfl (by decide) ?_
  refine bs_aloadN_n dX11_holds_6 rfl ?_
  refine bs_ifnullN (tgt := 26) dX11_holds_7 (by decide) ?_
  refine bs_iconst (v := (-1)) dX11_holds_26 (by decide) ?_
  exact bs_iret dX11_holds_27 rfl (by decide) (by decide) ⟨rfl, rfl, rfl, rfl⟩
set_option maxHeartbeats 4000000 in
theorem c_handsY {x nx fc : Nat} {FG : Nat → bs_G} {sh : bs_Sh} {mu : bs_Mm} (H : bs_St (bs_tS x) x sh mu) (hF : cFG x fc FG mu) {j : Nat} (hj : j < fc) : bs_C mX11_hands (bs_rm 10 0 0) [.ref x, .int (nI j)] nx sh mu (bs_no nx sh mu (.int (nI (g_mh (FG j))))) := by
  have q1 := hF.1
  have hS := c_fS H j (by omega)
  have hV := (hF.2.2 j hj).2
  have hG := (hF.2.2 j hj).1
  have q0 := g_bn hG
  refine bs_ct (by decide +kernel) (Nat.le_of_ble_eq_true rfl) ?_
  refine bs_aload_n dX11_hands_0 rfl ?_
  refine bs_iload_n dX11_hands_1 rfl ?_
  refine bs_callVn dX11_hands_2 qX11_143 (c_figY H hF hj) rfl (H.s 0 rfl rfl rfl) rfl (Nat.le_of_ble_eq_true rfl) ⟨⟨by decide, by decide⟩, by decide, by decide⟩ ?_
  refine bs_astore_n dX11_hands_5 rfl (by decide) ?_
  refine bs_aload_n dX11_hands_6 rfl ?_
  refine bs_ifnonnull (tgt := 14) dX11_hands_7 (by decide) ?_
  refine bs_aload_n dX11_hands_14 rfl ?_
  refine bs_getN (v := (g_mh (FG j))) dX11_hands_15 fX11_225 (hS.1) (hV.2.2.2.1) ?_
  exact bs_iret dX11_hands_18 rfl (by decide) (by decide) ⟨rfl, rfl, rfl, rfl⟩
set_option maxHeartbeats 4000000 in
theorem c_endsB {x nx fc : Nat} {FG : Nat → bs_G} {sh : bs_Sh} {mu : bs_Mm} (H : bs_St (bs_tS x) x sh mu) (hF : cFG x fc FG mu) {j : Nat} (hj : j < fc) {b : Int32} (hb : b < 0 ∨ nI (g_np (FG j)) ≤ b) : bs_C mX11_ends (bs_rm 10 0 0) [.ref x, .int (nI j), .int b] nx sh mu (bs_no nx sh mu (.int (-1))) := by
  have q1 := hF.1
  have hS := c_fS H j (by omega)
  have hV := (hF.2.2 j hj).2
  have hG := (hF.2.2 j hj).1
  have q0 := g_bn hG
  refine bs_ct (by decide +kernel) (Nat.le_of_ble_eq_true rfl) ?_
  refine bs_aload_n dX11_ends_0 rfl ?_
  refine bs_iload_n dX11_ends_1 rfl ?_
  refine bs_callVn dX11_ends_2 qX11_143 (c_figY H hF hj) rfl (H.s 0 rfl rfl rfl) rfl (Nat.le_of_ble_eq_true rfl) ⟨⟨by decide, by decide⟩, by decide, by decide⟩ ?_
  refine bs_astore_n dX11_ends_5 rfl (by decide) ?_
  refine bs_aload_n dX11_ends_6 rfl ?_
  refine bs_ifnull dX11_ends_7 ?_
  refine bs_aload_n dX11_ends_10 rfl ?_
  refine bs_iload_n dX11_ends_11 rfl ?_
  refine bs_callVn dX11_ends_12 qX11_198 (f_hasPointN hS hV hG hb) rfl (hS.1) rfl (Nat.le_of_ble_eq_true rfl) ⟨⟨by decide, by decide⟩, by decide, by decide⟩ ?_
  refine bs_if_neN (tgt := 22) dX11_ends_15 (by decide) (by omega) (fun c15 => ?_) (fun c15 => ?_)
  · exact absurd rfl c15
  · refine bs_iconst (v := (-1)) dX11_ends_18 (by decide) ?_
    refine bs_goto (tgt := 28) dX11_ends_19 (by decide) ?_
    exact bs_iret dX11_ends_28 rfl (by decide) (by decide) ⟨rfl, rfl, rfl, rfl⟩
set_option maxHeartbeats 4000000 in
theorem c_endsY {x nx fc : Nat} {FG : Nat → bs_G} {sh : bs_Sh} {mu : bs_Mm} (H : bs_St (bs_tS x) x sh mu) (hF : cFG x fc FG mu) {j : Nat} (hj : j < fc) {p : Nat} (hp : p < g_np (FG j)) : bs_C mX11_ends (bs_rm 10 0 0) [.ref x, .int (nI j), .int (nI p)] nx sh mu (bs_no nx sh mu (.int (nI (g_en (FG j) p)))) := by
  have q1 := hF.1
  have hS := c_fS H j (by omega)
  have hV := (hF.2.2 j hj).2
  have hG := (hF.2.2 j hj).1
  have q0 := g_bn hG
  refine bs_ct (by decide +kernel) (Nat.le_of_ble_eq_true rfl) ?_
  refine bs_aload_n dX11_ends_0 rfl ?_
  refine bs_iload_n dX11_ends_1 rfl ?_
  refine bs_callVn dX11_ends_2 qX11_143 (c_figY H hF hj) rfl (H.s 0 rfl rfl rfl) rfl (Nat.le_of_ble_eq_true rfl) ⟨⟨by decide, by decide⟩, by decide, by decide⟩ ?_
  refine bs_astore_n dX11_ends_5 rfl (by decide) ?_
  refine bs_aload_n dX11_ends_6 rfl ?_
  refine bs_ifnull dX11_ends_7 ?_
  refine bs_aload_n dX11_ends_10 rfl ?_
  refine bs_iload_n dX11_ends_11 rfl ?_
  refine bs_callVn dX11_ends_12 qX11_198 (f_hasPointY hS hV hG hp) rfl (hS.1) rfl (Nat.le_of_ble_eq_true rfl) ⟨⟨by decide, by decide⟩, by decide, by decide⟩ ?_
  refine bs_if_neN (tgt := 22) dX11_ends_15 (by decide) (by omega) (fun c15 => ?_) (fun c15 => ?_)
  · refine bs_aload_n dX11_ends_22 rfl ?_
    refine bs_getR (b := (x + 63 + 7 * j + 6)) dX11_ends_23 fX11_201 (hS.1) (hS.2.1 5 (by decide)) ?_
    refine bs_iload_n dX11_ends_26 rfl ?_
    refine bs_ialdN (n := 30) (v := (g_en (FG j) p)) dX11_ends_27 (hS.2.2 5 (by decide)) (by have q0 := hp; omega) (by decide) (hV.2.2.2.2.2.2.2.2.2 p (by have q0 := hp; omega)) ?_
    exact bs_iret dX11_ends_28 rfl (by decide) (by decide) ⟨rfl, rfl, rfl, rfl⟩
  · omega
/-- what holds answers of a bubble -/
def g_ho (G : bs_G) (i : Nat) : Int32 := if g_tw G i = 1 then (if g_sl G i = 1 then 0 else 1) else -1
theorem g_ho_n {G : bs_G} {i : Nat} (h : g_tw G i = 0) : g_ho G i = -1 := if_neg (by omega)
theorem g_ho_0 {G : bs_G} {i : Nat} (h : g_tw G i ≠ 0) (h2 : g_sl G i ≠ 0) : g_ho G i = nI 0 := by
  have a := g_tw_le G i
  have b := g_sl_le G i
  unfold g_ho
  rw [if_pos (by omega), if_pos (by omega)]
  rfl
theorem g_ho_1 {G : bs_G} {i : Nat} (h : g_tw G i ≠ 0) (h2 : g_sl G i = 0) : g_ho G i = nI 1 := by
  have a := g_tw_le G i
  unfold g_ho
  rw [if_pos (by omega), if_neg (by omega)]
  rfl
set_option maxHeartbeats 4000000 in
theorem c_holdsB {x nx fc : Nat} {FG : Nat → bs_G} {sh : bs_Sh} {mu : bs_Mm} (H : bs_St (bs_tS x) x sh mu) (hF : cFG x fc FG mu) {j : Nat} (hj : j < fc) {b : Int32} (hb : b < 0 ∨ nI (g_nu (FG j)) ≤ b) : bs_C mX11_holds (bs_rm 10 0 0) [.ref x, .int (nI j), .int b] nx sh mu (bs_no nx sh mu (.int (-1))) := by
  have q1 := hF.1
  have hS := c_fS H j (by omega)
  have hV := (hF.2.2 j hj).2
  have hG := (hF.2.2 j hj).1
  have q0 := g_bn hG
  refine bs_ct (by decide +kernel) (Nat.le_of_ble_eq_true rfl) ?_
  refine bs_aload_n dX11_holds_0 rfl ?_
  refine bs_iload_n dX11_holds_1 rfl ?_
  refine bs_callVn dX11_holds_2 qX11_143 (c_figY H hF hj) rfl (H.s 0 rfl rfl rfl) rfl (Nat.le_of_ble_eq_true rfl) ⟨⟨by decide, by decide⟩, by decide, by decide⟩ ?_
  refine bs_astore_n dX11_holds_5 rfl (by decide) ?_
  refine bs_aload_n dX11_holds_6 rfl ?_
  refine bs_ifnull dX11_holds_7 ?_
  refine bs_aload_n dX11_holds_10 rfl ?_
  refine bs_iload_n dX11_holds_11 rfl ?_
  refine bs_callVn dX11_holds_12 qX11_171 (f_hasBubbleN hS hV hG hb) rfl (hS.1) rfl (Nat.le_of_ble_eq_true rfl) ⟨⟨by decide, by decide⟩, by decide, by decide⟩ ?_
  refine bs_if_eqN (tgt := 26) dX11_holds_15 (by decide) (by omega) (fun c15 => ?_) (fun c15 => ?_)
  · refine bs_iconst (v := (-1)) dX11_holds_26 (by decide) ?_
    exact bs_iret dX11_holds_27 rfl (by decide) (by decide) ⟨rfl, rfl, rfl, rfl⟩
  · exact absurd rfl c15
set_option maxHeartbeats 4000000 in
theorem c_holdsY {x nx fc : Nat} {FG : Nat → bs_G} {sh : bs_Sh} {mu : bs_Mm} (H : bs_St (bs_tS x) x sh mu) (hF : cFG x fc FG mu) {j : Nat} (hj : j < fc) {i : Nat} (hi : i < g_nu (FG j)) : bs_C mX11_holds (bs_rm 10 0 0) [.ref x, .int (nI j), .int (nI i)] nx sh mu (bs_no nx sh mu (.int (g_ho (FG j) i))) := by
  have q1 := hF.1
  have hS := c_fS H j (by omega)
  have hV := (hF.2.2 j hj).2
  have hG := (hF.2.2 j hj).1
  have q0 := g_bn hG
  refine bs_ct (by decide +kernel) (Nat.le_of_ble_eq_true rfl) ?_
  refine bs_aload_n dX11_holds_0 rfl ?_
  refine bs_iload_n dX11_holds_1 rfl ?_
  refine bs_callVn dX11_holds_2 qX11_143 (c_figY H hF hj) rfl (H.s 0 rfl rfl rfl) rfl (Nat.le_of_ble_eq_true rfl) ⟨⟨by decide, by decide⟩, by decide, by decide⟩ ?_
  refine bs_astore_n dX11_holds_5 rfl (by decide) ?_
  refine bs_aload_n dX11_holds_6 rfl ?_
  refine bs_ifnull dX11_holds_7 ?_
  refine bs_aload_n dX11_holds_10 rfl ?_
  refine bs_iload_n dX11_holds_11 rfl ?_
  refine bs_callVn dX11_holds_12 qX11_171 (f_hasBubbleY hS hV hG hi) rfl (hS.1) rfl (Nat.le_of_ble_eq_true rfl) ⟨⟨by decide, by decide⟩, by decide, by decide⟩ ?_
  refine bs_if_eqN (tgt := 26) dX11_holds_15 (by decide) (by omega) (fun c15 => ?_) (fun c15 => ?_)
  · omega
  · refine bs_aload_n dX11_holds_18 rfl ?_
    refine bs_iload_n dX11_holds_19 rfl ?_
    refine bs_callVn dX11_holds_20 qX11_228 (f_twistBehind hS hV hG i (by omega)) rfl (hS.1) rfl (Nat.le_of_ble_eq_true rfl) ⟨⟨by decide, by decide⟩, by decide, by decide⟩ ?_
    refine bs_if_neN (tgt := 28) dX11_holds_23 (by decide) (by have q0 := g_tw_le (FG j) i; omega) (fun c23 => ?_) (fun c23 => ?_)
    · refine bs_aload_n dX11_holds_28 rfl ?_
      refine bs_iload_n dX11_holds_29 rfl ?_
      refine bs_callVn dX11_holds_30 qX11_231 (f_slackBehind hS hV hG i (by omega)) rfl (hS.1) rfl (Nat.le_of_ble_eq_true rfl) ⟨⟨by decide, by decide⟩, by decide, by decide⟩ ?_
      refine bs_if_eqN (tgt := 40) dX11_holds_33 (by decide) (by have q0 := g_sl_le (FG j) i; omega) (fun c33 => ?_) (fun c33 => ?_)
      · refine bs_iconst (v := nI 1) dX11_holds_40 (by decide) ?_
        exact bs_iret dX11_holds_41 rfl (by decide) (by decide) ⟨by rw [g_ho_1 c23 c33], rfl, rfl, rfl⟩
      · refine bs_iconst (v := nI 0) dX11_holds_36 (by decide) ?_
        refine bs_goto (tgt := 41) dX11_holds_37 (by decide) ?_
        exact bs_iret dX11_holds_41 rfl (by decide) (by decide) ⟨by rw [g_ho_0 c23 c33], rfl, rfl, rfl⟩
    · refine bs_iconst (v := (-1)) dX11_holds_26 (by decide) ?_
      exact bs_iret dX11_holds_27 rfl (by decide) (by decide) ⟨by rw [g_ho_n c23], rfl, rfl, rfl⟩
set_option maxHeartbeats 4000000 in
theorem n_isFigN {m nx fc : Nat} {FG : Nat → bs_G} {sh : bs_Sh} {mu : bs_Mm} (H : bs_St (bs_tM m) m sh mu) (hF : mFG m fc FG mu) {a : Int32} (ha : a < 0 ∨ nI fc ≤ a) : bs_C mX12_isFigure (bs_rm 1 0 0) [.ref m, .int a] nx sh mu (bs_no nx sh mu (.int (nI 0))) := by
  refine bs_ct (by decide +kernel) (Nat.le_of_ble_eq_true rfl) ?_
  refine bs_iload_n dX12_isFigure_0 rfl ?_
  refine bs_iconst (v := nI 0) dX12_isFigure_1 (by decide) ?_
  refine bs_aload_n dX12_isFigure_2 rfl ?_
  refine bs_getN (v := fc) dX12_isFigure_3 fX12_252 (H.s 0 rfl rfl rfl) (hF.2.1) ?_
  refine bs_iconst (v := nI 1) dX12_isFigure_6 (by decide) ?_
  refine bs_isub dX12_isFigure_7 ?_
  refine bs_callSn dX12_isFigure_8 qX12_121 (n_inN (by have := hF.1; omega) ha) rfl rfl (Nat.le_of_ble_eq_true rfl) ⟨⟨by decide, by decide⟩, by decide, by decide⟩ ?_
  exact bs_zret dX12_isFigure_11 rfl (by decide) (by decide) (by decide) ⟨rfl, rfl, rfl, rfl⟩
set_option maxHeartbeats 4000000 in
theorem n_isFigY {m nx fc : Nat} {FG : Nat → bs_G} {sh : bs_Sh} {mu : bs_Mm} (H : bs_St (bs_tM m) m sh mu) (hF : mFG m fc FG mu) {g : Nat} (hg : g < fc) : bs_C mX12_isFigure (bs_rm 1 0 0) [.ref m, .int (nI g)] nx sh mu (bs_no nx sh mu (.int (nI 1))) := by
  have q1 := hF.1
  refine bs_ct (by decide +kernel) (Nat.le_of_ble_eq_true rfl) ?_
  refine bs_iload_n dX12_isFigure_0 rfl ?_
  refine bs_iconst (v := nI 0) dX12_isFigure_1 (by decide) ?_
  refine bs_aload_n dX12_isFigure_2 rfl ?_
  refine bs_getN (v := fc) dX12_isFigure_3 fX12_252 (H.s 0 rfl rfl rfl) (hF.2.1) ?_
  refine bs_iconst (v := nI 1) dX12_isFigure_6 (by decide) ?_
  refine bs_isubN dX12_isFigure_7 (by have q0 := hF.1; omega) ?_
  refine bs_callSn dX12_isFigure_8 qX12_121 (n_inY (by have := hF.1; omega) hg) rfl rfl (Nat.le_of_ble_eq_true rfl) ⟨⟨by decide, by decide⟩, by decide, by decide⟩ ?_
  exact bs_zret dX12_isFigure_11 rfl (by decide) (by decide) (by decide) ⟨rfl, rfl, rfl, rfl⟩
set_option maxHeartbeats 4000000 in
theorem n_isPointN {m nx fc : Nat} {FG : Nat → bs_G} {sh : bs_Sh} {mu : bs_Mm} (H : bs_St (bs_tM m) m sh mu) (hF : mFG m fc FG mu) {a : Int32} (ha : a < 0 ∨ nI fc ≤ a) (b : Int32) : bs_C mX12_isPoint (bs_rm 2 0 0) [.ref m, .int a, .int b] nx sh mu (bs_no nx sh mu (.int (nI 0))) := by
  refine bs_ct (by decide +kernel) (Nat.le_of_ble_eq_true rfl) ?_
  refine bs_aload_n dX12_isPoint_0 rfl ?_
  refine bs_iload_n dX12_isPoint_1 rfl ?_
  refine bs_callVn dX12_isPoint_2 qX12_284 (n_isFigN H hF ha) rfl (H.s 0 rfl rfl rfl) rfl (Nat.le_of_ble_eq_true rfl) ⟨⟨by decide, by decide⟩, by decide, by decide⟩ ?_
  refine bs_if_eqN (tgt := 28) dX12_isPoint_5 (by decide) (by omega) (fun c5 => ?_) (fun c5 => ?_)
  · refine bs_iconst (v := nI 0) dX12_isPoint_28 (by decide) ?_
    exact bs_zret dX12_isPoint_29 rfl (by decide) (by decide) (by decide) ⟨rfl, rfl, rfl, rfl⟩
  · exact absurd rfl c5
set_option maxHeartbeats 4000000 in
theorem n_isPointB {m nx fc : Nat} {FG : Nat → bs_G} {sh : bs_Sh} {mu : bs_Mm} (H : bs_St (bs_tM m) m sh mu) (hF : mFG m fc FG mu) {g : Nat} (hg : g < fc) {b : Int32} (hb : b < 0 ∨ nI (g_np (FG g)) ≤ b) : bs_C mX12_isPoint (bs_rm 2 0 0) [.ref m, .int (nI g), .int b] nx sh mu (bs_no nx sh mu (.int (nI 0))) := by
  have q1 := hF.1
  have hV := (hF.2.2 g hg).2
  have hG := (hF.2.2 g hg).1
  have q0 := g_bn hG
  refine bs_ct (by decide +kernel) (Nat.le_of_ble_eq_true rfl) ?_
  refine bs_aload_n dX12_isPoint_0 rfl ?_
  refine bs_iload_n dX12_isPoint_1 rfl ?_
  refine bs_callVn dX12_isPoint_2 qX12_284 (n_isFigY H hF hg) rfl (H.s 0 rfl rfl rfl) rfl (Nat.le_of_ble_eq_true rfl) ⟨⟨by decide, by decide⟩, by decide, by decide⟩ ?_
  refine bs_if_eqN (tgt := 28) dX12_isPoint_5 (by decide) (by omega) (fun c5 => ?_) (fun c5 => ?_)
  · omega
  · refine bs_iload_n dX12_isPoint_8 rfl ?_
    refine bs_iconst (v := nI 0) dX12_isPoint_9 (by decide) ?_
    refine bs_aload_n dX12_isPoint_10 rfl ?_
    refine bs_getR (b := (m + 9)) dX12_isPoint_11 fX12_34 (H.s 0 rfl rfl rfl) (H.r 0 14 rfl rfl rfl) ?_
    refine bs_iload_n dX12_isPoint_14 rfl ?_
    refine bs_ialdN (n := 13) (v := (g_np (FG g))) dX12_isPoint_15 (H.ss 9 rfl rfl) (by have q0 := hg; omega) (by decide) (hV.2.2.1) ?_
    refine bs_iconst (v := nI 1) dX12_isPoint_16 (by decide) ?_
    refine bs_isub dX12_isPoint_17 ?_
    refine bs_callSn dX12_isPoint_18 qX12_121 (n_inN (by omega) hb) rfl rfl (Nat.le_of_ble_eq_true rfl) ⟨⟨by decide, by decide⟩, by decide, by decide⟩ ?_
    refine bs_if_eqN (tgt := 28) dX12_isPoint_21 (by decide) (by omega) (fun c21 => ?_) (fun c21 => ?_)
    · refine bs_iconst (v := nI 0) dX12_isPoint_28 (by decide) ?_
      exact bs_zret dX12_isPoint_29 rfl (by decide) (by decide) (by decide) ⟨rfl, rfl, rfl, rfl⟩
    · exact absurd rfl c21
set_option maxHeartbeats 4000000 in
theorem n_isPointY {m nx fc : Nat} {FG : Nat → bs_G} {sh : bs_Sh} {mu : bs_Mm} (H : bs_St (bs_tM m) m sh mu) (hF : mFG m fc FG mu) {g : Nat} (hg : g < fc) {p : Nat} (hp : p < g_np (FG g)) : bs_C mX12_isPoint (bs_rm 2 0 0) [.ref m, .int (nI g), .int (nI p)] nx sh mu (bs_no nx sh mu (.int (nI 1))) := by
  have q1 := hF.1
  have hV := (hF.2.2 g hg).2
  have hG := (hF.2.2 g hg).1
  have q0 := g_bn hG
  refine bs_ct (by decide +kernel) (Nat.le_of_ble_eq_true rfl) ?_
  refine bs_aload_n dX12_isPoint_0 rfl ?_
  refine bs_iload_n dX12_isPoint_1 rfl ?_
  refine bs_callVn dX12_isPoint_2 qX12_284 (n_isFigY H hF hg) rfl (H.s 0 rfl rfl rfl) rfl (Nat.le_of_ble_eq_true rfl) ⟨⟨by decide, by decide⟩, by decide, by decide⟩ ?_
  refine bs_if_eqN (tgt := 28) dX12_isPoint_5 (by decide) (by omega) (fun c5 => ?_) (fun c5 => ?_)
  · omega
  · refine bs_iload_n dX12_isPoint_8 rfl ?_
    refine bs_iconst (v := nI 0) dX12_isPoint_9 (by decide) ?_
    refine bs_aload_n dX12_isPoint_10 rfl ?_
    refine bs_getR (b := (m + 9)) dX12_isPoint_11 fX12_34 (H.s 0 rfl rfl rfl) (H.r 0 14 rfl rfl rfl) ?_
    refine bs_iload_n dX12_isPoint_14 rfl ?_
    refine bs_ialdN (n := 13) (v := (g_np (FG g))) dX12_isPoint_15 (H.ss 9 rfl rfl) (by have q0 := hg; omega) (by decide) (hV.2.2.1) ?_
    refine bs_iconst (v := nI 1) dX12_isPoint_16 (by decide) ?_
    refine bs_isubN dX12_isPoint_17 (by have q0 := g_bn hG; omega) ?_
    refine bs_callSn dX12_isPoint_18 qX12_121 (n_inY (by omega) hp) rfl rfl (Nat.le_of_ble_eq_true rfl) ⟨⟨by decide, by decide⟩, by decide, by decide⟩ ?_
    refine bs_if_eqN (tgt := 28) dX12_isPoint_21 (by decide) (by omega) (fun c21 => ?_) (fun c21 => ?_)
    · omega
    · refine bs_iconst (v := nI 1) dX12_isPoint_24 (by decide) ?_
      refine bs_goto (tgt := 29) dX12_isPoint_25 (by decide) ?_
      exact bs_zret dX12_isPoint_29 rfl (by decide) (by decide) (by decide) ⟨rfl, rfl, rfl, rfl⟩
set_option maxHeartbeats 4000000 in
theorem n_isBubbleN {m nx fc : Nat} {FG : Nat → bs_G} {sh : bs_Sh} {mu : bs_Mm} (H : bs_St (bs_tM m) m sh mu) (hF : mFG m fc FG mu) {a : Int32} (ha : a < 0 ∨ nI fc ≤ a) (b : Int32) : bs_C mX12_isBubble (bs_rm 2 0 0) [.ref m, .int a, .int b] nx sh mu (bs_no nx sh mu (.int (nI 0))) := by
  refine bs_ct (by decide +kernel) (Nat.le_of_ble_eq_true rfl) ?_
  refine bs_aload_n dX12_isBubble_0 rfl ?_
  refine bs_iload_n dX12_isBubble_1 rfl ?_
  refine bs_callVn dX12_isBubble_2 qX12_284 (n_isFigN H hF ha) rfl (H.s 0 rfl rfl rfl) rfl (Nat.le_of_ble_eq_true rfl) ⟨⟨by decide, by decide⟩, by decide, by decide⟩ ?_
  refine bs_if_eqN (tgt := 28) dX12_isBubble_5 (by decide) (by omega) (fun c5 => ?_) (fun c5 => ?_)
  · refine bs_iconst (v := nI 0) dX12_isBubble_28 (by decide) ?_
    exact bs_zret dX12_isBubble_29 rfl (by decide) (by decide) (by decide) ⟨rfl, rfl, rfl, rfl⟩
  · exact absurd rfl c5
set_option maxHeartbeats 4000000 in
theorem n_isBubbleB {m nx fc : Nat} {FG : Nat → bs_G} {sh : bs_Sh} {mu : bs_Mm} (H : bs_St (bs_tM m) m sh mu) (hF : mFG m fc FG mu) {g : Nat} (hg : g < fc) {b : Int32} (hb : b < 0 ∨ nI (g_nu (FG g)) ≤ b) : bs_C mX12_isBubble (bs_rm 2 0 0) [.ref m, .int (nI g), .int b] nx sh mu (bs_no nx sh mu (.int (nI 0))) := by
  have q1 := hF.1
  have hV := (hF.2.2 g hg).2
  have hG := (hF.2.2 g hg).1
  have q0 := g_bn hG
  refine bs_ct (by decide +kernel) (Nat.le_of_ble_eq_true rfl) ?_
  refine bs_aload_n dX12_isBubble_0 rfl ?_
  refine bs_iload_n dX12_isBubble_1 rfl ?_
  refine bs_callVn dX12_isBubble_2 qX12_284 (n_isFigY H hF hg) rfl (H.s 0 rfl rfl rfl) rfl (Nat.le_of_ble_eq_true rfl) ⟨⟨by decide, by decide⟩, by decide, by decide⟩ ?_
  refine bs_if_eqN (tgt := 28) dX12_isBubble_5 (by decide) (by omega) (fun c5 => ?_) (fun c5 => ?_)
  · omega
  · refine bs_iload_n dX12_isBubble_8 rfl ?_
    refine bs_iconst (v := nI 0) dX12_isBubble_9 (by decide) ?_
    refine bs_aload_n dX12_isBubble_10 rfl ?_
    refine bs_getR (b := (m + 8)) dX12_isBubble_11 fX12_31 (H.s 0 rfl rfl rfl) (H.r 0 13 rfl rfl rfl) ?_
    refine bs_iload_n dX12_isBubble_14 rfl ?_
    refine bs_ialdN (n := 13) (v := (g_nu (FG g))) dX12_isBubble_15 (H.ss 8 rfl rfl) (by have q0 := hg; omega) (by decide) (hV.2.1) ?_
    refine bs_iconst (v := nI 1) dX12_isBubble_16 (by decide) ?_
    refine bs_isub dX12_isBubble_17 ?_
    refine bs_callSn dX12_isBubble_18 qX12_121 (n_inN (by omega) hb) rfl rfl (Nat.le_of_ble_eq_true rfl) ⟨⟨by decide, by decide⟩, by decide, by decide⟩ ?_
    refine bs_if_eqN (tgt := 28) dX12_isBubble_21 (by decide) (by omega) (fun c21 => ?_) (fun c21 => ?_)
    · refine bs_iconst (v := nI 0) dX12_isBubble_28 (by decide) ?_
      exact bs_zret dX12_isBubble_29 rfl (by decide) (by decide) (by decide) ⟨rfl, rfl, rfl, rfl⟩
    · exact absurd rfl c21
set_option maxHeartbeats 4000000 in
theorem n_isBubbleY {m nx fc : Nat} {FG : Nat → bs_G} {sh : bs_Sh} {mu : bs_Mm} (H : bs_St (bs_tM m) m sh mu) (hF : mFG m fc FG mu) {g : Nat} (hg : g < fc) {p : Nat} (hp : p < g_nu (FG g)) : bs_C mX12_isBubble (bs_rm 2 0 0) [.ref m, .int (nI g), .int (nI p)] nx sh mu (bs_no nx sh mu (.int (nI 1))) := by
  have q1 := hF.1
  have hV := (hF.2.2 g hg).2
  have hG := (hF.2.2 g hg).1
  have q0 := g_bn hG
  refine bs_ct (by decide +kernel) (Nat.le_of_ble_eq_true rfl) ?_
  refine bs_aload_n dX12_isBubble_0 rfl ?_
  refine bs_iload_n dX12_isBubble_1 rfl ?_
  refine bs_callVn dX12_isBubble_2 qX12_284 (n_isFigY H hF hg) rfl (H.s 0 rfl rfl rfl) rfl (Nat.le_of_ble_eq_true rfl) ⟨⟨by decide, by decide⟩, by decide, by decide⟩ ?_
  refine bs_if_eqN (tgt := 28) dX12_isBubble_5 (by decide) (by omega) (fun c5 => ?_) (fun c5 => ?_)
  · omega
  · refine bs_iload_n dX12_isBubble_8 rfl ?_
    refine bs_iconst (v := nI 0) dX12_isBubble_9 (by decide) ?_
    refine bs_aload_n dX12_isBubble_10 rfl ?_
    refine bs_getR (b := (m + 8)) dX12_isBubble_11 fX12_31 (H.s 0 rfl rfl rfl) (H.r 0 13 rfl rfl rfl) ?_
    refine bs_iload_n dX12_isBubble_14 rfl ?_
    refine bs_ialdN (n := 13) (v := (g_nu (FG g))) dX12_isBubble_15 (H.ss 8 rfl rfl) (by have q0 := hg; omega) (by decide) (hV.2.1) ?_
    refine bs_iconst (v := nI 1) dX12_isBubble_16 (by decide) ?_
    refine bs_isubN dX12_isBubble_17 (by have q0 := g_bn hG; omega) ?_
    refine bs_callSn dX12_isBubble_18 qX12_121 (n_inY (by omega) hp) rfl rfl (Nat.le_of_ble_eq_true rfl) ⟨⟨by decide, by decide⟩, by decide, by decide⟩ ?_
    refine bs_if_eqN (tgt := 28) dX12_isBubble_21 (by decide) (by omega) (fun c21 => ?_) (fun c21 => ?_)
    · omega
    · refine bs_iconst (v := nI 1) dX12_isBubble_24 (by decide) ?_
      refine bs_goto (tgt := 29) dX12_isBubble_25 (by decide) ?_
      exact bs_zret dX12_isBubble_29 rfl (by decide) (by decide) (by decide) ⟨rfl, rfl, rfl, rfl⟩
set_option maxHeartbeats 4000000 in
theorem n_isBalloonN {m nx fc : Nat} {FG : Nat → bs_G} {sh : bs_Sh} {mu : bs_Mm} (H : bs_St (bs_tM m) m sh mu) (hF : mFG m fc FG mu) {a : Int32} (ha : a < 0 ∨ nI fc ≤ a) (b : Int32) : bs_C mX12_isBalloon (bs_rm 2 0 0) [.ref m, .int a, .int b] nx sh mu (bs_no nx sh mu (.int (nI 0))) := by
  refine bs_ct (by decide +kernel) (Nat.le_of_ble_eq_true rfl) ?_
  refine bs_aload_n dX12_isBalloon_0 rfl ?_
  refine bs_iload_n dX12_isBalloon_1 rfl ?_
  refine bs_callVn dX12_isBalloon_2 qX12_284 (n_isFigN H hF ha) rfl (H.s 0 rfl rfl rfl) rfl (Nat.le_of_ble_eq_true rfl) ⟨⟨by decide, by decide⟩, by decide, by decide⟩ ?_
  refine bs_if_eqN (tgt := 28) dX12_isBalloon_5 (by decide) (by omega) (fun c5 => ?_) (fun c5 => ?_)
  · refine bs_iconst (v := nI 0) dX12_isBalloon_28 (by decide) ?_
    exact bs_zret dX12_isBalloon_29 rfl (by decide) (by decide) (by decide) ⟨rfl, rfl, rfl, rfl⟩
  · exact absurd rfl c5
set_option maxHeartbeats 4000000 in
theorem n_isBalloonB {m nx fc : Nat} {FG : Nat → bs_G} {sh : bs_Sh} {mu : bs_Mm} (H : bs_St (bs_tM m) m sh mu) (hF : mFG m fc FG mu) {g : Nat} (hg : g < fc) {b : Int32} (hb : b < 0 ∨ nI (g_nb (FG g)) ≤ b) : bs_C mX12_isBalloon (bs_rm 2 0 0) [.ref m, .int (nI g), .int b] nx sh mu (bs_no nx sh mu (.int (nI 0))) := by
  have q1 := hF.1
  have hV := (hF.2.2 g hg).2
  have hG := (hF.2.2 g hg).1
  have q0 := g_bn hG
  refine bs_ct (by decide +kernel) (Nat.le_of_ble_eq_true rfl) ?_
  refine bs_aload_n dX12_isBalloon_0 rfl ?_
  refine bs_iload_n dX12_isBalloon_1 rfl ?_
  refine bs_callVn dX12_isBalloon_2 qX12_284 (n_isFigY H hF hg) rfl (H.s 0 rfl rfl rfl) rfl (Nat.le_of_ble_eq_true rfl) ⟨⟨by decide, by decide⟩, by decide, by decide⟩ ?_
  refine bs_if_eqN (tgt := 28) dX12_isBalloon_5 (by decide) (by omega) (fun c5 => ?_) (fun c5 => ?_)
  · omega
  · refine bs_iload_n dX12_isBalloon_8 rfl ?_
    refine bs_iconst (v := nI 0) dX12_isBalloon_9 (by decide) ?_
    refine bs_aload_n dX12_isBalloon_10 rfl ?_
    refine bs_getR (b := (m + 6)) dX12_isBalloon_11 fX12_25 (H.s 0 rfl rfl rfl) (H.r 0 11 rfl rfl rfl) ?_
    refine bs_iload_n dX12_isBalloon_14 rfl ?_
    refine bs_ialdN (n := 13) (v := (g_nb (FG g))) dX12_isBalloon_15 (H.ss 6 rfl rfl) (by have q0 := hg; omega) (by decide) (hV.1) ?_
    refine bs_iconst (v := nI 1) dX12_isBalloon_16 (by decide) ?_
    refine bs_isub dX12_isBalloon_17 ?_
    refine bs_callSn dX12_isBalloon_18 qX12_121 (n_inN (by omega) hb) rfl rfl (Nat.le_of_ble_eq_true rfl) ⟨⟨by decide, by decide⟩, by decide, by decide⟩ ?_
    refine bs_if_eqN (tgt := 28) dX12_isBalloon_21 (by decide) (by omega) (fun c21 => ?_) (fun c21 => ?_)
    · refine bs_iconst (v := nI 0) dX12_isBalloon_28 (by decide) ?_
      exact bs_zret dX12_isBalloon_29 rfl (by decide) (by decide) (by decide) ⟨rfl, rfl, rfl, rfl⟩
    · exact absurd rfl c21
set_option maxHeartbeats 4000000 in
theorem n_isBalloonY {m nx fc : Nat} {FG : Nat → bs_G} {sh : bs_Sh} {mu : bs_Mm} (H : bs_St (bs_tM m) m sh mu) (hF : mFG m fc FG mu) {g : Nat} (hg : g < fc) {p : Nat} (hp : p < g_nb (FG g)) : bs_C mX12_isBalloon (bs_rm 2 0 0) [.ref m, .int (nI g), .int (nI p)] nx sh mu (bs_no nx sh mu (.int (nI 1))) := by
  have q1 := hF.1
  have hV := (hF.2.2 g hg).2
  have hG := (hF.2.2 g hg).1
  have q0 := g_bn hG
  refine bs_ct (by decide +kernel) (Nat.le_of_ble_eq_true rfl) ?_
  refine bs_aload_n dX12_isBalloon_0 rfl ?_
  refine bs_iload_n dX12_isBalloon_1 rfl ?_
  refine bs_callVn dX12_isBalloon_2 qX12_284 (n_isFigY H hF hg) rfl (H.s 0 rfl rfl rfl) rfl (Nat.le_of_ble_eq_true rfl) ⟨⟨by decide, by decide⟩, by decide, by decide⟩ ?_
  refine bs_if_eqN (tgt := 28) dX12_isBalloon_5 (by decide) (by omega) (fun c5 => ?_) (fun c5 => ?_)
  · omega
  · refine bs_iload_n dX12_isBalloon_8 rfl ?_
    refine bs_iconst (v := nI 0) dX12_isBalloon_9 (by decide) ?_
    refine bs_aload_n dX12_isBalloon_10 rfl ?_
    refine bs_getR (b := (m + 6)) dX12_isBalloon_11 fX12_25 (H.s 0 rfl rfl rfl) (H.r 0 11 rfl rfl rfl) ?_
    refine bs_iload_n dX12_isBalloon_14 rfl ?_
    refine bs_ialdN (n := 13) (v := (g_nb (FG g))) dX12_isBalloon_15 (H.ss 6 rfl rfl) (by have q0 := hg; omega) (by decide) (hV.1) ?_
    refine bs_iconst (v := nI 1) dX12_isBalloon_16 (by decide) ?_
    refine bs_isubN dX12_isBalloon_17 (by have q0 := g_bn hG; omega) ?_
    refine bs_callSn dX12_isBalloon_18 qX12_121 (n_inY (by omega) hp) rfl rfl (Nat.le_of_ble_eq_true rfl) ⟨⟨by decide, by decide⟩, by decide, by decide⟩ ?_
    refine bs_if_eqN (tgt := 28) dX12_isBalloon_21 (by decide) (by omega) (fun c21 => ?_) (fun c21 => ?_)
    · omega
    · refine bs_iconst (v := nI 1) dX12_isBalloon_24 (by decide) ?_
      refine bs_goto (tgt := 29) dX12_isBalloon_25 (by decide) ?_
      exact bs_zret dX12_isBalloon_29 rfl (by decide) (by decide) (by decide) ⟨rfl, rfl, rfl, rfl⟩
theorem g_all_lt {G : bs_G} (h : g_ok G) : 2 ^ g_nu G - 1 < 2 ^ 24 := by
  have h1 := Nat.pow_le_pow_right (n := 2) (by decide) h.2.1
  have h2 := Nat.one_le_two_pow (n := g_nu G)
  omega
theorem n_endsAll {m nx g p : Nat} {sh : bs_Sh} {mu : bs_Mm} {G : bs_G} (H : bs_St (bs_tM m) m sh mu) (hV : mFv m g G mu) (hg : g < 13) (hG : g_ok G) (hp : p < 2 ^ 30) : bs_C mX12_endsIn (bs_rm 0 0 0) [.ref m, .int (nI g), .int (nI p), .int (nI (2 ^ g_nu G - 1))] nx sh mu (bs_no nx sh mu (.int (nI (g_en G p)))) := by
  have k := n_endsIn (nx := nx) H hV hg hG hp (g_all_lt hG)
  rwa [g_es_all] at k
set_option maxHeartbeats 4000000 in
theorem n_isSlack {m nx g : Nat} {sh : bs_Sh} {mu : bs_Mm} {G : bs_G} (H : bs_St (bs_tM m) m sh mu) (hV : mFv m g G mu) (hg : g < 13) (hG : g_ok G) (i : Nat) (hi : i < g_nu G) : bs_C mX12_isSlack (bs_rm 1 0 0) [.ref m, .int (nI g), .int (nI i)] nx sh mu (bs_no nx sh mu (.int (nI (g_if (g_en G (g_to G i) < 3))))) := by
  have q0 := g_bn hG
  refine bs_ct (by decide +kernel) (Nat.le_of_ble_eq_true rfl) ?_
  refine bs_aload_n dX12_isSlack_0 rfl ?_
  refine bs_iload_n dX12_isSlack_1 rfl ?_
  refine bs_aload_n dX12_isSlack_2 rfl ?_
  refine bs_getR (b := (m + 12)) dX12_isSlack_3 fX12_43 (H.s 0 rfl rfl rfl) (H.r 0 17 rfl rfl rfl) ?_
  refine bs_bipush (v := nI 24) dX12_isSlack_6 (by decide) ?_
  refine bs_iload_n dX12_isSlack_8 rfl ?_
  refine bs_imulN dX12_isSlack_9 ?_
  refine bs_iload_n dX12_isSlack_10 rfl ?_
  refine bs_iaddN dX12_isSlack_11 ?_
  refine bs_ialdN (n := 312) (v := (g_to G i)) dX12_isSlack_12 (H.ss 12 rfl rfl) (by have q0 := hi; omega) (by decide) (hV.2.2.2.2.2.2.2.1 i (by omega)) ?_
  refine bs_aload_n dX12_isSlack_13 rfl ?_
  refine bs_iload_n dX12_isSlack_14 rfl ?_
  refine bs_callVn dX12_isSlack_15 qX12_287 (n_all H hV hg hG) rfl (H.s 0 rfl rfl rfl) rfl (Nat.le_of_ble_eq_true rfl) ⟨⟨by decide, by decide⟩, by decide, by decide⟩ ?_
  refine bs_callVn dX12_isSlack_18 qX12_290 (n_endsAll H hV hg hG (by have := g_bd hG (i := i) (by omega); omega)) rfl (H.s 0 rfl rfl rfl) rfl (Nat.le_of_ble_eq_true rfl) ⟨⟨by decide, by decide⟩, by decide, by decide⟩ ?_
  refine bs_iconst (v := nI 3) dX12_isSlack_21 (by decide) ?_
  refine bs_icmp_geN (tgt := 29) dX12_isSlack_22 (by decide) (by have q0 := g_be hG (g_to G i); omega) (by omega) (fun c22 => ?_) (fun c22 => ?_)
  · refine bs_iconst (v := nI 0) dX12_isSlack_29 (by decide) ?_
    exact bs_zret dX12_isSlack_30 rfl (by decide) (by decide) (by decide) ⟨by rw [g_if0 (by omega)], rfl, rfl, rfl⟩
  · refine bs_iconst (v := nI 1) dX12_isSlack_25 (by decide) ?_
    refine bs_goto (tgt := 30) dX12_isSlack_26 (by decide) ?_
    exact bs_zret dX12_isSlack_30 rfl (by decide) (by decide) (by decide) ⟨by rw [g_if1 c22], rfl, rfl, rfl⟩
set_option maxHeartbeats 4000000 in
theorem n_handsN {m nx fc : Nat} {FG : Nat → bs_G} {sh : bs_Sh} {mu : bs_Mm} (H : bs_St (bs_tM m) m sh mu) (hF : mFG m fc FG mu) {a : Int32} (ha : a < 0 ∨ nI fc ≤ a) : bs_C mX12_hands (bs_rm 10 0 0) [.ref m, .int a] nx sh mu (bs_no nx sh mu (.int (-1))) := by
  refine bs_ct (by decide +kernel) (Nat.le_of_ble_eq_true rfl) ?_
  refine bs_aload_n dX12_hands_0 rfl ?_
  refine bs_iload_n dX12_hands_1 rfl ?_
  refine bs_callVn dX12_hands_2 qX12_284 (n_isFigN H hF ha) rfl (H.s 0 rfl rfl rfl) rfl (Nat.le_of_ble_eq_true rfl) ⟨⟨by decide, by decide⟩, by decide, by decide⟩ ?_
  refine bs_if_eqN (tgt := 17) dX12_hands_5 (by decide) (by omega) (fun c5 => ?_) (fun c5 => ?_)
  · refine bs_iconst (v := (-1)) dX12_hands_17 (by decide) ?_
    exact bs_iret dX12_hands_18 rfl (by decide) (by decide) ⟨rfl, rfl, rfl, rfl⟩
  · exact absurd rfl c5
set_option maxHeartbeats 4000000 in
theorem n_handsY {m nx fc : Nat} {FG : Nat → bs_G} {sh : bs_Sh} {mu : bs_Mm} (H : bs_St (bs_tM m) m sh mu) (hF : mFG m fc FG mu) {g : Nat} (hg : g < fc) : bs_C mX12_hands (bs_rm 10 0 0) [.ref m, .int (nI g)] nx sh mu (bs_no nx sh mu (.int (nI (g_mh (FG g))))) := by
  have q1 := hF.1
  have hV := (hF.2.2 g hg).2
  have hG := (hF.2.2 g hg).1
  have q0 := g_bn hG
  refine bs_ct (by decide +kernel) (Nat.le_of_ble_eq_true rfl) ?_
  refine bs_aload_n dX12_hands_0 rfl ?_
  refine bs_iload_n dX12_hands_1 rfl ?_
  refine bs_callVn dX12_hands_2 qX12_284 (n_isFigY H hF hg) rfl (H.s 0 rfl rfl rfl) rfl (Nat.le_of_ble_eq_true rfl) ⟨⟨by decide, by decide⟩, by decide, by decide⟩ ?_
  refine bs_if_eqN (tgt := 17) dX12_hands_5 (by decide) (by omega) (fun c5 => ?_) (fun c5 => ?_)
  · omega
  · refine bs_aload_n dX12_hands_8 rfl ?_
    refine bs_getR (b := (m + 14)) dX12_hands_9 fX12_49 (H.s 0 rfl rfl rfl) (H.r 0 19 rfl rfl rfl) ?_
    refine bs_iload_n dX12_hands_12 rfl ?_
    refine bs_ialdN (n := 13) (v := (g_mh (FG g))) dX12_hands_13 (H.ss 14 rfl rfl) (by have q0 := hg; omega) (by decide) (hV.2.2.2.1) ?_
    refine bs_goto (tgt := 18) dX12_hands_14 (by decide) ?_
    exact bs_iret dX12_hands_18 rfl (by decide) (by decide) ⟨rfl, rfl, rfl, rfl⟩
set_option maxHeartbeats 4000000 in
theorem n_endsN {m nx fc : Nat} {FG : Nat → bs_G} {sh : bs_Sh} {mu : bs_Mm} (H : bs_St (bs_tM m) m sh mu) (hF : mFG m fc FG mu) {a : Int32} (ha : a < 0 ∨ nI fc ≤ a) (b : Int32) : bs_C mX12_ends (bs_rm 10 0 0) [.ref m, .int a, .int b] nx sh mu (bs_no nx sh mu (.int (-1))) := by
  refine bs_ct (by decide +kernel) (Nat.le_of_ble_eq_true rfl) ?_
  refine bs_aload_n dX12_ends_0 rfl ?_
  refine bs_iload_n dX12_ends_1 rfl ?_
  refine bs_iload_n dX12_ends_2 rfl ?_
  refine bs_callVn dX12_ends_3 qX12_307 (n_isPointN H hF ha b) rfl (H.s 0 rfl rfl rfl) rfl (Nat.le_of_ble_eq_true rfl) ⟨⟨by decide, by decide⟩, by decide, by decide⟩ ?_
  refine bs_if_eqN (tgt := 23) dX12_ends_6 (by decide) (by omega) (fun c6 => ?_) (fun c6 => ?_)
  · refine bs_iconst (v := (-1)) dX12_ends_23 (by decide) ?_
    exact bs_iret dX12_ends_24 rfl (by decide) (by decide) ⟨rfl, rfl, rfl, rfl⟩
  · exact absurd rfl c6
set_option maxHeartbeats 4000000 in
theorem n_endsB {m nx fc : Nat} {FG : Nat → bs_G} {sh : bs_Sh} {mu : bs_Mm} (H : bs_St (bs_tM m) m sh mu) (hF : mFG m fc FG mu) {g : Nat} (hg : g < fc) {b : Int32} (hb : b < 0 ∨ nI (g_np (FG g)) ≤ b) : bs_C mX12_ends (bs_rm 10 0 0) [.ref m, .int (nI g), .int b] nx sh mu (bs_no nx sh mu (.int (-1))) := by
  have q1 := hF.1
  have hV := (hF.2.2 g hg).2
  have hG := (hF.2.2 g hg).1
  have q0 := g_bn hG
  refine bs_ct (by decide +kernel) (Nat.le_of_ble_eq_true rfl) ?_
  refine bs_aload_n dX12_ends_0 rfl ?_
  refine bs_iload_n dX12_ends_1 rfl ?_
  refine bs_iload_n dX12_ends_2 rfl ?_
  refine bs_callVn dX12_ends_3 qX12_307 (n_isPointB H hF hg hb) rfl (H.s 0 rfl rfl rfl) rfl (Nat.le_of_ble_eq_true rfl) ⟨⟨by decide, by decide⟩, by decide, by decide⟩ ?_
  refine bs_if_eqN (tgt := 23) dX12_ends_6 (by decide) (by omega) (fun c6 => ?_) (fun c6 => ?_)
  · refine bs_iconst (v := (-1)) dX12_ends_23 (by decide) ?_
    exact bs_iret dX12_ends_24 rfl (by decide) (by decide) ⟨rfl, rfl, rfl, rfl⟩
  · exact absurd rfl c6
set_option maxHeartbeats 4000000 in
theorem n_holdsN {m nx fc : Nat} {FG : Nat → bs_G} {sh : bs_Sh} {mu : bs_Mm} (H : bs_St (bs_tM m) m sh mu) (hF : mFG m fc FG mu) {a : Int32} (ha : a < 0 ∨ nI fc ≤ a) (b : Int32) : bs_C mX12_holds (bs_rm 10 0 0) [.ref m, .int a, .int b] nx sh mu (bs_no nx sh mu (.int (-1))) := by
  refine bs_ct (by decide +kernel) (Nat.le_of_ble_eq_true rfl) ?_
  refine bs_aload_n dX12_holds_0 rfl ?_
  refine bs_iload_n dX12_holds_1 rfl ?_
  refine bs_iload_n dX12_holds_2 rfl ?_
  refine bs_callVn dX12_holds_3 qX12_304 (n_isBubbleN H hF ha b) rfl (H.s 0 rfl rfl rfl) rfl (Nat.le_of_ble_eq_true rfl) ⟨⟨by decide, by decide⟩, by decide, by decide⟩ ?_
  refine bs_if_eqN (tgt := 35) dX12_holds_6 (by decide) (by omega) (fun c6 => ?_) (fun c6 => ?_)
  · refine bs_iconst (v := (-1)) dX12_holds_35 (by decide) ?_
    exact bs_iret dX12_holds_36 rfl (by decide) (by decide) ⟨rfl, rfl, rfl, rfl⟩
  · exact absurd rfl c6
set_option maxHeartbeats 4000000 in
theorem n_holdsB {m nx fc : Nat} {FG : Nat → bs_G} {sh : bs_Sh} {mu : bs_Mm} (H : bs_St (bs_tM m) m sh mu) (hF : mFG m fc FG mu) {g : Nat} (hg : g < fc) {b : Int32} (hb : b < 0 ∨ nI (g_nu (FG g)) ≤ b) : bs_C mX12_holds (bs_rm 10 0 0) [.ref m, .int (nI g), .int b] nx sh mu (bs_no nx sh mu (.int (-1))) := by
  have q1 := hF.1
  have hV := (hF.2.2 g hg).2
  have hG := (hF.2.2 g hg).1
  have q0 := g_bn hG
  refine bs_ct (by decide +kernel) (Nat.le_of_ble_eq_true rfl) ?_
  refine bs_aload_n dX12_holds_0 rfl ?_
  refine bs_iload_n dX12_holds_1 rfl ?_
  refine bs_iload_n dX12_holds_2 rfl ?_
  refine bs_callVn dX12_holds_3 qX12_304 (n_isBubbleB H hF hg hb) rfl (H.s 0 rfl rfl rfl) rfl (Nat.le_of_ble_eq_true rfl) ⟨⟨by decide, by decide⟩, by decide, by decide⟩ ?_
  refine bs_if_eqN (tgt := 35) dX12_holds_6 (by decide) (by omega) (fun c6 => ?_) (fun c6 => ?_)
  · refine bs_iconst (v := (-1)) dX12_holds_35 (by decide) ?_
    exact bs_iret dX12_holds_36 rfl (by decide) (by decide) ⟨rfl, rfl, rfl, rfl⟩
  · exact absurd rfl c6
set_option maxHeartbeats 4000000 in
theorem n_endsY {m nx fc : Nat} {FG : Nat → bs_G} {sh : bs_Sh} {mu : bs_Mm} (H : bs_St (bs_tM m) m sh mu) (hF : mFG m fc FG mu) {g : Nat} (hg : g < fc) {p : Nat} (hp : p < g_np (FG g)) : bs_C mX12_ends (bs_rm 10 0 0) [.ref m, .int (nI g), .int (nI p)] nx sh mu (bs_no nx sh mu (.int (nI (g_en (FG g) p)))) := by
  have q1 := hF.1
  have hV := (hF.2.2 g hg).2
  have hG := (hF.2.2 g hg).1
  have q0 := g_bn hG
  refine bs_ct (by decide +kernel) (Nat.le_of_ble_eq_true rfl) ?_
  refine bs_aload_n dX12_ends_0 rfl ?_
  refine bs_iload_n dX12_ends_1 rfl ?_
  refine bs_iload_n dX12_ends_2 rfl ?_
  refine bs_callVn dX12_ends_3 qX12_307 (n_isPointY H hF hg hp) rfl (H.s 0 rfl rfl rfl) rfl (Nat.le_of_ble_eq_true rfl) ⟨⟨by decide, by decide⟩, by decide, by decide⟩ ?_
  refine bs_if_eqN (tgt := 23) dX12_ends_6 (by decide) (by omega) (fun c6 => ?_) (fun c6 => ?_)
  · omega
  · refine bs_aload_n dX12_ends_9 rfl ?_
    refine bs_iload_n dX12_ends_10 rfl ?_
    refine bs_iload_n dX12_ends_11 rfl ?_
    refine bs_aload_n dX12_ends_12 rfl ?_
    refine bs_iload_n dX12_ends_13 rfl ?_
    refine bs_callVn dX12_ends_14 qX12_287 (n_all H hV (by omega) hG) rfl (H.s 0 rfl rfl rfl) rfl (Nat.le_of_ble_eq_true rfl) ⟨⟨by decide, by decide⟩, by decide, by decide⟩ ?_
    refine bs_callVn dX12_ends_17 qX12_290 (n_endsAll H hV (by omega) hG (by omega)) rfl (H.s 0 rfl rfl rfl) rfl (Nat.le_of_ble_eq_true rfl) ⟨⟨by decide, by decide⟩, by decide, by decide⟩ ?_
    refine bs_goto (tgt := 24) dX12_ends_20 (by decide) ?_
    exact bs_iret dX12_ends_24 rfl (by decide) (by decide) ⟨rfl, rfl, rfl, rfl⟩
theorem g_sl_y {G : bs_G} {i : Nat} (h : g_tw G i ≠ 0) (h2 : g_if (g_en G (g_to G i) < 3) ≠ 0) : g_sl G i ≠ 0 := by
  by_cases z : g_en G (g_to G i) < 3
  · unfold g_sl
    rw [g_if1 ⟨(g_tw_in h).1, z⟩]
    decide
  · exact absurd (g_if0 z) h2
theorem g_sl_z {G : bs_G} {i : Nat} (h2 : g_if (g_en G (g_to G i) < 3) = 0) : g_sl G i = 0 := by
  refine g_if0 fun z => ?_
  rw [g_if1 z.2] at h2
  exact absurd h2 (by decide)
set_option maxHeartbeats 4000000 in
theorem n_holdsY {m nx fc : Nat} {FG : Nat → bs_G} {sh : bs_Sh} {mu : bs_Mm} (H : bs_St (bs_tM m) m sh mu) (hF : mFG m fc FG mu) {g : Nat} (hg : g < fc) {i : Nat} (hi : i < g_nu (FG g)) : bs_C mX12_holds (bs_rm 10 0 0) [.ref m, .int (nI g), .int (nI i)] nx sh mu (bs_no nx sh mu (.int (g_ho (FG g) i))) := by
  have q1 := hF.1
  have hV := (hF.2.2 g hg).2
  have hG := (hF.2.2 g hg).1
  have q0 := g_bn hG
  refine bs_ct (by decide +kernel) (Nat.le_of_ble_eq_true rfl) ?_
  refine bs_aload_n dX12_holds_0 rfl ?_
  refine bs_iload_n dX12_holds_1 rfl ?_
  refine bs_iload_n dX12_holds_2 rfl ?_
  refine bs_callVn dX12_holds_3 qX12_304 (n_isBubbleY H hF hg hi) rfl (H.s 0 rfl rfl rfl) rfl (Nat.le_of_ble_eq_true rfl) ⟨⟨by decide, by decide⟩, by decide, by decide⟩ ?_
  refine bs_if_eqN (tgt := 35) dX12_holds_6 (by decide) (by omega) (fun c6 => ?_) (fun c6 => ?_)
  · omega
  · refine bs_aload_n dX12_holds_9 rfl ?_
    refine bs_iload_n dX12_holds_10 rfl ?_
    refine bs_iload_n dX12_holds_11 rfl ?_
    refine bs_callVn dX12_holds_12 qX12_294 (n_isTwist H hV (by omega) hG i (by omega)) rfl (H.s 0 rfl rfl rfl) rfl (Nat.le_of_ble_eq_true rfl) ⟨⟨by decide, by decide⟩, by decide, by decide⟩ ?_
    refine bs_if_eqN (tgt := 35) dX12_holds_15 (by decide) (by have q0 := g_tw_le (FG g) i; omega) (fun c15 => ?_) (fun c15 => ?_)
    · refine bs_iconst (v := (-1)) dX12_holds_35 (by decide) ?_
      exact bs_iret dX12_holds_36 rfl (by decide) (by decide) ⟨by rw [g_ho_n c15], rfl, rfl, rfl⟩
    · refine bs_aload_n dX12_holds_18 rfl ?_
      refine bs_iload_n dX12_holds_19 rfl ?_
      refine bs_iload_n dX12_holds_20 rfl ?_
      refine bs_callVn dX12_holds_21 qX12_298 (n_isSlack H hV (by omega) hG i hi) rfl (H.s 0 rfl rfl rfl) rfl (Nat.le_of_ble_eq_true rfl) ⟨⟨by decide, by decide⟩, by decide, by decide⟩ ?_
      refine bs_if_eqN (tgt := 31) dX12_holds_24 (by decide) (by have q0 := g_if_le (g_en (FG g) (g_to (FG g) i) < 3); omega) (fun c24 => ?_) (fun c24 => ?_)
      · refine bs_iconst (v := nI 1) dX12_holds_31 (by decide) ?_
        refine bs_goto (tgt := 36) dX12_holds_32 (by decide) ?_
        exact bs_iret dX12_holds_36 rfl (by decide) (by decide) ⟨by rw [g_ho_1 c15 (g_sl_z c24)], rfl, rfl, rfl⟩
      · refine bs_iconst (v := nI 0) dX12_holds_27 (by decide) ?_
        refine bs_goto (tgt := 36) dX12_holds_28 (by decide) ?_
        exact bs_iret dX12_holds_36 rfl (by decide) (by decide) ⟨by rw [g_ho_0 c15 (g_sl_y c15 c24)], rfl, rfl, rfl⟩
