/-! BURSTS (own) -/
theorem bs_subadd (t s k : Nat) : nI t - nI s + nI k = nI (t + k) - nI s := by
  rw [← nI_add, Int32.sub_eq_add_neg, Int32.sub_eq_add_neg, Int32.add_assoc, Int32.add_comm (-nI s), ← Int32.add_assoc]
theorem bs_subneg (s : Nat) : -nI s = nI 0 - nI s := by rw [nI_0, Int32.sub_eq_add_neg, Int32.zero_add]
theorem bs_sub_le {t s a : Nat} (ht : t < 2 ^ 30) (hs : s < 2 ^ 30) (ha : a < 2 ^ 30) : nI t - nI s ≤ nI a ↔ t ≤ a + s := by
  rw [Int32.le_iff_toInt_le, pk_sub_toInt ht hs, nI_toInt (by omega)]
  omega
/-- the first bubble of balloon b at which more than air is needed; t is the need so far and one strain -/
def g_br (G : bs_G) (b air st : Nat) : Nat → Nat → Nat → Int32
  | 0, _, _ => -1
  | r + 1, i, t => if g_bo G i = b then (if t + (st + g_le G i) ≤ air + st then g_br G b air st r (i + 1) (t + (st + g_le G i)) else nI i) else g_br G b air st r (i + 1) t
theorem g_br_o {G : bs_G} {b air st r i t : Nat} (h : g_bo G i ≠ b) : g_br G b air st (r + 1) i t = g_br G b air st r (i + 1) t := if_neg h
theorem g_br_m {G : bs_G} {b air st r i t : Nat} (h : g_bo G i = b) (h2 : t + (st + g_le G i) ≤ air + st) : g_br G b air st (r + 1) i t = g_br G b air st r (i + 1) (t + (st + g_le G i)) := by rw [g_br, if_pos h, if_pos h2]
theorem g_br_y {G : bs_G} {b air st r i t : Nat} (h : g_bo G i = b) (h2 : ¬ t + (st + g_le G i) ≤ air + st) : g_br G b air st (r + 1) i t = nI i := by rw [g_br, if_pos h, if_neg h2]
set_option maxHeartbeats 4000000 in
theorem f_burst_l {f nx : Nat} {sh : bs_Sh} {mu : bs_Mm} {G : bs_G} (hS : cFs f sh mu) (hV : cFv f G mu) (hG : g_ok G) {b air st : Nat} (hb : b < 2 ^ 30) (ha : air ≤ 200) (hs : st ≤ 9) : ∀ (r i t : Nat), i + r = g_nu G → t ≤ 800 * i → bs_W (bs_no nx sh mu (.int (g_br G b air st r i t))) mX1_burstOf (bs_rm 0 0 0) 7 (bs_mk [(0, .ref f), (1, .int (nI b)), (2, .int (nI air)), (3, .int (nI st)), (4, .int (nI t - nI st)), (5, .int (nI i))]) [] 0 0 nx sh mu := by
  have q0 := g_bn hG
  intro r
  induction r with
  | zero =>
    intro i t hi hq
    refine bs_iload dX1_burstOf_7 rfl ?_
    refine bs_aload_n dX1_burstOf_9 rfl ?_
    refine bs_getN (v := (g_nu G)) dX1_burstOf_10 fX1_40 (hS.1) (hV.2.1) ?_
    refine bs_icmp_geN (tgt := 56) dX1_burstOf_13 (by decide) (by omega) (by have q0 := g_bn hG; omega) (fun c13 => ?_) (fun c13 => ?_)
    · refine bs_iconst (v := (-1)) dX1_burstOf_56 (by decide) ?_
      exact bs_iret dX1_burstOf_57 rfl (by decide) (by decide) ⟨rfl, rfl, rfl, rfl⟩
    · omega
  | succ r ih =>
    intro i t hi hq
    refine bs_iload dX1_burstOf_7 rfl ?_
    refine bs_aload_n dX1_burstOf_9 rfl ?_
    refine bs_getN (v := (g_nu G)) dX1_burstOf_10 fX1_40 (hS.1) (hV.2.1) ?_
    refine bs_icmp_geN (tgt := 56) dX1_burstOf_13 (by decide) (by omega) (by have q0 := g_bn hG; omega) (fun c13 => ?_) (fun c13 => ?_)
    · omega
    · have q2 := g_bd hG (i := i) (by omega)
      refine bs_aload_n dX1_burstOf_16 rfl ?_
      refine bs_getR (b := (f + 5)) dX1_burstOf_17 fX1_24 (hS.1) (hS.2.1 4 (by decide)) ?_
      refine bs_iload dX1_burstOf_20 rfl ?_
      refine bs_ialdN (n := 24) (v := (g_bo G i)) dX1_burstOf_22 (hS.2.2 4 (by decide)) (by omega) (by decide) (hV.2.2.2.2.2.2.2.2.1 i (by omega)) ?_
      refine bs_iload_n dX1_burstOf_23 rfl ?_
      refine bs_icmp_neN (tgt := 50) dX1_burstOf_24 (by decide) (by have q0 := g_bd hG (i := i) (by omega); omega) (by have q0 := hb; omega) (fun c24 => ?_) (fun c24 => ?_)
      · refine bs_iincN (n := 1) dX1_burstOf_50 rfl rfl ?_
        refine bs_goto (tgt := 7) dX1_burstOf_53 (by decide) ?_
        refine bs_W.mk [(0, .ref f), (1, .int (nI b)), (2, .int (nI air)), (3, .int (nI st)), (4, .int (nI t - nI st)), (5, .int (nI (i + 1)))] ?_ ?_
        · intro q hq
          simp only [List.mem_cons, List.not_mem_nil, or_false] at hq
          rcases hq with rfl | rfl | rfl | rfl | rfl | rfl <;> rfl
        · rw [g_br_o c24]
          exact ih (i + 1) (t) (by omega) (by omega)
      · refine bs_iload dX1_burstOf_27 rfl ?_
        refine bs_iload_n dX1_burstOf_29 rfl ?_
        refine bs_aload_n dX1_burstOf_30 rfl ?_
        refine bs_getR (b := (f + 2)) dX1_burstOf_31 fX1_15 (hS.1) (hS.2.1 1 (by decide)) ?_
        refine bs_iload dX1_burstOf_34 rfl ?_
        refine bs_ialdN (n := 24) (v := (g_le G i)) dX1_burstOf_36 (hS.2.2 1 (by decide)) (by omega) (by decide) (hV.2.2.2.2.2.1 i (by omega)) ?_
        refine bs_iaddN dX1_burstOf_37 ?_
        refine bs_iadd dX1_burstOf_38 ?_
        refine bs_topq (x' := nI (t + (st + g_le G i)) - nI st) (bs_subadd t st (st + g_le G i)) ?_
        refine bs_istore dX1_burstOf_39 rfl (by decide) ?_
        refine bs_iload dX1_burstOf_41 rfl ?_
        refine bs_iload_n dX1_burstOf_43 rfl ?_
        refine bs_icmp_le (tgt := 50) dX1_burstOf_44 (by decide) (fun c44 => ?_) (fun c44 => ?_)
        · refine bs_iincN (n := 1) dX1_burstOf_50 rfl rfl ?_
          refine bs_goto (tgt := 7) dX1_burstOf_53 (by decide) ?_
          refine bs_W.mk [(0, .ref f), (1, .int (nI b)), (2, .int (nI air)), (3, .int (nI st)), (4, .int (nI (t + (st + g_le G i)) - nI st)), (5, .int (nI (i + 1)))] ?_ ?_
          · intro q hq
            simp only [List.mem_cons, List.not_mem_nil, or_false] at hq
            rcases hq with rfl | rfl | rfl | rfl | rfl | rfl <;> rfl
          · rw [g_br_m c24 ((bs_sub_le (by omega) (by omega) (by omega)).mp c44)]
            exact ih (i + 1) ((t + (st + g_le G i))) (by omega) (by omega)
        · refine bs_iload dX1_burstOf_47 rfl ?_
          exact bs_iret dX1_burstOf_49 rfl (by decide) (by decide) ⟨by rw [g_br_y c24 (fun z => c44 ((bs_sub_le (by omega) (by omega) (by omega)).mpr z))], rfl, rfl, rfl⟩
set_option maxHeartbeats 4000000 in
theorem f_burstOf {f nx : Nat} {sh : bs_Sh} {mu : bs_Mm} {G : bs_G} (hS : cFs f sh mu) (hV : cFv f G mu) (hG : g_ok G) {b air st : Nat} (hb : b < 2 ^ 30) (ha : air ≤ 200) (hs : st ≤ 9) : bs_C mX1_burstOf (bs_rm 0 0 0) [.ref f, .int (nI b), .int (nI air), .int (nI st)] nx sh mu (bs_no nx sh mu (.int (g_br G b air st (g_nu G) 0 0))) := by
  refine bs_ct (by decide +kernel) (Nat.le_of_ble_eq_true rfl) ?_
  refine bs_iload_n dX1_burstOf_0 rfl ?_
  refine bs_ineg dX1_burstOf_1 ?_
  refine bs_topq (x' := nI 0 - nI st) (bs_subneg st) ?_
  refine bs_istore dX1_burstOf_2 rfl (by decide) ?_
  refine bs_iconst (v := nI 0) dX1_burstOf_4 (by decide) ?_
  refine bs_istore dX1_burstOf_5 rfl (by decide) ?_
  refine bs_W.mk [(0, .ref f), (1, .int (nI b)), (2, .int (nI air)), (3, .int (nI st)), (4, .int (nI 0 - nI st)), (5, .int (nI 0))] ?_ (f_burst_l hS hV hG hb ha hs (g_nu G) 0 0 (by omega) (by omega))
  intro q hq
  simp only [List.mem_cons, List.not_mem_nil, or_false] at hq
  rcases hq with rfl | rfl | rfl | rfl | rfl | rfl <;> rfl
theorem f_hasBalloonY {f nx p : Nat} {sh : bs_Sh} {mu : bs_Mm} {G : bs_G} (hS : cFs f sh mu) (hV : cFv f G mu) (hG : g_ok G) (hp : p < g_nb G) : bs_C mX1_hasBalloon (bs_rm 0 0 0) [.ref f, .int (nI p)] nx sh mu (bs_no nx sh mu (.int (nI 1))) := by
  have k := f_hasBalloon (nx := nx) hS hV hG (nI p)
  rwa [g_hs_y hp (by have := hG.1; omega)] at k
theorem f_hasBalloonN {f nx : Nat} {sh : bs_Sh} {mu : bs_Mm} {G : bs_G} (hS : cFs f sh mu) (hV : cFv f G mu) (hG : g_ok G) {a : Int32} (h : a < 0 ∨ nI (g_nb G) ≤ a) : bs_C mX1_hasBalloon (bs_rm 0 0 0) [.ref f, .int a] nx sh mu (bs_no nx sh mu (.int (nI 0))) := by
  have k := f_hasBalloon (nx := nx) hS hV hG a
  rwa [g_hs_n h] at k
set_option maxHeartbeats 4000000 in
theorem c_burstsN {x nx fc : Nat} {FG : Nat → bs_G} {sh : bs_Sh} {mu : bs_Mm} (H : bs_St (bs_tS x) x sh mu) (hF : cFG x fc FG mu) {a : Int32} (ha : a < 0 ∨ nI fc ≤ a) (b : Int32) : bs_C mX11_bursts (bs_rm 10 0 0) [.ref x, .int a, .int b] nx sh mu (bs_no nx sh mu (.int (-1))) := by
  refine bs_ct (by decide +kernel) (Nat.le_of_ble_eq_true rfl) ?_
  refine bs_aload_n dX11_bursts_0 rfl ?_
  refine bs_iload_n dX11_bursts_1 rfl ?_
  refine bs_callVn dX11_bursts_2 qX11_143 (c_figN H hF ha) rfl (H.s 0 rfl rfl rfl) rfl (Nat.le_of_ble_eq_true rfl) ⟨⟨by decide, by decide⟩, by decide, by decide⟩ ?_
  refine bs_astoreN_n dX11_bursts_5 rfl (by decide) ?_
  refine bs_aloadN_n dX11_bursts_6 rfl ?_
  refine bs_ifnullN (tgt := 18) dX11_bursts_7 (by decide) ?_
  refine bs_iconst (v := (-1)) dX11_bursts_18 (by decide) ?_
  exact bs_iret dX11_bursts_19 rfl (by decide) (by decide) ⟨rfl, rfl, rfl, rfl⟩
set_option maxHeartbeats 4000000 in
theorem c_burstsB {x nx fc : Nat} {FG : Nat → bs_G} {sh : bs_Sh} {mu : bs_Mm} (H : bs_St (bs_tS x) x sh mu) (hF : cFG x fc FG mu) {j : Nat} (hj : j < fc) {b : Int32} (hb : b < 0 ∨ nI (g_nb (FG j)) ≤ b) : bs_C mX11_bursts (bs_rm 10 0 0) [.ref x, .int (nI j), .int b] nx sh mu (bs_no nx sh mu (.int (-1))) := by
  have q1 := hF.1
  have hS := c_fS H j (by omega)
  have hV := (hF.2.2 j hj).2
  have hG := (hF.2.2 j hj).1
  have q0 := g_bn hG
  refine bs_ct (by decide +kernel) (Nat.le_of_ble_eq_true rfl) ?_
  refine bs_aload_n dX11_bursts_0 rfl ?_
  refine bs_iload_n dX11_bursts_1 rfl ?_
  refine bs_callVn dX11_bursts_2 qX11_143 (c_figY H hF hj) rfl (H.s 0 rfl rfl rfl) rfl (Nat.le_of_ble_eq_true rfl) ⟨⟨by decide, by decide⟩, by decide, by decide⟩ ?_
  refine bs_astore_n dX11_bursts_5 rfl (by decide) ?_
  refine bs_aload_n dX11_bursts_6 rfl ?_
  refine bs_ifnull dX11_bursts_7 ?_
  refine bs_aload_n dX11_bursts_10 rfl ?_
  refine bs_iload_n dX11_bursts_11 rfl ?_
  refine bs_callVn dX11_bursts_12 qX11_204 (f_hasBalloonN hS hV hG hb) rfl (hS.1) rfl (Nat.le_of_ble_eq_true rfl) ⟨⟨by decide, by decide⟩, by decide, by decide⟩ ?_
  refine bs_if_neN (tgt := 20) dX11_bursts_15 (by decide) (by omega) (fun c15 => ?_) (fun c15 => ?_)
  · exact absurd rfl c15
  · refine bs_iconst (v := (-1)) dX11_bursts_18 (by decide) ?_
    exact bs_iret dX11_bursts_19 rfl (by decide) (by decide) ⟨rfl, rfl, rfl, rfl⟩
set_option maxHeartbeats 4000000 in
theorem c_burstsY {x nx fc : Nat} {FG : Nat → bs_G} {sh : bs_Sh} {mu : bs_Mm} (H : bs_St (bs_tS x) x sh mu) (hF : cFG x fc FG mu) {j : Nat} (hj : j < fc) {S : bs_So} (hO : cSo x S mu) (hk : so_ok S) (hq : ∀ b, b < g_nb (FG j) → g_so (FG j) b < S.1) {b : Nat} (hb : b < g_nb (FG j)) : bs_C mX11_bursts (bs_rm 10 0 0) [.ref x, .int (nI j), .int (nI b)] nx sh mu (bs_no nx sh mu (.int (g_br (FG j) b (S.2.1 (g_so (FG j) b)) (S.2.2.1 (g_so (FG j) b)) (g_nu (FG j)) 0 0))) := by
  have q1 := hF.1
  have hS := c_fS H j (by omega)
  have hV := (hF.2.2 j hj).2
  have hG := (hF.2.2 j hj).1
  have q0 := g_bn hG
  have q3 := hk.1
  have q4 := hq b hb
  have q5 := hk.2 _ q4
  refine bs_ct (by decide +kernel) (Nat.le_of_ble_eq_true rfl) ?_
  refine bs_aload_n dX11_bursts_0 rfl ?_
  refine bs_iload_n dX11_bursts_1 rfl ?_
  refine bs_callVn dX11_bursts_2 qX11_143 (c_figY H hF hj) rfl (H.s 0 rfl rfl rfl) rfl (Nat.le_of_ble_eq_true rfl) ⟨⟨by decide, by decide⟩, by decide, by decide⟩ ?_
  refine bs_astore_n dX11_bursts_5 rfl (by decide) ?_
  refine bs_aload_n dX11_bursts_6 rfl ?_
  refine bs_ifnull dX11_bursts_7 ?_
  refine bs_aload_n dX11_bursts_10 rfl ?_
  refine bs_iload_n dX11_bursts_11 rfl ?_
  refine bs_callVn dX11_bursts_12 qX11_204 (f_hasBalloonY hS hV hG hb) rfl (hS.1) rfl (Nat.le_of_ble_eq_true rfl) ⟨⟨by decide, by decide⟩, by decide, by decide⟩ ?_
  refine bs_if_neN (tgt := 20) dX11_bursts_15 (by decide) (by omega) (fun c15 => ?_) (fun c15 => ?_)
  · refine bs_aload_n dX11_bursts_20 rfl ?_
    refine bs_getR (b := (x + 63 + 7 * j + 1)) dX11_bursts_21 fX11_193 (hS.1) (hS.2.1 0 (by decide)) ?_
    refine bs_iload_n dX11_bursts_24 rfl ?_
    refine bs_ialdN (n := 6) (v := (g_so (FG j) b)) dX11_bursts_25 (hS.2.2 0 (by decide)) (by have q0 := hb; omega) (by decide) (hV.2.2.2.2.1 b (by have q0 := hb; omega)) ?_
    refine bs_istore dX11_bursts_26 rfl (by decide) ?_
    refine bs_aload_n dX11_bursts_28 rfl ?_
    refine bs_iload_n dX11_bursts_29 rfl ?_
    refine bs_aload_n dX11_bursts_30 rfl ?_
    refine bs_getR (b := (x + 1)) dX11_bursts_31 fX11_12 (H.s 0 rfl rfl rfl) (H.r 0 0 rfl rfl rfl) ?_
    refine bs_getR (b := (x + 2)) dX11_bursts_34 fX11_207 (H.s 1 rfl rfl rfl) (H.r 1 0 rfl rfl rfl) ?_
    refine bs_iload dX11_bursts_37 rfl ?_
    refine bs_ialdN (n := 6) (v := (S.2.1 (g_so (FG j) b))) dX11_bursts_39 (H.ss 2 rfl rfl) (by have q0 := hq b (by omega); omega) (by decide) (hO.2.1 (g_so (FG j) b) (hq b hb)) ?_
    refine bs_aload_n dX11_bursts_40 rfl ?_
    refine bs_getR (b := (x + 1)) dX11_bursts_41 fX11_12 (H.s 0 rfl rfl rfl) (H.r 0 0 rfl rfl rfl) ?_
    refine bs_getR (b := (x + 3)) dX11_bursts_44 fX11_210 (H.s 1 rfl rfl rfl) (H.r 1 1 rfl rfl rfl) ?_
    refine bs_iload dX11_bursts_47 rfl ?_
    refine bs_ialdN (n := 6) (v := (S.2.2.1 (g_so (FG j) b))) dX11_bursts_49 (H.ss 3 rfl rfl) (by have q0 := hq b (by omega); omega) (by decide) (hO.2.2.1 (g_so (FG j) b) (hq b hb)) ?_
    refine bs_callVn dX11_bursts_50 qX11_213 (f_burstOf hS hV hG (by omega) (by omega) (by omega)) rfl (hS.1) rfl (Nat.le_of_ble_eq_true rfl) ⟨⟨by decide, by decide⟩, by decide, by decide⟩ ?_
    exact bs_iret dX11_bursts_53 rfl (by decide) (by decide) ⟨rfl, rfl, rfl, rfl⟩
  · omega
set_option maxHeartbeats 4000000 in
theorem n_burstsN {m nx fc : Nat} {FG : Nat → bs_G} {sh : bs_Sh} {mu : bs_Mm} (H : bs_St (bs_tM m) m sh mu) (hF : mFG m fc FG mu) {a : Int32} (ha : a < 0 ∨ nI fc ≤ a) (b : Int32) : bs_C mX12_bursts (bs_rm 10 0 0) [.ref m, .int a, .int b] nx sh mu (bs_no nx sh mu (.int (-1))) := by
  refine bs_ct (by decide +kernel) (Nat.le_of_ble_eq_true rfl) ?_
  refine bs_aload_n dX12_bursts_0 rfl ?_
  refine bs_iload_n dX12_bursts_1 rfl ?_
  refine bs_iload_n dX12_bursts_2 rfl ?_
  refine bs_callVn dX12_bursts_3 qX12_310 (n_isBalloonN H hF ha b) rfl (H.s 0 rfl rfl rfl) rfl (Nat.le_of_ble_eq_true rfl) ⟨⟨by decide, by decide⟩, by decide, by decide⟩ ?_
  refine bs_if_neN (tgt := 11) dX12_bursts_6 (by decide) (by omega) (fun c6 => ?_) (fun c6 => ?_)
  · exact absurd rfl c6
  · refine bs_iconst (v := (-1)) dX12_bursts_9 (by decide) ?_
    exact bs_iret dX12_bursts_10 rfl (by decide) (by decide) ⟨rfl, rfl, rfl, rfl⟩
set_option maxHeartbeats 4000000 in
theorem n_burstsB {m nx fc : Nat} {FG : Nat → bs_G} {sh : bs_Sh} {mu : bs_Mm} (H : bs_St (bs_tM m) m sh mu) (hF : mFG m fc FG mu) {g : Nat} (hg : g < fc) {b : Int32} (hb : b < 0 ∨ nI (g_nb (FG g)) ≤ b) : bs_C mX12_bursts (bs_rm 10 0 0) [.ref m, .int (nI g), .int b] nx sh mu (bs_no nx sh mu (.int (-1))) := by
  have q1 := hF.1
  have hV := (hF.2.2 g hg).2
  have hG := (hF.2.2 g hg).1
  have q0 := g_bn hG
  refine bs_ct (by decide +kernel) (Nat.le_of_ble_eq_true rfl) ?_
  refine bs_aload_n dX12_bursts_0 rfl ?_
  refine bs_iload_n dX12_bursts_1 rfl ?_
  refine bs_iload_n dX12_bursts_2 rfl ?_
  refine bs_callVn dX12_bursts_3 qX12_310 (n_isBalloonB H hF hg hb) rfl (H.s 0 rfl rfl rfl) rfl (Nat.le_of_ble_eq_true rfl) ⟨⟨by decide, by decide⟩, by decide, by decide⟩ ?_
  refine bs_if_neN (tgt := 11) dX12_bursts_6 (by decide) (by omega) (fun c6 => ?_) (fun c6 => ?_)
  · exact absurd rfl c6
  · refine bs_iconst (v := (-1)) dX12_bursts_9 (by decide) ?_
    exact bs_iret dX12_bursts_10 rfl (by decide) (by decide) ⟨rfl, rfl, rfl, rfl⟩
set_option maxHeartbeats 4000000 in
theorem n_burst_l {m nx fc : Nat} {FG : Nat → bs_G} {sh : bs_Sh} {mu : bs_Mm} (H : bs_St (bs_tM m) m sh mu) (hF : mFG m fc FG mu) {g : Nat} (hg : g < fc) {S : bs_So} (hO : mSo m S mu) (hk : so_ok S) {b s : Nat} (hb : b < 6) (hs : s < S.1) : ∀ (r i t : Nat), i + r = g_nu (FG g) → t ≤ 800 * i → bs_W (bs_no nx sh mu (.int (g_br (FG g) b (S.2.1 s) (S.2.2.1 s) r i t))) mX12_bursts (bs_rm 10 0 0) 35 (bs_mk [(0, .ref m), (1, .int (nI g)), (2, .int (nI b)), (3, .int (nI s)), (4, .int (nI t - nI (S.2.2.1 s))), (5, .int (nI i))]) [] 0 0 nx sh mu := by
  have q1 := hF.1
  have hV := (hF.2.2 g hg).2
  have hG := (hF.2.2 g hg).1
  have q0 := g_bn hG
  have q3 := hk.1
  have q5 := hk.2 _ hs
  intro r
  induction r with
  | zero =>
    intro i t hi hq
    refine bs_iload dX12_bursts_35 rfl ?_
    refine bs_aload_n dX12_bursts_37 rfl ?_
    refine bs_getR (b := (m + 8)) dX12_bursts_38 fX12_31 (H.s 0 rfl rfl rfl) (H.r 0 13 rfl rfl rfl) ?_
    refine bs_iload_n dX12_bursts_41 rfl ?_
    refine bs_ialdN (n := 13) (v := (g_nu (FG g))) dX12_bursts_42 (H.ss 8 rfl rfl) (by have q0 := hg; omega) (by decide) (hV.2.1) ?_
    refine bs_icmp_geN (tgt := 106) dX12_bursts_43 (by decide) (by omega) (by have q0 := g_bn hG; omega) (fun c43 => ?_) (fun c43 => ?_)
    · refine bs_iconst (v := (-1)) dX12_bursts_106 (by decide) ?_
      exact bs_iret dX12_bursts_107 rfl (by decide) (by decide) ⟨rfl, rfl, rfl, rfl⟩
    · omega
  | succ r ih =>
    intro i t hi hq
    refine bs_iload dX12_bursts_35 rfl ?_
    refine bs_aload_n dX12_bursts_37 rfl ?_
    refine bs_getR (b := (m + 8)) dX12_bursts_38 fX12_31 (H.s 0 rfl rfl rfl) (H.r 0 13 rfl rfl rfl) ?_
    refine bs_iload_n dX12_bursts_41 rfl ?_
    refine bs_ialdN (n := 13) (v := (g_nu (FG g))) dX12_bursts_42 (H.ss 8 rfl rfl) (by have q0 := hg; omega) (by decide) (hV.2.1) ?_
    refine bs_icmp_geN (tgt := 106) dX12_bursts_43 (by decide) (by omega) (by have q0 := g_bn hG; omega) (fun c43 => ?_) (fun c43 => ?_)
    · omega
    · have q2 := g_bd hG (i := i) (by omega)
      refine bs_aload_n dX12_bursts_46 rfl ?_
      refine bs_getR (b := (m + 13)) dX12_bursts_47 fX12_46 (H.s 0 rfl rfl rfl) (H.r 0 18 rfl rfl rfl) ?_
      refine bs_bipush (v := nI 24) dX12_bursts_50 (by decide) ?_
      refine bs_iload_n dX12_bursts_52 rfl ?_
      refine bs_imulN dX12_bursts_53 ?_
      refine bs_iload dX12_bursts_54 rfl ?_
      refine bs_iaddN dX12_bursts_56 ?_
      refine bs_ialdN (n := 312) (v := (g_bo (FG g) i)) dX12_bursts_57 (H.ss 13 rfl rfl) (by have q0 := hg; omega) (by decide) (hV.2.2.2.2.2.2.2.2 i (by omega)) ?_
      refine bs_iload_n dX12_bursts_58 rfl ?_
      refine bs_icmp_neN (tgt := 100) dX12_bursts_59 (by decide) (by have q0 := g_bd hG (i := i) (by omega); omega) (by have q0 := hb; omega) (fun c59 => ?_) (fun c59 => ?_)
      · refine bs_iincN (n := 1) dX12_bursts_100 rfl rfl ?_
        refine bs_goto (tgt := 35) dX12_bursts_103 (by decide) ?_
        refine bs_W.mk [(0, .ref m), (1, .int (nI g)), (2, .int (nI b)), (3, .int (nI s)), (4, .int (nI t - nI (S.2.2.1 s))), (5, .int (nI (i + 1)))] ?_ ?_
        · intro q hq
          simp only [List.mem_cons, List.not_mem_nil, or_false] at hq
          rcases hq with rfl | rfl | rfl | rfl | rfl | rfl <;> rfl
        · rw [g_br_o c59]
          exact ih (i + 1) (t) (by omega) (by omega)
      · refine bs_iload dX12_bursts_62 rfl ?_
        refine bs_aload_n dX12_bursts_64 rfl ?_
        refine bs_getR (b := (m + 2)) dX12_bursts_65 fX12_13 (H.s 0 rfl rfl rfl) (H.r 0 2 rfl rfl rfl) ?_
        refine bs_iload_n dX12_bursts_68 rfl ?_
        refine bs_ialdN (n := 6) (v := (S.2.2.1 s)) dX12_bursts_69 (H.ss 2 rfl rfl) (by have q0 := hs; have q1 := hk.1; omega) (by decide) (hO.2.2.1 s hs) ?_
        refine bs_aload_n dX12_bursts_70 rfl ?_
        refine bs_getR (b := (m + 10)) dX12_bursts_71 fX12_37 (H.s 0 rfl rfl rfl) (H.r 0 15 rfl rfl rfl) ?_
        refine bs_bipush (v := nI 24) dX12_bursts_74 (by decide) ?_
        refine bs_iload_n dX12_bursts_76 rfl ?_
        refine bs_imulN dX12_bursts_77 ?_
        refine bs_iload dX12_bursts_78 rfl ?_
        refine bs_iaddN dX12_bursts_80 ?_
        refine bs_ialdN (n := 312) (v := (g_le (FG g) i)) dX12_bursts_81 (H.ss 10 rfl rfl) (by have q0 := hg; omega) (by decide) (hV.2.2.2.2.2.1 i (by omega)) ?_
        refine bs_iaddN dX12_bursts_82 ?_
        refine bs_iadd dX12_bursts_83 ?_
        refine bs_topq (x' := nI (t + ((S.2.2.1 s) + g_le (FG g) i)) - nI (S.2.2.1 s)) (bs_subadd t (S.2.2.1 s) ((S.2.2.1 s) + g_le (FG g) i)) ?_
        refine bs_istore dX12_bursts_84 rfl (by decide) ?_
        refine bs_iload dX12_bursts_86 rfl ?_
        refine bs_aload_n dX12_bursts_88 rfl ?_
        refine bs_getR (b := (m + 1)) dX12_bursts_89 fX12_9 (H.s 0 rfl rfl rfl) (H.r 0 1 rfl rfl rfl) ?_
        refine bs_iload_n dX12_bursts_92 rfl ?_
        refine bs_ialdN (n := 6) (v := (S.2.1 s)) dX12_bursts_93 (H.ss 1 rfl rfl) (by have q0 := hs; have q1 := hk.1; omega) (by decide) (hO.2.1 s hs) ?_
        refine bs_icmp_le (tgt := 100) dX12_bursts_94 (by decide) (fun c94 => ?_) (fun c94 => ?_)
        · refine bs_iincN (n := 1) dX12_bursts_100 rfl rfl ?_
          refine bs_goto (tgt := 35) dX12_bursts_103 (by decide) ?_
          refine bs_W.mk [(0, .ref m), (1, .int (nI g)), (2, .int (nI b)), (3, .int (nI s)), (4, .int (nI (t + ((S.2.2.1 s) + g_le (FG g) i)) - nI (S.2.2.1 s))), (5, .int (nI (i + 1)))] ?_ ?_
          · intro q hq
            simp only [List.mem_cons, List.not_mem_nil, or_false] at hq
            rcases hq with rfl | rfl | rfl | rfl | rfl | rfl <;> rfl
          · rw [g_br_m c59 ((bs_sub_le (by omega) (by omega) (by omega)).mp c94)]
            exact ih (i + 1) ((t + ((S.2.2.1 s) + g_le (FG g) i))) (by omega) (by omega)
        · refine bs_iload dX12_bursts_97 rfl ?_
          exact bs_iret dX12_bursts_99 rfl (by decide) (by decide) ⟨by rw [g_br_y c59 (fun z => c94 ((bs_sub_le (by omega) (by omega) (by omega)).mpr z))], rfl, rfl, rfl⟩
set_option maxHeartbeats 4000000 in
theorem n_burstsY {m nx fc : Nat} {FG : Nat → bs_G} {sh : bs_Sh} {mu : bs_Mm} (H : bs_St (bs_tM m) m sh mu) (hF : mFG m fc FG mu) {g : Nat} (hg : g < fc) {S : bs_So} (hO : mSo m S mu) (hk : so_ok S) (hq : ∀ b, b < g_nb (FG g) → g_so (FG g) b < S.1) {b : Nat} (hb : b < g_nb (FG g)) : bs_C mX12_bursts (bs_rm 10 0 0) [.ref m, .int (nI g), .int (nI b)] nx sh mu (bs_no nx sh mu (.int (g_br (FG g) b (S.2.1 (g_so (FG g) b)) (S.2.2.1 (g_so (FG g) b)) (g_nu (FG g)) 0 0))) := by
  have q1 := hF.1
  have hV := (hF.2.2 g hg).2
  have hG := (hF.2.2 g hg).1
  have q0 := g_bn hG
  have q3 := hk.1
  have q4 := hq b hb
  have q5 := hk.2 _ q4
  refine bs_ct (by decide +kernel) (Nat.le_of_ble_eq_true rfl) ?_
  refine bs_aload_n dX12_bursts_0 rfl ?_
  refine bs_iload_n dX12_bursts_1 rfl ?_
  refine bs_iload_n dX12_bursts_2 rfl ?_
  refine bs_callVn dX12_bursts_3 qX12_310 (n_isBalloonY H hF hg hb) rfl (H.s 0 rfl rfl rfl) rfl (Nat.le_of_ble_eq_true rfl) ⟨⟨by decide, by decide⟩, by decide, by decide⟩ ?_
  refine bs_if_neN (tgt := 11) dX12_bursts_6 (by decide) (by omega) (fun c6 => ?_) (fun c6 => ?_)
  · refine bs_aload_n dX12_bursts_11 rfl ?_
    refine bs_getR (b := (m + 7)) dX12_bursts_12 fX12_28 (H.s 0 rfl rfl rfl) (H.r 0 12 rfl rfl rfl) ?_
    refine bs_bipush (v := nI 6) dX12_bursts_15 (by decide) ?_
    refine bs_iload_n dX12_bursts_17 rfl ?_
    refine bs_imulN dX12_bursts_18 ?_
    refine bs_iload_n dX12_bursts_19 rfl ?_
    refine bs_iaddN dX12_bursts_20 ?_
    refine bs_ialdN (n := 78) (v := (g_so (FG g) b)) dX12_bursts_21 (H.ss 7 rfl rfl) (by have q0 := hg; have q1 := hb; omega) (by decide) (hV.2.2.2.2.1 b (by omega)) ?_
    refine bs_istore_n dX12_bursts_22 rfl (by decide) ?_
    refine bs_aload_n dX12_bursts_23 rfl ?_
    refine bs_getR (b := (m + 2)) dX12_bursts_24 fX12_13 (H.s 0 rfl rfl rfl) (H.r 0 2 rfl rfl rfl) ?_
    refine bs_iload_n dX12_bursts_27 rfl ?_
    refine bs_ialdN (n := 6) (v := (S.2.2.1 (g_so (FG g) b))) dX12_bursts_28 (H.ss 2 rfl rfl) (by have q0 := hq b hb; omega) (by decide) (hO.2.2.1 (g_so (FG g) b) (hq b hb)) ?_
    refine bs_ineg dX12_bursts_29 ?_
    refine bs_topq (x' := nI 0 - nI (S.2.2.1 (g_so (FG g) b))) (bs_subneg (S.2.2.1 (g_so (FG g) b))) ?_
    refine bs_istore dX12_bursts_30 rfl (by decide) ?_
    refine bs_iconst (v := nI 0) dX12_bursts_32 (by decide) ?_
    refine bs_istore dX12_bursts_33 rfl (by decide) ?_
    refine bs_W.mk [(0, .ref m), (1, .int (nI g)), (2, .int (nI b)), (3, .int (nI (g_so (FG g) b))), (4, .int (nI 0 - nI (S.2.2.1 (g_so (FG g) b)))), (5, .int (nI 0))] ?_ (n_burst_l H hF hg hO hk (by omega) (hq b hb) (g_nu (FG g)) 0 0 (by omega) (by omega))
    intro q hq
    simp only [List.mem_cons, List.not_mem_nil, or_false] at hq
    rcases hq with rfl | rfl | rfl | rfl | rfl | rfl <;> rfl
  · omega
