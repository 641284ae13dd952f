/-! REST (own): a balloon's need -/
def g_cb (G : bs_G) (b : Nat) : Nat → Nat := g_sm (fun i => g_if (g_bo G i = b))
def g_lb (G : bs_G) (b : Nat) : Nat → Nat := g_sm (fun i => if g_bo G i = b then g_le G i else 0)
def g_nd (G : bs_G) (b st : Nat) : Nat → Nat := g_sm (fun i => if g_bo G i = b then g_le G i + st * g_tw G i else 0)
theorem g_cb_mono {G : bs_G} (h : g_ok G) {b : Nat} : ∀ n, n < g_nu G → 0 < g_cb G b n → b ≤ g_bo G n := by
  intro n
  induction n with
  | zero => intro _ h0; exact absurd h0 (Nat.lt_irrefl 0)
  | succ n ih =>
    intro hn h0
    have hm := h.2.2.2.2.2.2.2 n hn
    by_cases e : g_bo G n = b
    · omega
    · have : g_cb G b (n + 1) = g_cb G b n := by simp only [g_cb, g_sm, g_if0 e, Nat.add_zero]
      rw [this] at h0
      have := ih (by omega) h0
      omega
/-- the twists of a balloon: one less than its bubbles -/
theorem g_tb {G : bs_G} (h : g_ok G) {b : Nat} : ∀ n, n ≤ g_nu G → g_sm (fun i => if g_bo G i = b then g_tw G i else 0) n + g_if (0 < g_cb G b n ∧ ¬ (n < g_nu G ∧ g_bo G n = b)) = g_cb G b n := by
  intro n
  induction n with
  | zero => intro _; simp [g_sm, g_cb, g_if]
  | succ n ih =>
    intro hn
    have hi := ih (by omega)
    have hm := g_cb_mono h (b := b) n (by omega)
    by_cases e : g_bo G n = b
    · have c1 : g_cb G b (n + 1) = g_cb G b n + 1 := by simp only [g_cb, g_sm, g_if1 e]
      have t1 : g_sm (fun i => if g_bo G i = b then g_tw G i else 0) (n + 1) = g_sm (fun i => if g_bo G i = b then g_tw G i else 0) n + g_tw G n := by simp only [g_sm, if_pos e]
      rw [g_if0 (fun z => z.2 ⟨by omega, e⟩)] at hi
      rw [t1, c1]
      by_cases z : n + 1 < g_nu G ∧ g_bo G (n + 1) = b
      · rw [g_if0 (fun y => y.2 z), show g_tw G n = 1 from g_if1 ⟨z.1, by omega⟩]
        omega
      · rw [g_if1 ⟨by omega, z⟩, show g_tw G n = 0 from g_if0 (fun y => z ⟨y.1, by omega⟩)]
        omega
    · have c1 : g_cb G b (n + 1) = g_cb G b n := by simp only [g_cb, g_sm, g_if0 e, Nat.add_zero]
      have t1 : g_sm (fun i => if g_bo G i = b then g_tw G i else 0) (n + 1) = g_sm (fun i => if g_bo G i = b then g_tw G i else 0) n := by simp only [g_sm, if_neg e, Nat.add_zero]
      rw [t1, c1]
      by_cases z : 0 < g_cb G b n
      · rw [g_if1 ⟨z, fun y => e y.2⟩] at hi
        have h1 := hm z
        rw [g_if1 ⟨z, fun y => by have := h.2.2.2.2.2.2.2 n y.1; omega⟩]
        exact hi
      · rw [g_if0 (fun y => z y.1)] at hi ⊢
        exact hi
theorem g_nd_eq {G : bs_G} (h : g_ok G) (b st : Nat) : g_nd G b st (g_nu G) = g_lb G b (g_nu G) + st * (g_cb G b (g_nu G) - 1) := by
  have h1 : ∀ n, g_nd G b st n = g_lb G b n + st * g_sm (fun i => if g_bo G i = b then g_tw G i else 0) n := by
    intro n
    induction n with
    | zero => simp [g_nd, g_lb, g_sm]
    | succ n ih =>
      have e1 : g_nd G b st (n + 1) = g_nd G b st n + (if g_bo G n = b then g_le G n + st * g_tw G n else 0) := rfl
      have e2 : g_lb G b (n + 1) = g_lb G b n + (if g_bo G n = b then g_le G n else 0) := rfl
      have e3 : g_sm (fun i => if g_bo G i = b then g_tw G i else 0) (n + 1) = g_sm (fun i => if g_bo G i = b then g_tw G i else 0) n + (if g_bo G n = b then g_tw G n else 0) := rfl
      rw [e1, e2, e3, ih, Nat.mul_add]
      by_cases e : g_bo G n = b
      · rw [if_pos e, if_pos e, if_pos e]; omega
      · rw [if_neg e, if_neg e, if_neg e]; omega
  have h2 := g_tb h (b := b) (g_nu G) (Nat.le_refl _)
  rw [h1]
  by_cases z : 0 < g_cb G b (g_nu G)
  · rw [g_if1 ⟨z, fun y => absurd y.1 (Nat.lt_irrefl _)⟩] at h2
    rw [show g_sm (fun i => if g_bo G i = b then g_tw G i else 0) (g_nu G) = g_cb G b (g_nu G) - 1 by omega]
  · rw [g_if0 (fun y => z y.1)] at h2
    rw [show g_sm (fun i => if g_bo G i = b then g_tw G i else 0) (g_nu G) = g_cb G b (g_nu G) - 1 by omega]
theorem g_nd_o {G : bs_G} {b st i : Nat} (h : g_bo G i ≠ b) : g_nd G b st (i + 1) = g_nd G b st i := by simp only [g_nd, g_sm, if_neg h, Nat.add_zero]
theorem g_nd_m {G : bs_G} {b st i : Nat} (h : g_bo G i = b) : g_nd G b st (i + 1) = g_nd G b st i + (g_le G i + st * g_tw G i) := by simp only [g_nd, g_sm, if_pos h]
theorem bs_max0 {a n : Nat} (ha : a < 2 ^ 30) (hn : n < 2 ^ 30) : (if nI 0 < nI a - nI n then nI a - nI n else nI 0) = nI (a - n) := by
  by_cases z : n < a
  · have e : nI a - nI n = nI (a - n) := pk_sub (by omega)
    rw [if_pos (by rw [e]; exact nI_lt (by omega) (by omega)), e]
  · rw [if_neg, show a - n = 0 by omega]
    rw [Int32.lt_iff_toInt_lt, pk_sub_toInt ha hn, nI_0, Int32.toInt_zero]
    omega
set_option maxHeartbeats 4000000 in
theorem f_need_l {f nx : Nat} {sh : bs_Sh} {mu : bs_Mm} {G : bs_G} (hS : cFs f sh mu) (hV : cFv f G mu) (hG : g_ok G) {b st : Nat} (hb : b < 2 ^ 30) (hs : st ≤ 9) : ∀ (r i : Nat), i + r = g_nu G → bs_W (bs_no nx sh mu (.int (nI (g_nd G b st (g_nu G))))) mX1_needOf (bs_rm 1 0 0) 5 (bs_mk [(0, .ref f), (1, .int (nI b)), (2, .int (nI st)), (3, .int (nI (g_nd G b st i))), (4, .int (nI i))]) [] 0 0 nx sh mu := by
  have q0 := g_bn hG
  intro r
  induction r with
  | zero =>
    intro i hi
    refine bs_iload dX1_needOf_5 rfl ?_
    refine bs_aload_n dX1_needOf_7 rfl ?_
    refine bs_getN (v := (g_nu G)) dX1_needOf_8 fX1_40 (hS.1) (hV.2.1) ?_
    refine bs_icmp_geN (tgt := 56) dX1_needOf_11 (by decide) (by omega) (by have q0 := g_bn hG; omega) (fun c11 => ?_) (fun c11 => ?_)
    · refine bs_iload_n dX1_needOf_56 rfl ?_
      exact bs_iret dX1_needOf_57 rfl (by decide) (by decide) ⟨by rw [show i = g_nu G by omega], rfl, rfl, rfl⟩
    · omega
  | succ r ih =>
    intro i hi
    refine bs_iload dX1_needOf_5 rfl ?_
    refine bs_aload_n dX1_needOf_7 rfl ?_
    refine bs_getN (v := (g_nu G)) dX1_needOf_8 fX1_40 (hS.1) (hV.2.1) ?_
    refine bs_icmp_geN (tgt := 56) dX1_needOf_11 (by decide) (by omega) (by have q0 := g_bn hG; omega) (fun c11 => ?_) (fun c11 => ?_)
    · omega
    · refine bs_aload_n dX1_needOf_14 rfl ?_
      refine bs_getR (b := (f + 5)) dX1_needOf_15 fX1_24 (hS.1) (hS.2.1 4 (by decide)) ?_
      refine bs_iload dX1_needOf_18 rfl ?_
      refine bs_ialdN (n := 24) (v := (g_bo G i)) dX1_needOf_20 (hS.2.2 4 (by decide)) (by omega) (by decide) (hV.2.2.2.2.2.2.2.2.1 i (by omega)) ?_
      refine bs_iload_n dX1_needOf_21 rfl ?_
      refine bs_icmp_neN (tgt := 50) dX1_needOf_22 (by decide) (by have q0 := g_bd hG (i := i) (by omega); omega) (by have q0 := hb; omega) (fun c22 => ?_) (fun c22 => ?_)
      · refine bs_iincN (n := 1) dX1_needOf_50 rfl rfl ?_
        refine bs_goto (tgt := 5) dX1_needOf_53 (by decide) ?_
        refine bs_W.mk [(0, .ref f), (1, .int (nI b)), (2, .int (nI st)), (3, .int (nI (g_nd G b st (i + 1)))), (4, .int (nI (i + 1)))] ?_ (ih (i + 1) (by omega))
        intro q hq
        simp only [List.mem_cons, List.not_mem_nil, or_false] at hq
        rcases hq with rfl | rfl | rfl | rfl | rfl
        · rfl
        · rfl
        · rfl
        · show some (Value.int (nI (g_nd G b st i))) = some (Value.int (nI (g_nd G b st (i + 1))))
          rw [g_nd_o c22]
        · rfl
      · refine bs_iload_n dX1_needOf_25 rfl ?_
        refine bs_aload_n dX1_needOf_26 rfl ?_
        refine bs_getR (b := (f + 2)) dX1_needOf_27 fX1_15 (hS.1) (hS.2.1 1 (by decide)) ?_
        refine bs_iload dX1_needOf_30 rfl ?_
        refine bs_ialdN (n := 24) (v := (g_le G i)) dX1_needOf_32 (hS.2.2 1 (by decide)) (by omega) (by decide) (hV.2.2.2.2.2.1 i (by omega)) ?_
        refine bs_aload_n dX1_needOf_33 rfl ?_
        refine bs_iload dX1_needOf_34 rfl ?_
        refine bs_callVn dX1_needOf_36 qX1_65 (f_twistBehind hS hV hG i (by omega)) rfl (hS.1) rfl (Nat.le_of_ble_eq_true rfl) ⟨⟨by decide, by decide⟩, by decide, by decide⟩ ?_
        refine bs_if_eqN (tgt := 46) dX1_needOf_39 (by decide) (by have q0 := g_tw_le G i; omega) (fun c39 => ?_) (fun c39 => ?_)
        · refine bs_iconst (v := nI 0) dX1_needOf_46 (by decide) ?_
          refine bs_iaddN dX1_needOf_47 ?_
          refine bs_iaddN dX1_needOf_48 ?_
          refine bs_istore_n dX1_needOf_49 rfl (by decide) ?_
          refine bs_iincN (n := 1) dX1_needOf_50 rfl rfl ?_
          refine bs_goto (tgt := 5) dX1_needOf_53 (by decide) ?_
          refine bs_W.mk [(0, .ref f), (1, .int (nI b)), (2, .int (nI st)), (3, .int (nI (g_nd G b st (i + 1)))), (4, .int (nI (i + 1)))] ?_ (ih (i + 1) (by omega))
          intro q hq
          simp only [List.mem_cons, List.not_mem_nil, or_false] at hq
          rcases hq with rfl | rfl | rfl | rfl | rfl
          · rfl
          · rfl
          · rfl
          · show some (Value.int (nI ((g_nd G b st i) + ((g_le G i) + 0)))) = some (Value.int (nI (g_nd G b st (i + 1))))
            rw [g_nd_m c22, c39, Nat.mul_zero]
          · rfl
        · refine bs_iload_n dX1_needOf_42 rfl ?_
          refine bs_goto (tgt := 47) dX1_needOf_43 (by decide) ?_
          refine bs_iaddN dX1_needOf_47 ?_
          refine bs_iaddN dX1_needOf_48 ?_
          refine bs_istore_n dX1_needOf_49 rfl (by decide) ?_
          refine bs_iincN (n := 1) dX1_needOf_50 rfl rfl ?_
          refine bs_goto (tgt := 5) dX1_needOf_53 (by decide) ?_
          refine bs_W.mk [(0, .ref f), (1, .int (nI b)), (2, .int (nI st)), (3, .int (nI (g_nd G b st (i + 1)))), (4, .int (nI (i + 1)))] ?_ (ih (i + 1) (by omega))
          intro q hq
          simp only [List.mem_cons, List.not_mem_nil, or_false] at hq
          rcases hq with rfl | rfl | rfl | rfl | rfl
          · rfl
          · rfl
          · rfl
          · show some (Value.int (nI ((g_nd G b st i) + ((g_le G i) + st)))) = some (Value.int (nI (g_nd G b st (i + 1))))
            rw [g_nd_m c22, (g_tw_in c39).1, Nat.mul_one]
          · rfl
set_option maxHeartbeats 4000000 in
theorem f_needOf {f nx : Nat} {sh : bs_Sh} {mu : bs_Mm} {G : bs_G} (hS : cFs f sh mu) (hV : cFv f G mu) (hG : g_ok G) {b st : Nat} (hb : b < 2 ^ 30) (hs : st ≤ 9) : bs_C mX1_needOf (bs_rm 1 0 0) [.ref f, .int (nI b), .int (nI st)] nx sh mu (bs_no nx sh mu (.int (nI (g_nd G b st (g_nu G))))) := by
  refine bs_ct (by decide +kernel) (Nat.le_of_ble_eq_true rfl) ?_
  refine bs_iconst (v := nI 0) dX1_needOf_0 (by decide) ?_
  refine bs_istore_n dX1_needOf_1 rfl (by decide) ?_
  refine bs_iconst (v := nI 0) dX1_needOf_2 (by decide) ?_
  refine bs_istore dX1_needOf_3 rfl (by decide) ?_
  refine bs_W.mk [(0, .ref f), (1, .int (nI b)), (2, .int (nI st)), (3, .int (nI (g_nd G b st 0))), (4, .int (nI 0))] ?_ (f_need_l hS hV hG hb hs (g_nu G) 0 (by omega))
  intro q hq
  simp only [List.mem_cons, List.not_mem_nil, or_false] at hq
  rcases hq with rfl | rfl | rfl | rfl | rfl <;> rfl
theorem g_nd_lt {G : bs_G} (h : g_ok G) {b st : Nat} (hb : b < g_nb G) (hs : st ≤ 9) : g_nd G b st (g_nu G) ≤ 1000 := by
  have h1 : g_lb G b (g_nu G) ≤ 720 := h.2.2.2.2.2.1 b hb
  have h2 : g_cb G b (g_nu G) ≤ g_nu G := g_sm1 (fun k => g_if_le _) _
  have h3 := Nat.mul_le_mul hs (show g_cb G b (g_nu G) - 1 ≤ 24 by have := h.2.1; omega)
  rw [g_nd_eq h]
  omega
set_option maxHeartbeats 4000000 in
theorem c_restN {x nx fc : Nat} {FG : Nat → bs_G} {sh : bs_Sh} {mu : bs_Mm} (H : bs_St (bs_tS x) x sh mu) (hF : cFG x fc FG mu) {a : Int32} (ha : a < 0 ∨ nI fc ≤ a) (b : Int32) : bs_C mX11_rest (bs_rm 10 0 0) [.ref x, .int a, .int b] nx sh mu (bs_no nx sh mu (.int (-1))) := by
  refine bs_ct (by decide +kernel) (Nat.le_of_ble_eq_true rfl) ?_
  refine bs_aload_n dX11_rest_0 rfl ?_
  refine bs_iload_n dX11_rest_1 rfl ?_
  refine bs_callVn dX11_rest_2 qX11_143 (c_figN H hF ha) rfl (H.s 0 rfl rfl rfl) rfl (Nat.le_of_ble_eq_true rfl) ⟨⟨by decide, by decide⟩, by decide, by decide⟩ ?_
  refine bs_astoreN_n dX11_rest_5 rfl (by decide) ?_
  refine bs_aloadN_n dX11_rest_6 rfl ?_
  refine bs_ifnullN (tgt := 18) dX11_rest_7 (by decide) ?_
  refine bs_iconst (v := (-1)) dX11_rest_18 (by decide) ?_
  exact bs_iret dX11_rest_19 rfl (by decide) (by decide) ⟨rfl, rfl, rfl, rfl⟩
set_option maxHeartbeats 4000000 in
theorem c_restB {x nx fc : Nat} {FG : Nat → bs_G} {sh : bs_Sh} {mu : bs_Mm} (H : bs_St (bs_tS x) x sh mu) (hF : cFG x fc FG mu) {j : Nat} (hj : j < fc) {b : Int32} (hb : b < 0 ∨ nI (g_nb (FG j)) ≤ b) : bs_C mX11_rest (bs_rm 10 0 0) [.ref x, .int (nI j), .int b] nx sh mu (bs_no nx sh mu (.int (-1))) := by
  have q1 := hF.1
  have hS := c_fS H j (by omega)
  have hV := (hF.2.2 j hj).2
  have hG := (hF.2.2 j hj).1
  have q0 := g_bn hG
  refine bs_ct (by decide +kernel) (Nat.le_of_ble_eq_true rfl) ?_
  refine bs_aload_n dX11_rest_0 rfl ?_
  refine bs_iload_n dX11_rest_1 rfl ?_
  refine bs_callVn dX11_rest_2 qX11_143 (c_figY H hF hj) rfl (H.s 0 rfl rfl rfl) rfl (Nat.le_of_ble_eq_true rfl) ⟨⟨by decide, by decide⟩, by decide, by decide⟩ ?_
  refine bs_astore_n dX11_rest_5 rfl (by decide) ?_
  refine bs_aload_n dX11_rest_6 rfl ?_
  refine bs_ifnull dX11_rest_7 ?_
  refine bs_aload_n dX11_rest_10 rfl ?_
  refine bs_iload_n dX11_rest_11 rfl ?_
  refine bs_callVn dX11_rest_12 qX11_204 (f_hasBalloonN hS hV hG hb) rfl (hS.1) rfl (Nat.le_of_ble_eq_true rfl) ⟨⟨by decide, by decide⟩, by decide, by decide⟩ ?_
  refine bs_if_neN (tgt := 20) dX11_rest_15 (by decide) (by omega) (fun c15 => ?_) (fun c15 => ?_)
  · exact absurd rfl c15
  · refine bs_iconst (v := (-1)) dX11_rest_18 (by decide) ?_
    exact bs_iret dX11_rest_19 rfl (by decide) (by decide) ⟨rfl, rfl, rfl, rfl⟩
set_option maxHeartbeats 4000000 in
theorem c_restY {x nx fc : Nat} {FG : Nat → bs_G} {sh : bs_Sh} {mu : bs_Mm} (H : bs_St (bs_tS x) x sh mu) (hF : cFG x fc FG mu) {j : Nat} (hj : j < fc) {S : bs_So} (hO : cSo x S mu) (hk : so_ok S) (hq : ∀ b, b < g_nb (FG j) → g_so (FG j) b < S.1) {b : Nat} (hb : b < g_nb (FG j)) : bs_C mX11_rest (bs_rm 10 0 0) [.ref x, .int (nI j), .int (nI b)] nx sh mu (bs_no nx sh mu (.int (nI (S.2.1 (g_so (FG j) b) - g_nd (FG j) b (S.2.2.1 (g_so (FG j) b)) (g_nu (FG j)))))) := by
  have q1 := hF.1
  have hS := c_fS H j (by omega)
  have hV := (hF.2.2 j hj).2
  have hG := (hF.2.2 j hj).1
  have q0 := g_bn hG
  have q3 := hk.1
  have q4 := hq b hb
  have q5 := hk.2 _ q4
  have q6 := g_nd_lt hG hb q5.2.2.1
  refine bs_ct (by decide +kernel) (Nat.le_of_ble_eq_true rfl) ?_
  refine bs_aload_n dX11_rest_0 rfl ?_
  refine bs_iload_n dX11_rest_1 rfl ?_
  refine bs_callVn dX11_rest_2 qX11_143 (c_figY H hF hj) rfl (H.s 0 rfl rfl rfl) rfl (Nat.le_of_ble_eq_true rfl) ⟨⟨by decide, by decide⟩, by decide, by decide⟩ ?_
  refine bs_astore_n dX11_rest_5 rfl (by decide) ?_
  refine bs_aload_n dX11_rest_6 rfl ?_
  refine bs_ifnull dX11_rest_7 ?_
  refine bs_aload_n dX11_rest_10 rfl ?_
  refine bs_iload_n dX11_rest_11 rfl ?_
  refine bs_callVn dX11_rest_12 qX11_204 (f_hasBalloonY hS hV hG hb) rfl (hS.1) rfl (Nat.le_of_ble_eq_true rfl) ⟨⟨by decide, by decide⟩, by decide, by decide⟩ ?_
  refine bs_if_neN (tgt := 20) dX11_rest_15 (by decide) (by omega) (fun c15 => ?_) (fun c15 => ?_)
  · refine bs_aload_n dX11_rest_20 rfl ?_
    refine bs_getR (b := (x + 63 + 7 * j + 1)) dX11_rest_21 fX11_193 (hS.1) (hS.2.1 0 (by decide)) ?_
    refine bs_iload_n dX11_rest_24 rfl ?_
    refine bs_ialdN (n := 6) (v := (g_so (FG j) b)) dX11_rest_25 (hS.2.2 0 (by decide)) (by have q0 := hb; omega) (by decide) (hV.2.2.2.2.1 b (by have q0 := hb; omega)) ?_
    refine bs_istore dX11_rest_26 rfl (by decide) ?_
    refine bs_iconst (v := nI 0) dX11_rest_28 (by decide) ?_
    refine bs_aload_n dX11_rest_29 rfl ?_
    refine bs_getR (b := (x + 1)) dX11_rest_30 fX11_12 (H.s 0 rfl rfl rfl) (H.r 0 0 rfl rfl rfl) ?_
    refine bs_getR (b := (x + 2)) dX11_rest_33 fX11_207 (H.s 1 rfl rfl rfl) (H.r 1 0 rfl rfl rfl) ?_
    refine bs_iload dX11_rest_36 rfl ?_
    refine bs_ialdN (n := 6) (v := (S.2.1 (g_so (FG j) b))) dX11_rest_38 (H.ss 2 rfl rfl) (by have q0 := hq b (by omega); omega) (by decide) (hO.2.1 (g_so (FG j) b) (hq b hb)) ?_
    refine bs_aload_n dX11_rest_39 rfl ?_
    refine bs_iload_n dX11_rest_40 rfl ?_
    refine bs_aload_n dX11_rest_41 rfl ?_
    refine bs_getR (b := (x + 1)) dX11_rest_42 fX11_12 (H.s 0 rfl rfl rfl) (H.r 0 0 rfl rfl rfl) ?_
    refine bs_getR (b := (x + 3)) dX11_rest_45 fX11_210 (H.s 1 rfl rfl rfl) (H.r 1 1 rfl rfl rfl) ?_
    refine bs_iload dX11_rest_48 rfl ?_
    refine bs_ialdN (n := 6) (v := (S.2.2.1 (g_so (FG j) b))) dX11_rest_50 (H.ss 3 rfl rfl) (by have q0 := hq b (by omega); omega) (by decide) (hO.2.2.1 (g_so (FG j) b) (hq b hb)) ?_
    refine bs_callVn dX11_rest_51 qX11_216 (f_needOf hS hV hG (by omega) (by omega)) rfl (hS.1) rfl (Nat.le_of_ble_eq_true rfl) ⟨⟨by decide, by decide⟩, by decide, by decide⟩ ?_
    refine bs_isub dX11_rest_54 ?_
    refine bs_mmax dX11_rest_55 xX11_220 (by decide) (Nat.le_of_ble_eq_true rfl) (by decide) (by decide) ?_
    refine bs_topq (x' := nI ((S.2.1 (g_so (FG j) b)) - (g_nd (FG j) b (S.2.2.1 (g_so (FG j) b)) (g_nu (FG j))))) (bs_max0 (by omega) (by omega)) ?_
    exact bs_iret dX11_rest_58 rfl (by decide) (by decide) ⟨rfl, rfl, rfl, rfl⟩
  · omega
theorem bs_subsub {a n k : Nat} (ha : a < 2 ^ 28) (hn : n < 2 ^ 28) (hk : k < 2 ^ 28) : nI a - nI n - nI k = nI a - nI (n + k) := by
  apply Int32.toInt_inj.mp
  have e := pk_sub_toInt (a := a) (b := n) (by omega) (by omega)
  rw [Kit.i32_sub (by rw [e, nI_toInt (by omega)]; omega) (by rw [e, nI_toInt (by omega)]; omega), e, nI_toInt (by omega), pk_sub_toInt (by omega) (by omega)]
  omega
theorem g_lb_o {G : bs_G} {b i : Nat} (h : g_bo G i ≠ b) : g_lb G b (i + 1) = g_lb G b i := by simp only [g_lb, g_sm, if_neg h, Nat.add_zero]
theorem g_lb_m {G : bs_G} {b i : Nat} (h : g_bo G i = b) : g_lb G b (i + 1) = g_lb G b i + g_le G i := by simp only [g_lb, g_sm, if_pos h]
theorem g_cb_o {G : bs_G} {b i : Nat} (h : g_bo G i ≠ b) : g_cb G b (i + 1) = g_cb G b i := by simp only [g_cb, g_sm, g_if0 h, Nat.add_zero]
theorem g_cb_m {G : bs_G} {b i : Nat} (h : g_bo G i = b) : g_cb G b (i + 1) = g_cb G b i + 1 := by simp only [g_cb, g_sm, g_if1 h]
theorem g_cb_lt {G : bs_G} (h : g_ok G) (b : Nat) : g_cb G b (g_nu G) ≤ 24 := by
  have h2 : g_cb G b (g_nu G) ≤ g_nu G := g_sm1 (fun k => g_if_le _) _
  have := h.2.1
  omega
set_option maxHeartbeats 4000000 in
theorem n_restN {m nx fc : Nat} {FG : Nat → bs_G} {sh : bs_Sh} {mu : bs_Mm} (H : bs_St (bs_tM m) m sh mu) (hF : mFG m fc FG mu) {a : Int32} (ha : a < 0 ∨ nI fc ≤ a) (b : Int32) : bs_C mX12_rest (bs_rm 10 0 0) [.ref m, .int a, .int b] nx sh mu (bs_no nx sh mu (.int (-1))) := by
  refine bs_ct (by decide +kernel) (Nat.le_of_ble_eq_true rfl) ?_
  refine bs_aload_n dX12_rest_0 rfl ?_
  refine bs_iload_n dX12_rest_1 rfl ?_
  refine bs_iload_n dX12_rest_2 rfl ?_
  refine bs_callVn dX12_rest_3 qX12_310 (n_isBalloonN H hF ha b) rfl (H.s 0 rfl rfl rfl) rfl (Nat.le_of_ble_eq_true rfl) ⟨⟨by decide, by decide⟩, by decide, by decide⟩ ?_
  refine bs_if_neN (tgt := 11) dX12_rest_6 (by decide) (by omega) (fun c6 => ?_) (fun c6 => ?_)
  · exact absurd rfl c6
  · refine bs_iconst (v := (-1)) dX12_rest_9 (by decide) ?_
    exact bs_iret dX12_rest_10 rfl (by decide) (by decide) ⟨rfl, rfl, rfl, rfl⟩
set_option maxHeartbeats 4000000 in
theorem n_restB {m nx fc : Nat} {FG : Nat → bs_G} {sh : bs_Sh} {mu : bs_Mm} (H : bs_St (bs_tM m) m sh mu) (hF : mFG m fc FG mu) {g : Nat} (hg : g < fc) {b : Int32} (hb : b < 0 ∨ nI (g_nb (FG g)) ≤ b) : bs_C mX12_rest (bs_rm 10 0 0) [.ref m, .int (nI g), .int b] nx sh mu (bs_no nx sh mu (.int (-1))) := by
  have q1 := hF.1
  have hV := (hF.2.2 g hg).2
  have hG := (hF.2.2 g hg).1
  have q0 := g_bn hG
  refine bs_ct (by decide +kernel) (Nat.le_of_ble_eq_true rfl) ?_
  refine bs_aload_n dX12_rest_0 rfl ?_
  refine bs_iload_n dX12_rest_1 rfl ?_
  refine bs_iload_n dX12_rest_2 rfl ?_
  refine bs_callVn dX12_rest_3 qX12_310 (n_isBalloonB H hF hg hb) rfl (H.s 0 rfl rfl rfl) rfl (Nat.le_of_ble_eq_true rfl) ⟨⟨by decide, by decide⟩, by decide, by decide⟩ ?_
  refine bs_if_neN (tgt := 11) dX12_rest_6 (by decide) (by omega) (fun c6 => ?_) (fun c6 => ?_)
  · exact absurd rfl c6
  · refine bs_iconst (v := (-1)) dX12_rest_9 (by decide) ?_
    exact bs_iret dX12_rest_10 rfl (by decide) (by decide) ⟨rfl, rfl, rfl, rfl⟩
set_option maxHeartbeats 4000000 in
theorem n_rest_l {m nx fc : Nat} {FG : Nat → bs_G} {sh : bs_Sh} {mu : bs_Mm} (H : bs_St (bs_tM m) m sh mu) (hF : mFG m fc FG mu) {g : Nat} (hg : g < fc) {S : bs_So} (hO : mSo m S mu) (hk : so_ok S) {b s : Nat} (hb : b < g_nb (FG g)) (hs : s < S.1) : ∀ (r i : Nat), i + r = g_nu (FG g) → bs_W (bs_no nx sh mu (.int (nI ((S.2.1 s) - g_nd (FG g) b (S.2.2.1 s) (g_nu (FG g)))))) mX12_rest (bs_rm 10 0 0) 32 (bs_mk [(0, .ref m), (1, .int (nI g)), (2, .int (nI b)), (3, .int (nI s)), (4, .int (nI (g_lb (FG g) b i))), (5, .int (nI (g_cb (FG g) b i))), (6, .int (nI i))]) [] 0 0 nx sh mu := by
  have q1 := hF.1
  have hV := (hF.2.2 g hg).2
  have hG := (hF.2.2 g hg).1
  have q0 := g_bn hG
  have q3 := hk.1
  have q5 := hk.2 _ hs
  intro r
  induction r with
  | zero =>
    intro i hi
    have e0 : i = g_nu (FG g) := by omega
    have q6 : g_lb (FG g) b i ≤ 720 := by rw [e0]; exact hG.2.2.2.2.2.1 b hb
    have q7 : g_cb (FG g) b i ≤ 24 := by rw [e0]; exact g_cb_lt hG b
    have q8 := Nat.mul_le_mul q5.2.2.1 (show g_cb (FG g) b i - 1 ≤ 24 by omega)
    refine bs_iload dX12_rest_32 rfl ?_
    refine bs_aload_n dX12_rest_34 rfl ?_
    refine bs_getR (b := (m + 8)) dX12_rest_35 fX12_31 (H.s 0 rfl rfl rfl) (H.r 0 13 rfl rfl rfl) ?_
    refine bs_iload_n dX12_rest_38 rfl ?_
    refine bs_ialdN (n := 13) (v := (g_nu (FG g))) dX12_rest_39 (H.ss 8 rfl rfl) (by have q0 := hg; omega) (by decide) (hV.2.1) ?_
    refine bs_icmp_geN (tgt := 85) dX12_rest_40 (by decide) (by omega) (by have q0 := g_bn hG; omega) (fun c40 => ?_) (fun c40 => ?_)
    · refine bs_iconst (v := nI 0) dX12_rest_85 (by decide) ?_
      refine bs_aload_n dX12_rest_86 rfl ?_
      refine bs_getR (b := (m + 1)) dX12_rest_87 fX12_9 (H.s 0 rfl rfl rfl) (H.r 0 1 rfl rfl rfl) ?_
      refine bs_iload_n dX12_rest_90 rfl ?_
      refine bs_ialdN (n := 6) (v := (S.2.1 s)) dX12_rest_91 (H.ss 1 rfl rfl) (by have q0 := hs; have q1 := hk.1; omega) (by decide) (hO.2.1 s hs) ?_
      refine bs_iload dX12_rest_92 rfl ?_
      refine bs_isub dX12_rest_94 ?_
      refine bs_aload_n dX12_rest_95 rfl ?_
      refine bs_getR (b := (m + 2)) dX12_rest_96 fX12_13 (H.s 0 rfl rfl rfl) (H.r 0 2 rfl rfl rfl) ?_
      refine bs_iload_n dX12_rest_99 rfl ?_
      refine bs_ialdN (n := 6) (v := (S.2.2.1 s)) dX12_rest_100 (H.ss 2 rfl rfl) (by have q0 := hs; have q1 := hk.1; omega) (by decide) (hO.2.2.1 s hs) ?_
      refine bs_iconst (v := nI 0) dX12_rest_101 (by decide) ?_
      refine bs_iload dX12_rest_102 rfl ?_
      refine bs_iconst (v := nI 1) dX12_rest_104 (by decide) ?_
      refine bs_isub dX12_rest_105 ?_
      refine bs_mmax dX12_rest_106 xX12_149 (by decide) (Nat.le_of_ble_eq_true rfl) (by decide) (by decide) ?_
      refine bs_topq (x' := nI (g_cb (FG g) b i - 1)) (bs_max0 (by omega) (by decide)) ?_
      refine bs_imulN dX12_rest_109 ?_
      refine bs_isub dX12_rest_110 ?_
      refine bs_topq (x' := nI (S.2.1 s) - nI (g_lb (FG g) b i + ((S.2.2.1 s) * (g_cb (FG g) b i - 1)))) (bs_subsub (by omega) (by omega) (by omega)) ?_
      refine bs_mmax dX12_rest_111 xX12_149 (by decide) (Nat.le_of_ble_eq_true rfl) (by decide) (by decide) ?_
      refine bs_topq (x' := nI ((S.2.1 s) - (g_lb (FG g) b i + ((S.2.2.1 s) * (g_cb (FG g) b i - 1))))) (bs_max0 (by omega) (by omega)) ?_
      exact bs_iret dX12_rest_114 rfl (by decide) (by decide) ⟨by rw [g_nd_eq hG, show i = g_nu (FG g) by omega], rfl, rfl, rfl⟩
    · omega
  | succ r ih =>
    intro i hi
    refine bs_iload dX12_rest_32 rfl ?_
    refine bs_aload_n dX12_rest_34 rfl ?_
    refine bs_getR (b := (m + 8)) dX12_rest_35 fX12_31 (H.s 0 rfl rfl rfl) (H.r 0 13 rfl rfl rfl) ?_
    refine bs_iload_n dX12_rest_38 rfl ?_
    refine bs_ialdN (n := 13) (v := (g_nu (FG g))) dX12_rest_39 (H.ss 8 rfl rfl) (by have q0 := hg; omega) (by decide) (hV.2.1) ?_
    refine bs_icmp_geN (tgt := 85) dX12_rest_40 (by decide) (by omega) (by have q0 := g_bn hG; omega) (fun c40 => ?_) (fun c40 => ?_)
    · omega
    · refine bs_aload_n dX12_rest_43 rfl ?_
      refine bs_getR (b := (m + 13)) dX12_rest_44 fX12_46 (H.s 0 rfl rfl rfl) (H.r 0 18 rfl rfl rfl) ?_
      refine bs_bipush (v := nI 24) dX12_rest_47 (by decide) ?_
      refine bs_iload_n dX12_rest_49 rfl ?_
      refine bs_imulN dX12_rest_50 ?_
      refine bs_iload dX12_rest_51 rfl ?_
      refine bs_iaddN dX12_rest_53 ?_
      refine bs_ialdN (n := 312) (v := (g_bo (FG g) i)) dX12_rest_54 (H.ss 13 rfl rfl) (by have q0 := hg; omega) (by decide) (hV.2.2.2.2.2.2.2.2 i (by omega)) ?_
      refine bs_iload_n dX12_rest_55 rfl ?_
      refine bs_icmp_neN (tgt := 79) dX12_rest_56 (by decide) (by have q0 := g_bd hG (i := i) (by omega); omega) (by have q0 := hb; omega) (fun c56 => ?_) (fun c56 => ?_)
      · refine bs_iincN (n := 1) dX12_rest_79 rfl rfl ?_
        refine bs_goto (tgt := 32) dX12_rest_82 (by decide) ?_
        refine bs_W.mk [(0, .ref m), (1, .int (nI g)), (2, .int (nI b)), (3, .int (nI s)), (4, .int (nI (g_lb (FG g) b (i + 1)))), (5, .int (nI (g_cb (FG g) b (i + 1)))), (6, .int (nI (i + 1)))] ?_ (ih (i + 1) (by omega))
        intro q hq
        simp only [List.mem_cons, List.not_mem_nil, or_false] at hq
        rcases hq with rfl | rfl | rfl | rfl | rfl | rfl | rfl
        · rfl
        · rfl
        · rfl
        · rfl
        · show some (Value.int (nI (g_lb (FG g) b i))) = some (Value.int (nI (g_lb (FG g) b (i + 1))))
          rw [g_lb_o c56]
        · show some (Value.int (nI (g_cb (FG g) b i))) = some (Value.int (nI (g_cb (FG g) b (i + 1))))
          rw [g_cb_o c56]
        · rfl
      · refine bs_iload dX12_rest_59 rfl ?_
        refine bs_aload_n dX12_rest_61 rfl ?_
        refine bs_getR (b := (m + 10)) dX12_rest_62 fX12_37 (H.s 0 rfl rfl rfl) (H.r 0 15 rfl rfl rfl) ?_
        refine bs_bipush (v := nI 24) dX12_rest_65 (by decide) ?_
        refine bs_iload_n dX12_rest_67 rfl ?_
        refine bs_imulN dX12_rest_68 ?_
        refine bs_iload dX12_rest_69 rfl ?_
        refine bs_iaddN dX12_rest_71 ?_
        refine bs_ialdN (n := 312) (v := (g_le (FG g) i)) dX12_rest_72 (H.ss 10 rfl rfl) (by have q0 := hg; omega) (by decide) (hV.2.2.2.2.2.1 i (by omega)) ?_
        refine bs_iaddN dX12_rest_73 ?_
        refine bs_istore dX12_rest_74 rfl (by decide) ?_
        refine bs_iincN (n := 1) dX12_rest_76 rfl rfl ?_
        refine bs_iincN (n := 1) dX12_rest_79 rfl rfl ?_
        refine bs_goto (tgt := 32) dX12_rest_82 (by decide) ?_
        refine bs_W.mk [(0, .ref m), (1, .int (nI g)), (2, .int (nI b)), (3, .int (nI s)), (4, .int (nI (g_lb (FG g) b (i + 1)))), (5, .int (nI (g_cb (FG g) b (i + 1)))), (6, .int (nI (i + 1)))] ?_ (ih (i + 1) (by omega))
        intro q hq
        simp only [List.mem_cons, List.not_mem_nil, or_false] at hq
        rcases hq with rfl | rfl | rfl | rfl | rfl | rfl | rfl
        · rfl
        · rfl
        · rfl
        · rfl
        · show some (Value.int (nI ((g_lb (FG g) b i) + (g_le (FG g) i)))) = some (Value.int (nI (g_lb (FG g) b (i + 1))))
          rw [g_lb_m c56]
        · show some (Value.int (nI ((g_cb (FG g) b i) + 1))) = some (Value.int (nI (g_cb (FG g) b (i + 1))))
          rw [g_cb_m c56]
        · rfl
set_option maxHeartbeats 4000000 in
theorem n_restY {m nx fc : Nat} {FG : Nat → bs_G} {sh : bs_Sh} {mu : bs_Mm} (H : bs_St (bs_tM m) m sh mu) (hF : mFG m fc FG mu) {g : Nat} (hg : g < fc) {S : bs_So} (hO : mSo m S mu) (hk : so_ok S) (hq : ∀ b, b < g_nb (FG g) → g_so (FG g) b < S.1) {b : Nat} (hb : b < g_nb (FG g)) : bs_C mX12_rest (bs_rm 10 0 0) [.ref m, .int (nI g), .int (nI b)] nx sh mu (bs_no nx sh mu (.int (nI (S.2.1 (g_so (FG g) b) - g_nd (FG g) b (S.2.2.1 (g_so (FG g) b)) (g_nu (FG g)))))) := by
  have q1 := hF.1
  have hV := (hF.2.2 g hg).2
  have hG := (hF.2.2 g hg).1
  have q0 := g_bn hG
  have q3 := hk.1
  have q4 := hq b hb
  refine bs_ct (by decide +kernel) (Nat.le_of_ble_eq_true rfl) ?_
  refine bs_aload_n dX12_rest_0 rfl ?_
  refine bs_iload_n dX12_rest_1 rfl ?_
  refine bs_iload_n dX12_rest_2 rfl ?_
  refine bs_callVn dX12_rest_3 qX12_310 (n_isBalloonY H hF hg hb) rfl (H.s 0 rfl rfl rfl) rfl (Nat.le_of_ble_eq_true rfl) ⟨⟨by decide, by decide⟩, by decide, by decide⟩ ?_
  refine bs_if_neN (tgt := 11) dX12_rest_6 (by decide) (by omega) (fun c6 => ?_) (fun c6 => ?_)
  · have q9 := hq b hb
    refine bs_aload_n dX12_rest_11 rfl ?_
    refine bs_getR (b := (m + 7)) dX12_rest_12 fX12_28 (H.s 0 rfl rfl rfl) (H.r 0 12 rfl rfl rfl) ?_
    refine bs_bipush (v := nI 6) dX12_rest_15 (by decide) ?_
    refine bs_iload_n dX12_rest_17 rfl ?_
    refine bs_imulN dX12_rest_18 ?_
    refine bs_iload_n dX12_rest_19 rfl ?_
    refine bs_iaddN dX12_rest_20 ?_
    refine bs_ialdN (n := 78) (v := (g_so (FG g) b)) dX12_rest_21 (H.ss 7 rfl rfl) (by have q0 := hg; have q1 := hb; omega) (by decide) (hV.2.2.2.2.1 b (by omega)) ?_
    refine bs_istore_n dX12_rest_22 rfl (by decide) ?_
    refine bs_iconst (v := nI 0) dX12_rest_23 (by decide) ?_
    refine bs_istore dX12_rest_24 rfl (by decide) ?_
    refine bs_iconst (v := nI 0) dX12_rest_26 (by decide) ?_
    refine bs_istore dX12_rest_27 rfl (by decide) ?_
    refine bs_iconst (v := nI 0) dX12_rest_29 (by decide) ?_
    refine bs_istore dX12_rest_30 rfl (by decide) ?_
    refine bs_W.mk [(0, .ref m), (1, .int (nI g)), (2, .int (nI b)), (3, .int (nI (g_so (FG g) b))), (4, .int (nI (g_lb (FG g) b 0))), (5, .int (nI (g_cb (FG g) b 0))), (6, .int (nI 0))] ?_ (n_rest_l H hF hg hO hk hb (hq b hb) (g_nu (FG g)) 0 (by omega))
    intro q hq
    simp only [List.mem_cons, List.not_mem_nil, or_false] at hq
    rcases hq with rfl | rfl | rfl | rfl | rfl | rfl | rfl <;> rfl
  · omega
