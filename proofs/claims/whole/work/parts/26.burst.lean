/-! BURSTS (own) -/
theorem bs_subadd (t s k : Nat) : nI t - nI s + nI k = nI (t + k) - nI s := by
  rw [← nI_add, Int32.sub_eq_add_neg, Int32.sub_eq_add_neg, Int32.add_assoc, Int32.add_comm (-nI s), ← Int32.add_assoc]
theorem bs_subneg (s : Nat) : -nI s = nI 0 - nI s := by rw [nI_0, Int32.sub_eq_add_neg, Int32.zero_add]
theorem bs_sub_le {t s a : Nat} (ht : t < 2 ^ 30) (hs : s < 2 ^ 30) (ha : a < 2 ^ 30) : nI t - nI s ≤ nI a ↔ t ≤ a + s := by
  rw [Int32.le_iff_toInt_le, pk_sub_toInt ht hs, nI_toInt (by omega)]
  omega
/-- the first bubble of balloon b at which more than air is needed; t is the need so far and one strain -/
def g_br (G : bs_G) (b air st : Nat) : Nat → Nat → Nat → Int32
  | 0, _, _ => -1
  | r + 1, i, t => if g_bo G i = b then (if t + (st + g_le G i) ≤ air + st then g_br G b air st r (i + 1) (t + (st + g_le G i)) else nI i) else g_br G b air st r (i + 1) t
theorem g_br_o {G : bs_G} {b air st r i t : Nat} (h : g_bo G i ≠ b) : g_br G b air st (r + 1) i t = g_br G b air st r (i + 1) t := if_neg h
theorem g_br_m {G : bs_G} {b air st r i t : Nat} (h : g_bo G i = b) (h2 : t + (st + g_le G i) ≤ air + st) : g_br G b air st (r + 1) i t = g_br G b air st r (i + 1) (t + (st + g_le G i)) := by rw [g_br, if_pos h, if_pos h2]
theorem g_br_y {G : bs_G} {b air st r i t : Nat} (h : g_bo G i = b) (h2 : ¬ t + (st + g_le G i) ≤ air + st) : g_br G b air st (r + 1) i t = nI i := by rw [g_br, if_pos h, if_neg h2]
set_option maxHeartbeats 4000000 in
theorem f_burst_l {f nx : Nat} {sh : bs_Sh} {mu : bs_Mm} {G : bs_G} (hS : cFs f sh mu) (hV : cFv f G mu) (hG : g_ok G) {b air st : Nat} (hb : b < 2 ^ 30) (ha : air ≤ 200) (hs : st ≤ 9) : ∀ (r i t : Nat), i + r = g_nu G → t ≤ 800 * i → bs_W (bs_no nx sh mu (.int (g_br G b air st r i t))) mX1_burstOf (bs_rm 0 0 0) 7 (bs_mk [(0, .ref f), (1, .int (nI b)), (2, .int (nI air)), (3, .int (nI st)), (4, .int (nI t - nI st)), (5, .int (nI i))]) [] 0 0 nx sh mu := by
  have q0 := g_bn hG
  intro r
  induction r with
  | zero =>
    intro i t hi hq
    refine bs_iload dX1_burstOf_7 rfl ?_
    refine bs_aload_n dX1_burstOf_9 rfl ?_
    refine bs_getN (v := (g_nu G)) dX1_burstOf_10 fX1_40 (hS.1) (hV.2.1) ?_
    refine bs_icmp_geN (tgt := 56) dX1_burstOf_13 (by decide) (by omega) (by have q0 := g_bn hG; omega) (fun c13 => ?_) (fun c13 => ?_)
    · refine bs_iconst (v := (-1)) dX1_burstOf_56 (by decide) ?_
      exact bs_iret dX1_burstOf_57 rfl (by decide) (by decide) ⟨rfl, rfl, rfl, rfl⟩
    · omega
  | succ r ih =>
    intro i t hi hq
    refine bs_iload dX1_burstOf_7 rfl ?_
    refine bs_aload_n dX1_burstOf_9 rfl ?_
    refine bs_getN (v := (g_nu G)) dX1_burstOf_10 fX1_40 (hS.1) (hV.2.1) ?_
    refine bs_icmp_geN (tgt := 56) dX1_burstOf_13 (by decide) (by omega) (by have q0 := g_bn hG; omega) (fun c13 => ?_) (fun c13 => ?_)
    · omega
    · have q2 := g_bd hG (i := i) (by omega)
      refine bs_aload_n dX1_burstOf_16 rfl ?_
      refine bs_getR (b := (f + 5)) dX1_burstOf_17 fX1_24 (hS.1) (hS.2.1 4 (by decide)) ?_
      refine bs_iload dX1_burstOf_20 rfl ?_
      refine bs_ialdN (n := 24) (v := (g_bo G i)) dX1_burstOf_22 (hS.2.2 4 (by decide)) (by omega) (by decide) (hV.2.2.2.2.2.2.2.2.1 i (by omega)) ?_
      refine bs_iload_n dX1_burstOf_23 rfl ?_
      refine bs_icmp_neN (tgt := 50) dX1_burstOf_24 (by decide) (by have q0 := g_bd hG (i := i) (by omega); omega) (by have q0 := hb; omega) (fun c24 => ?_) (fun c24 => ?_)
      · refine bs_iincN (n := 1) dX1_burstOf_50 rfl rfl ?_
        refine bs_goto (tgt := 7) dX1_burstOf_53 (by decide) ?_
        refine bs_W.mk [(0, .ref f), (1, .int (nI b)), (2, .int (nI air)), (3, .int (nI st)), (4, .int (nI t - nI st)), (5, .int (nI (i + 1)))] ?_ ?_
        · intro q hq
          simp only [List.mem_cons, List.not_mem_nil, or_false] at hq
          rcases hq with rfl | rfl | rfl | rfl | rfl | rfl <;> rfl
        · rw [g_br_o c24]
          exact ih (i + 1) (t) (by omega) (by omega)
      · refine bs_iload dX1_burstOf_27 rfl ?_
        refine bs_iload_n dX1_burstOf_29 rfl ?_
        refine bs_aload_n dX1_burstOf_30 rfl ?_
        refine bs_getR (b := (f + 2)) dX1_burstOf_31 fX1_15 (hS.1) (hS.2.1 1 (by decide)) ?_
        refine bs_iload dX1_burstOf_34 rfl ?_
        refine bs_ialdN (n := 24) (v := (g_le G i)) dX1_burstOf_36 (hS.2.2 1 (by decide)) (by omega) (by decide) (hV.2.2.2.2.2.1 i (by omega)) ?_
        refine bs_iaddN dX1_burstOf_37 ?_
        refine bs_iadd dX1_burstOf_38 ?_
        refine bs_topq (x' := nI (t + (st + g_le G i)) - nI st) (bs_subadd t st (st + g_le G i)) ?_
        refine bs_istore dX1_burstOf_39 rfl (by decide) ?_
        refine bs_iload dX1_burstOf_41 rfl ?_
        refine bs_iload_n dX1_burstOf_43 rfl ?_
        refine bs_icmp_le (tgt := 50) dX1_burstOf_44 (by decide) (fun c44 => ?_) (fun c44 => ?_)
        · refine bs_iincN (n := 1) dX1_burstOf_50 rfl rfl ?_
          refine bs_goto (tgt := 7) dX1_burstOf_53 (by decide) ?_
          refine bs_W.mk [(0, .ref f), (1, .int (nI b)), (2, .int (nI air)), (3, .int (nI st)), (4, .int (nI (t + (st + g_le G i)) - nI st)), (5, .int (nI (i + 1)))] ?_ ?_
          · intro q hq
            simp only [List.mem_cons, List.not_mem_nil, or_false] at hq
            rcases hq with rfl | rfl | rfl | rfl | rfl | rfl <;> rfl
          · rw [g_br_m c24 ((bs_sub_le (by omega) (by omega) (by omega)).mp c44)]
            exact ih (i + 1) ((t + (st + g_le G i))) (by omega) (by omega)
        · refine bs_iload dX1_burstOf_47 rfl ?_
          exact bs_iret dX1_burstOf_49 rfl (by decide) (by decide) ⟨by rw [g_br_y c24 (fun z => c44 ((bs_sub_le (by omega) (by omega) (by omega)).mpr z))], rfl, rfl, rfl⟩
set_option maxHeartbeats 4000000 in
theorem f_burstOf {f nx : Nat} {sh : bs_Sh} {mu : bs_Mm} {G : bs_G} (hS : cFs f sh mu) (hV : cFv f G mu) (hG : g_ok G) {b air st : Nat} (hb : b < 2 ^ 30) (ha : air ≤ 200) (hs : st ≤ 9) : bs_C mX1_burstOf (bs_rm 0 0 0) [.ref f, .int (nI b), .int (nI air), .int (nI st)] nx sh mu (bs_no nx sh mu (.int (g_br G b air st (g_nu G) 0 0))) := by
  refine bs_ct (by decide +kernel) (Nat.le_of_ble_eq_true rfl) ?_
  refine bs_iload_n dX1_burstOf_0 rfl ?_
  refine bs_ineg dX1_burstOf_1 ?_
  refine bs_topq (x' := nI 0 - nI st) (bs_subneg st) ?_
  refine bs_istore dX1_burstOf_2 rfl (by decide) ?_
  refine bs_iconst (v := nI 0) dX1_burstOf_4 (by decide) ?_
  refine bs_istore dX1_burstOf_5 rfl (by decide) ?_
  refine bs_W.mk [(0, .ref f), (1, .int (nI b)), (2, .int (nI air)), (3, .int (nI st)), (4, .int (nI 0 - nI st)), (5, .int (nI 0))] ?_ (f_burst_l hS hV hG hb ha hs (g_nu G) 0 0 (by omega) (by omega))
  intro q hq
  simp only [List.mem_cons, List.not_mem_nil, or_false] at hq
  rcases hq with rfl | rfl | rfl | rfl | rfl | rfl <;> rfl
