/-! FIGURES (own): how the model keeps them -/
def mFv (m g : Nat) (G : bs_G) (mu : bs_Mm) : Prop := bs_iv (mu (m + 6) g) = nI (g_nb G) ∧ bs_iv (mu (m + 8) g) = nI (g_nu G) ∧ bs_iv (mu (m + 9) g) = nI (g_np G) ∧ bs_iv (mu (m + 14) g) = nI (g_mh G) ∧ (∀ j, j < g_nb G → bs_iv (mu (m + 7) (6 * g + j)) = nI (g_so G j)) ∧ (∀ j, j < g_nu G → bs_iv (mu (m + 10) (24 * g + j)) = nI (g_le G j)) ∧ (∀ j, j < g_nu G → bs_iv (mu (m + 11) (24 * g + j)) = nI (g_fr G j)) ∧ (∀ j, j < g_nu G → bs_iv (mu (m + 12) (24 * g + j)) = nI (g_to G j)) ∧ ∀ j, j < g_nu G → bs_iv (mu (m + 13) (24 * g + j)) = nI (g_bo G j)
/-- a bit of a set; the ends at a point of the bubbles in a set -/
def g_bt (S i : Nat) : Nat := S / 2 ^ i &&& 1
def g_es (G : bs_G) (p S : Nat) : Nat → Nat := g_sm (fun i => if g_bt S i = 1 then g_if (g_fr G i = p) + g_if (g_to G i = p) else 0)
theorem g_es_1 {G : bs_G} {p S i : Nat} (h : g_bt S i = 1) : g_es G p S (i + 1) = g_es G p S i + (g_if (g_fr G i = p) + g_if (g_to G i = p)) := by simp only [g_es, g_sm, if_pos h]
theorem g_es_0 {G : bs_G} {p S i : Nat} (h : g_bt S i ≠ 1) : g_es G p S (i + 1) = g_es G p S i := by simp only [g_es, g_sm, if_neg h, Nat.add_zero]
theorem g_es_le (G : bs_G) (p S n : Nat) : g_es G p S n ≤ 2 * n := g_sm_le (fun i => by
  have h1 := g_if_le (g_fr G i = p)
  have h2 := g_if_le (g_to G i = p)
  split <;> omega) _
theorem g_bt_all {n i : Nat} (h : i < n) : g_bt (2 ^ n - 1) i = 1 := by
  have := Nat.testBit_two_pow_sub_one n i
  rw [Nat.testBit_eq_decide_div_mod_eq] at this
  unfold g_bt
  rw [Nat.and_one_is_mod]
  simpa [h] using this
theorem g_es_all (G : bs_G) (p : Nat) : g_es G p (2 ^ g_nu G - 1) (g_nu G) = g_en G p := by
  have h : ∀ n, n ≤ g_nu G → g_es G p (2 ^ g_nu G - 1) n = g_sm (fun i => g_if (g_fr G i = p) + g_if (g_to G i = p)) n := by
    intro n
    induction n with
    | zero => intro _; rfl
    | succ n ih =>
      intro hn
      rw [g_es_1 (g_bt_all (by omega)), ih (by omega)]
      rfl
  exact h _ (Nat.le_refl _)
set_option maxHeartbeats 4000000 in
theorem n_all {m nx g : Nat} {sh : bs_Sh} {mu : bs_Mm} {G : bs_G} (H : bs_St (bs_tM m) m sh mu) (hV : mFv m g G mu) (hg : g < 13) (hG : g_ok G) : bs_C mX12_all (bs_rm 0 0 0) [.ref m, .int (nI g)] nx sh mu (bs_no nx sh mu (.int (nI (2 ^ g_nu G - 1)))) := by
  have q0 := g_bn hG
  refine bs_ct (by decide +kernel) (Nat.le_of_ble_eq_true rfl) ?_
  refine bs_iconst (v := nI 1) dX12_all_0 (by decide) ?_
  refine bs_aload_n dX12_all_1 rfl ?_
  refine bs_getR (b := (m + 8)) dX12_all_2 fX12_31 (H.s 0 rfl rfl rfl) (H.r 0 13 rfl rfl rfl) ?_
  refine bs_iload_n dX12_all_5 rfl ?_
  refine bs_ialdN (n := 13) (v := (g_nu G)) dX12_all_6 (H.ss 8 rfl rfl) (by omega) (by decide) (hV.2.1) ?_
  refine bs_shlN dX12_all_7 (by have q0 := g_bn hG; omega) ?_
  refine bs_iconst (v := nI 1) dX12_all_8 (by decide) ?_
  refine bs_isubN dX12_all_9 (by have q0 := Nat.one_le_two_pow (n := (g_nu G)); have q1 := Nat.pow_lt_pow_right (a := 2) (n := 31) (by decide) (show (g_nu G) < 31 from (by have q0 := g_bn hG; omega)); omega) ?_
  exact bs_iret dX12_all_10 rfl (by decide) (by decide) ⟨rfl, rfl, rfl, rfl⟩
set_option maxHeartbeats 4000000 in
theorem n_isTwist {m nx g : Nat} {sh : bs_Sh} {mu : bs_Mm} {G : bs_G} (H : bs_St (bs_tM m) m sh mu) (hV : mFv m g G mu) (hg : g < 13) (hG : g_ok G) (i : Nat) (hi : i < 2 ^ 30) : bs_C mX12_isTwist (bs_rm 0 0 0) [.ref m, .int (nI g), .int (nI i)] nx sh mu (bs_no nx sh mu (.int (nI (g_tw G i)))) := by
  have q0 := g_bn hG
  refine bs_ct (by decide +kernel) (Nat.le_of_ble_eq_true rfl) ?_
  refine bs_iload_n dX12_isTwist_0 rfl ?_
  refine bs_iconst (v := nI 1) dX12_isTwist_1 (by decide) ?_
  refine bs_iaddN dX12_isTwist_2 ?_
  refine bs_aload_n dX12_isTwist_3 rfl ?_
  refine bs_getR (b := (m + 8)) dX12_isTwist_4 fX12_31 (H.s 0 rfl rfl rfl) (H.r 0 13 rfl rfl rfl) ?_
  refine bs_iload_n dX12_isTwist_7 rfl ?_
  refine bs_ialdN (n := 13) (v := (g_nu G)) dX12_isTwist_8 (H.ss 8 rfl rfl) (by omega) (by decide) (hV.2.1) ?_
  refine bs_icmp_geN (tgt := 43) dX12_isTwist_9 (by decide) (by have q0 := hi; omega) (by have q0 := g_bn hG; omega) (fun c9 => ?_) (fun c9 => ?_)
  · refine bs_iconst (v := nI 0) dX12_isTwist_43 (by decide) ?_
    exact bs_zret dX12_isTwist_44 rfl (by decide) (by decide) (by decide) ⟨by rw [g_tw, g_if0 (by omega)], rfl, rfl, rfl⟩
  · refine bs_aload_n dX12_isTwist_12 rfl ?_
    refine bs_getR (b := (m + 13)) dX12_isTwist_13 fX12_46 (H.s 0 rfl rfl rfl) (H.r 0 18 rfl rfl rfl) ?_
    refine bs_bipush (v := nI 24) dX12_isTwist_16 (by decide) ?_
    refine bs_iload_n dX12_isTwist_18 rfl ?_
    refine bs_imulN dX12_isTwist_19 ?_
    refine bs_iload_n dX12_isTwist_20 rfl ?_
    refine bs_iaddN dX12_isTwist_21 ?_
    refine bs_ialdN (n := 312) (v := (g_bo G i)) dX12_isTwist_22 (H.ss 13 rfl rfl) (by have q0 := hi; omega) (by decide) (hV.2.2.2.2.2.2.2.2 i (by omega)) ?_
    refine bs_aload_n dX12_isTwist_23 rfl ?_
    refine bs_getR (b := (m + 13)) dX12_isTwist_24 fX12_46 (H.s 0 rfl rfl rfl) (H.r 0 18 rfl rfl rfl) ?_
    refine bs_bipush (v := nI 24) dX12_isTwist_27 (by decide) ?_
    refine bs_iload_n dX12_isTwist_29 rfl ?_
    refine bs_imulN dX12_isTwist_30 ?_
    refine bs_iload_n dX12_isTwist_31 rfl ?_
    refine bs_iaddN dX12_isTwist_32 ?_
    refine bs_iconst (v := nI 1) dX12_isTwist_33 (by decide) ?_
    refine bs_iaddN dX12_isTwist_34 ?_
    refine bs_ialdN (n := 312) (v := (g_bo G (i + 1))) dX12_isTwist_35 (H.ss 13 rfl rfl) (by have q0 := hi; omega) (by decide) (hV.2.2.2.2.2.2.2.2 (i + 1) (by omega)) ?_
    refine bs_icmp_neN (tgt := 43) dX12_isTwist_36 (by decide) (by have q0 := g_bd hG (i := i) (by omega); omega) (by have q0 := g_bd hG (i := (i + 1)) (by omega); omega) (fun c36 => ?_) (fun c36 => ?_)
    · refine bs_iconst (v := nI 0) dX12_isTwist_43 (by decide) ?_
      exact bs_zret dX12_isTwist_44 rfl (by decide) (by decide) (by decide) ⟨by rw [g_tw, g_if0 (by omega)], rfl, rfl, rfl⟩
    · refine bs_iconst (v := nI 1) dX12_isTwist_39 (by decide) ?_
      refine bs_goto (tgt := 44) dX12_isTwist_40 (by decide) ?_
      exact bs_zret dX12_isTwist_44 rfl (by decide) (by decide) (by decide) ⟨by rw [g_tw, g_if1 (by omega)], rfl, rfl, rfl⟩
set_option maxHeartbeats 4000000 in
theorem n_endsIn_l {m nx g : Nat} {sh : bs_Sh} {mu : bs_Mm} {G : bs_G} (H : bs_St (bs_tM m) m sh mu) (hV : mFv m g G mu) (hg : g < 13) (hG : g_ok G) {p S : Nat} (hp : p < 2 ^ 30) (hs : S < 2 ^ 24) : ∀ (r i : Nat), i + r = g_nu G → bs_W (bs_no nx sh mu (.int (nI (g_es G p S (g_nu G))))) mX12_endsIn (bs_rm 0 0 0) 6 (bs_mk [(0, .ref m), (1, .int (nI g)), (2, .int (nI p)), (3, .int (nI S)), (4, .int (nI (g_es G p S i))), (5, .int (nI i))]) [] 0 0 nx sh mu := by
  have q0 := g_bn hG
  intro r
  induction r with
  | zero =>
    intro i hi
    refine bs_iload dX12_endsIn_6 rfl ?_
    refine bs_aload_n dX12_endsIn_8 rfl ?_
    refine bs_getR (b := (m + 8)) dX12_endsIn_9 fX12_31 (H.s 0 rfl rfl rfl) (H.r 0 13 rfl rfl rfl) ?_
    refine bs_iload_n dX12_endsIn_12 rfl ?_
    refine bs_ialdN (n := 13) (v := (g_nu G)) dX12_endsIn_13 (H.ss 8 rfl rfl) (by omega) (by decide) (hV.2.1) ?_
    refine bs_icmp_geN (tgt := 85) dX12_endsIn_14 (by decide) (by omega) (by have q0 := g_bn hG; omega) (fun c14 => ?_) (fun c14 => ?_)
    · refine bs_iload dX12_endsIn_85 rfl ?_
      exact bs_iret dX12_endsIn_87 rfl (by decide) (by decide) ⟨by rw [show i = g_nu G by omega], rfl, rfl, rfl⟩
    · omega
  | succ r ih =>
    intro i hi
    refine bs_iload dX12_endsIn_6 rfl ?_
    refine bs_aload_n dX12_endsIn_8 rfl ?_
    refine bs_getR (b := (m + 8)) dX12_endsIn_9 fX12_31 (H.s 0 rfl rfl rfl) (H.r 0 13 rfl rfl rfl) ?_
    refine bs_iload_n dX12_endsIn_12 rfl ?_
    refine bs_ialdN (n := 13) (v := (g_nu G)) dX12_endsIn_13 (H.ss 8 rfl rfl) (by omega) (by decide) (hV.2.1) ?_
    refine bs_icmp_geN (tgt := 85) dX12_endsIn_14 (by decide) (by omega) (by have q0 := g_bn hG; omega) (fun c14 => ?_) (fun c14 => ?_)
    · omega
    · refine bs_iload_n dX12_endsIn_17 rfl ?_
      refine bs_iload dX12_endsIn_18 rfl ?_
      refine bs_shrN dX12_endsIn_20 (by have q0 := hs; omega) (by omega) ?_
      refine bs_iconst (v := nI 1) dX12_endsIn_21 (by decide) ?_
      refine bs_andN dX12_endsIn_22 ?_
      refine bs_iconst (v := nI 1) dX12_endsIn_23 (by decide) ?_
      refine bs_icmp_neN (tgt := 79) dX12_endsIn_24 (by decide) (by have q0 := Nat.and_le_left (n := (S / 2 ^ i)) (m := 1); have q1 := Nat.div_le_self S (2 ^ i); have q2 := hs; omega) (by omega) (fun c24 => ?_) (fun c24 => ?_)
      · refine bs_iincN (n := 1) dX12_endsIn_79 rfl rfl ?_
        refine bs_goto (tgt := 6) dX12_endsIn_82 (by decide) ?_
        refine bs_W.mk [(0, .ref m), (1, .int (nI g)), (2, .int (nI p)), (3, .int (nI S)), (4, .int (nI (g_es G p S (i + 1)))), (5, .int (nI (i + 1)))] ?_ (ih (i + 1) (by omega))
        intro q hq
        simp only [List.mem_cons, List.not_mem_nil, or_false] at hq
        rcases hq with rfl | rfl | rfl | rfl | rfl | rfl
        · rfl
        · rfl
        · rfl
        · rfl
        · show some (Value.int (nI (g_es G p S i))) = some (Value.int (nI (g_es G p S (i + 1))))
          rw [g_es_0 c24] <;> rfl
        · rfl
      · refine bs_iload dX12_endsIn_27 rfl ?_
        refine bs_aload_n dX12_endsIn_29 rfl ?_
        refine bs_getR (b := (m + 11)) dX12_endsIn_30 fX12_40 (H.s 0 rfl rfl rfl) (H.r 0 16 rfl rfl rfl) ?_
        refine bs_bipush (v := nI 24) dX12_endsIn_33 (by decide) ?_
        refine bs_iload_n dX12_endsIn_35 rfl ?_
        refine bs_imulN dX12_endsIn_36 ?_
        refine bs_iload dX12_endsIn_37 rfl ?_
        refine bs_iaddN dX12_endsIn_39 ?_
        refine bs_ialdN (n := 312) (v := (g_fr G i)) dX12_endsIn_40 (H.ss 11 rfl rfl) (by omega) (by decide) (hV.2.2.2.2.2.2.1 i (by omega)) ?_
        refine bs_iload_n dX12_endsIn_41 rfl ?_
        refine bs_icmp_neN (tgt := 49) dX12_endsIn_42 (by decide) (by have q0 := g_bd hG (i := i) (by omega); omega) (by have q0 := hp; omega) (fun c42 => ?_) (fun c42 => ?_)
        · refine bs_iconst (v := nI 0) dX12_endsIn_49 (by decide) ?_
          refine bs_iaddN dX12_endsIn_50 ?_
          refine bs_istore dX12_endsIn_51 rfl (by decide) ?_
          refine bs_iload dX12_endsIn_53 rfl ?_
          refine bs_aload_n dX12_endsIn_55 rfl ?_
          refine bs_getR (b := (m + 12)) dX12_endsIn_56 fX12_43 (H.s 0 rfl rfl rfl) (H.r 0 17 rfl rfl rfl) ?_
          refine bs_bipush (v := nI 24) dX12_endsIn_59 (by decide) ?_
          refine bs_iload_n dX12_endsIn_61 rfl ?_
          refine bs_imulN dX12_endsIn_62 ?_
          refine bs_iload dX12_endsIn_63 rfl ?_
          refine bs_iaddN dX12_endsIn_65 ?_
          refine bs_ialdN (n := 312) (v := (g_to G i)) dX12_endsIn_66 (H.ss 12 rfl rfl) (by omega) (by decide) (hV.2.2.2.2.2.2.2.1 i (by omega)) ?_
          refine bs_iload_n dX12_endsIn_67 rfl ?_
          refine bs_icmp_neN (tgt := 75) dX12_endsIn_68 (by decide) (by have q0 := g_bd hG (i := i) (by omega); omega) (by have q0 := hp; omega) (fun c68 => ?_) (fun c68 => ?_)
          · refine bs_iconst (v := nI 0) dX12_endsIn_75 (by decide) ?_
            refine bs_iaddN dX12_endsIn_76 ?_
            refine bs_istore dX12_endsIn_77 rfl (by decide) ?_
            refine bs_iincN (n := 1) dX12_endsIn_79 rfl rfl ?_
            refine bs_goto (tgt := 6) dX12_endsIn_82 (by decide) ?_
            refine bs_W.mk [(0, .ref m), (1, .int (nI g)), (2, .int (nI p)), (3, .int (nI S)), (4, .int (nI (g_es G p S (i + 1)))), (5, .int (nI (i + 1)))] ?_ (ih (i + 1) (by omega))
            intro q hq
            simp only [List.mem_cons, List.not_mem_nil, or_false] at hq
            rcases hq with rfl | rfl | rfl | rfl | rfl | rfl
            · rfl
            · rfl
            · rfl
            · rfl
            · show some (Value.int (nI (((g_es G p S i) + 0) + 0))) = some (Value.int (nI (g_es G p S (i + 1))))
              rw [g_es_1 c24, g_if0 c42, g_if0 c68] <;> rfl
            · rfl
          · refine bs_iconst (v := nI 1) dX12_endsIn_71 (by decide) ?_
            refine bs_goto (tgt := 76) dX12_endsIn_72 (by decide) ?_
            refine bs_iaddN dX12_endsIn_76 ?_
            refine bs_istore dX12_endsIn_77 rfl (by decide) ?_
            refine bs_iincN (n := 1) dX12_endsIn_79 rfl rfl ?_
            refine bs_goto (tgt := 6) dX12_endsIn_82 (by decide) ?_
            refine bs_W.mk [(0, .ref m), (1, .int (nI g)), (2, .int (nI p)), (3, .int (nI S)), (4, .int (nI (g_es G p S (i + 1)))), (5, .int (nI (i + 1)))] ?_ (ih (i + 1) (by omega))
            intro q hq
            simp only [List.mem_cons, List.not_mem_nil, or_false] at hq
            rcases hq with rfl | rfl | rfl | rfl | rfl | rfl
            · rfl
            · rfl
            · rfl
            · rfl
            · show some (Value.int (nI (((g_es G p S i) + 0) + 1))) = some (Value.int (nI (g_es G p S (i + 1))))
              rw [g_es_1 c24, g_if0 c42, g_if1 c68] <;> rfl
            · rfl
        · refine bs_iconst (v := nI 1) dX12_endsIn_45 (by decide) ?_
          refine bs_goto (tgt := 50) dX12_endsIn_46 (by decide) ?_
          refine bs_iaddN dX12_endsIn_50 ?_
          refine bs_istore dX12_endsIn_51 rfl (by decide) ?_
          refine bs_iload dX12_endsIn_53 rfl ?_
          refine bs_aload_n dX12_endsIn_55 rfl ?_
          refine bs_getR (b := (m + 12)) dX12_endsIn_56 fX12_43 (H.s 0 rfl rfl rfl) (H.r 0 17 rfl rfl rfl) ?_
          refine bs_bipush (v := nI 24) dX12_endsIn_59 (by decide) ?_
          refine bs_iload_n dX12_endsIn_61 rfl ?_
          refine bs_imulN dX12_endsIn_62 ?_
          refine bs_iload dX12_endsIn_63 rfl ?_
          refine bs_iaddN dX12_endsIn_65 ?_
          refine bs_ialdN (n := 312) (v := (g_to G i)) dX12_endsIn_66 (H.ss 12 rfl rfl) (by omega) (by decide) (hV.2.2.2.2.2.2.2.1 i (by omega)) ?_
          refine bs_iload_n dX12_endsIn_67 rfl ?_
          refine bs_icmp_neN (tgt := 75) dX12_endsIn_68 (by decide) (by have q0 := g_bd hG (i := i) (by omega); omega) (by have q0 := hp; omega) (fun c68 => ?_) (fun c68 => ?_)
          · refine bs_iconst (v := nI 0) dX12_endsIn_75 (by decide) ?_
            refine bs_iaddN dX12_endsIn_76 ?_
            refine bs_istore dX12_endsIn_77 rfl (by decide) ?_
            refine bs_iincN (n := 1) dX12_endsIn_79 rfl rfl ?_
            refine bs_goto (tgt := 6) dX12_endsIn_82 (by decide) ?_
            refine bs_W.mk [(0, .ref m), (1, .int (nI g)), (2, .int (nI p)), (3, .int (nI S)), (4, .int (nI (g_es G p S (i + 1)))), (5, .int (nI (i + 1)))] ?_ (ih (i + 1) (by omega))
            intro q hq
            simp only [List.mem_cons, List.not_mem_nil, or_false] at hq
            rcases hq with rfl | rfl | rfl | rfl | rfl | rfl
            · rfl
            · rfl
            · rfl
            · rfl
            · show some (Value.int (nI (((g_es G p S i) + 1) + 0))) = some (Value.int (nI (g_es G p S (i + 1))))
              rw [g_es_1 c24, g_if1 c42, g_if0 c68] <;> rfl
            · rfl
          · refine bs_iconst (v := nI 1) dX12_endsIn_71 (by decide) ?_
            refine bs_goto (tgt := 76) dX12_endsIn_72 (by decide) ?_
            refine bs_iaddN dX12_endsIn_76 ?_
            refine bs_istore dX12_endsIn_77 rfl (by decide) ?_
            refine bs_iincN (n := 1) dX12_endsIn_79 rfl rfl ?_
            refine bs_goto (tgt := 6) dX12_endsIn_82 (by decide) ?_
            refine bs_W.mk [(0, .ref m), (1, .int (nI g)), (2, .int (nI p)), (3, .int (nI S)), (4, .int (nI (g_es G p S (i + 1)))), (5, .int (nI (i + 1)))] ?_ (ih (i + 1) (by omega))
            intro q hq
            simp only [List.mem_cons, List.not_mem_nil, or_false] at hq
            rcases hq with rfl | rfl | rfl | rfl | rfl | rfl
            · rfl
            · rfl
            · rfl
            · rfl
            · show some (Value.int (nI (((g_es G p S i) + 1) + 1))) = some (Value.int (nI (g_es G p S (i + 1))))
              rw [g_es_1 c24, g_if1 c42, g_if1 c68] <;> rfl
            · rfl
set_option maxHeartbeats 4000000 in
theorem n_endsIn {m nx g : Nat} {sh : bs_Sh} {mu : bs_Mm} {G : bs_G} (H : bs_St (bs_tM m) m sh mu) (hV : mFv m g G mu) (hg : g < 13) (hG : g_ok G) {p S : Nat} (hp : p < 2 ^ 30) (hs : S < 2 ^ 24) : bs_C mX12_endsIn (bs_rm 0 0 0) [.ref m, .int (nI g), .int (nI p), .int (nI S)] nx sh mu (bs_no nx sh mu (.int (nI (g_es G p S (g_nu G))))) := by
  refine bs_ct (by decide +kernel) (Nat.le_of_ble_eq_true rfl) ?_
  refine bs_iconst (v := nI 0) dX12_endsIn_0 (by decide) ?_
  refine bs_istore dX12_endsIn_1 rfl (by decide) ?_
  refine bs_iconst (v := nI 0) dX12_endsIn_3 (by decide) ?_
  refine bs_istore dX12_endsIn_4 rfl (by decide) ?_
  refine bs_W.mk [(0, .ref m), (1, .int (nI g)), (2, .int (nI p)), (3, .int (nI S)), (4, .int (nI (g_es G p S 0))), (5, .int (nI 0))] ?_ (n_endsIn_l H hV hg hG hp hs (g_nu G) 0 (by omega))
  intro q hq
  simp only [List.mem_cons, List.not_mem_nil, or_false] at hq
  rcases hq with rfl | rfl | rfl | rfl | rfl | rfl <;> rfl
