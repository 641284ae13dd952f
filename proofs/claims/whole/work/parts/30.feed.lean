/-! THE TAPE (own): its length, its bytes -/
abbrev bs_Ta : Type := Nat × (Nat → Nat)
/-- one byte more, where it isn't 0; the four of a word -/
def ta_p (T : bs_Ta) (b : Int32) : bs_Ta := if b = 0 then T else (T.1 + 1, bs_fn T.2 T.1 b.toNatClampNeg)
def ta_w (T : bs_Ta) (v : Int32) : bs_Ta := ta_p (ta_p (ta_p (ta_p T (bs_by v 24)) (bs_by v 16)) (bs_by v 8)) (bs_by v 0)
theorem ta_p0 {T : bs_Ta} {b : Int32} (h : b = 0) : ta_p T b = T := if_pos h
theorem ta_p1 {T : bs_Ta} {b : Int32} (h : ¬ b = 0) : ta_p T b = (T.1 + 1, bs_fn T.2 T.1 b.toNatClampNeg) := if_neg h
theorem ta_p_le (T : bs_Ta) (b : Int32) : (ta_p T b).1 ≤ T.1 + 1 := by
  unfold ta_p
  split
  · exact Nat.le_succ _
  · exact Nat.le_refl _
theorem ta_p_cn (T : bs_Ta) (b : Int32) : (ta_p T b).1 = T.1 + bs_zn b := by
  by_cases h : b = 0
  · rw [ta_p0 h, bs_zn0 h]; rfl
  · rw [ta_p1 h, bs_zn1 h]
theorem ta_by (v s : Int32) : ∃ w : Nat, w < 256 ∧ bs_by v s = nI w := by
  obtain ⟨j, hj, e⟩ := pk_andE ((v.toUInt32 >>> (s.toUInt32 &&& Int32.toUInt32 31)).toInt32) (m := 255) 8 (by decide)
  exact ⟨j, hj, e⟩
theorem ta_ch {w : Nat} (h : w < 256) : ((nI w).toUInt32 % 65536).toInt32 = nI w := by
  have : ∀ w, w < 256 → ((nI w).toUInt32 % 65536).toInt32 = nI w := by decide +kernel
  exact this w h
/-- the tape of x is T, seen from mu -/
def ta_tp (x : Nat) (T : bs_Ta) (mu mu' : bs_Mm) : Prop := (∀ a, a ≠ x + 5 → a ≠ x + 6 → mu' a = mu a) ∧ bs_iv (mu' (x + 5) 1) = nI T.1 ∧ bs_rv (mu' (x + 5) 0) = some (x + 6) ∧ bs_rw mu' (x + 6) T.1 T.2
theorem ta_tp_put {x : Nat} {T : bs_Ta} {mu mu' : bs_Mm} (h : ta_tp x T mu mu') (v s : Int32) : ta_tp x (T.1 + 1, bs_fn T.2 T.1 (bs_by v s).toNatClampNeg) mu (bs_up (bs_up mu' (x + 6) T.1 (.int (((bs_by v s).toUInt32 % 65536).toInt32))) (x + 5) 1 (.int (nI (T.1 + 1)))) := by
  obtain ⟨w, hw, e⟩ := ta_by v s
  refine ⟨fun a h1 h2 => by rw [bs_up_f h1, bs_up_f h2]; exact h.1 a h1 h2, by rw [bs_up_eq]; rfl, ?_, ?_⟩
  · rw [bs_up_j (by omega), bs_up_f (by omega)]
    exact h.2.2.1
  · rw [e, ta_ch hw, nI_clamp (by omega)]
    exact (h.2.2.2.push w).of (bs_up_f (by omega))
set_option maxHeartbeats 4000000 in
theorem t_pt_step {x nx : Nat} {sh : bs_Sh} {mu mu' : bs_Mm} {Ph : bs_Po} (H5 : (sh (x + 5)).1 = 10) (H6 : sh (x + 6) = (13, 200)) (v : Int32) (L : bs_Ta) (s s' : Int32) (hL : ¬ bs_by v s = 0 → L.1 < 200) (h : ta_tp x L mu mu') (hs : ¬ s < 0) (hs' : s + Int32.ofInt (-8) = s') (lo : bs_L) (hlo : ∀ q ∈ ([(0, .ref (x + 5)), (1, .int v), (2, .int s)] : List (Nat × Value)), lo q.1 = some q.2) (k : ∀ mu'', ta_tp x (ta_p L (bs_by v s)) mu mu'' → ∀ lo', (∀ q ∈ ([(0, .ref (x + 5)), (1, .int v), (2, .int s')] : List (Nat × Value)), lo' q.1 = some q.2) → bs_W Ph mX10_put (bs_rm 0 0 0) 3 lo' [] 0 0 nx sh mu'') : bs_W Ph mX10_put (bs_rm 0 0 0) 3 lo [] 0 0 nx sh mu' := by
  refine bs_W.mk [(0, .ref (x + 5)), (1, .int v), (2, .int s)] hlo ?_
  refine bs_iload_n dX10_put_3 rfl ?_
  refine bs_if_lt (tgt := 56) dX10_put_4 (by decide) (fun c4 => ?_) (fun c4 => ?_)
  · exact absurd c4 hs
  · refine bs_iload_n dX10_put_7 rfl ?_
    refine bs_iload_n dX10_put_8 rfl ?_
    refine bs_iushr dX10_put_9 ?_
    refine bs_sipush (v := 255) dX10_put_10 (by decide) ?_
    refine bs_iand dX10_put_13 ?_
    refine bs_istore_n dX10_put_14 rfl (by decide) ?_
    refine bs_iload_n dX10_put_15 rfl ?_
    refine bs_if_eq (tgt := 50) dX10_put_16 (by decide) (fun c16 => ?_) (fun c16 => ?_)
    · refine bs_iinc dX10_put_50 rfl rfl ?_
      refine bs_goto (tgt := 3) dX10_put_53 (by decide) ?_
      refine k _ (by rw [ta_p0 (show bs_by v s = 0 from c16)]; exact h) _ ?_
      intro q hq
      simp only [List.mem_cons, List.not_mem_nil, or_false] at hq
      rcases hq with rfl | rfl | rfl
      · rfl
      · rfl
      · show some (Value.int (s + Int32.ofInt (-8))) = _
        rw [hs']
    · refine bs_aload_n dX10_put_19 rfl ?_
      refine bs_getI dX10_put_20 fX10_15 H5 ?_
      refine bs_topq (x' := nI L.1) (h.2.1) ?_
      refine bs_sipush (v := 200) dX10_put_23 (by decide) ?_
      refine bs_icmp_ge (tgt := 50) dX10_put_26 (by decide) (fun c26 => ?_) (fun c26 => ?_)
      · exact absurd c26 (nI_ge (hL c16) (by decide))
      · refine bs_aload_n dX10_put_29 rfl ?_
        refine bs_getR dX10_put_30 fX10_9 H5 (b := x + 6) h.2.2.1 ?_
        refine bs_aload_n dX10_put_33 rfl ?_
        refine bs_getI dX10_put_34 fX10_15 H5 ?_
        refine bs_topq (x' := nI L.1) (h.2.1) ?_
        refine bs_iload_n dX10_put_37 rfl ?_
        refine bs_i2c dX10_put_38 ?_
        refine bs_cast dX10_put_39 H6 (bs_ix_n (j := L.1) (hL c16) (by decide)) (pk_nc _) ?_
        refine bs_aload_n dX10_put_40 rfl ?_
        refine bs_dup dX10_put_41 rfl ?_
        refine bs_getI dX10_put_42 fX10_15 H5 ?_
        refine bs_topq (x' := nI L.1) (by rw [bs_up_f (by omega)]; exact h.2.1) ?_
        refine bs_iconst (v := 1) dX10_put_45 (by decide) ?_
        refine bs_iadd dX10_put_46 ?_
        refine bs_topq (x' := nI (L.1 + 1)) (nI_1 L.1) ?_
        refine bs_putI dX10_put_47 pX10_15 H5 ?_
        refine bs_iinc dX10_put_50 rfl rfl ?_
        refine bs_goto (tgt := 3) dX10_put_53 (by decide) ?_
        refine k _ (by rw [ta_p1 (show ¬ bs_by v s = 0 from c16)]; exact ta_tp_put h v s) _ ?_
        intro q hq
        simp only [List.mem_cons, List.not_mem_nil, or_false] at hq
        rcases hq with rfl | rfl | rfl
        · rfl
        · rfl
        · show some (Value.int (s + Int32.ofInt (-8))) = _
          rw [hs']
set_option maxHeartbeats 4000000 in
theorem t_put {x nx : Nat} {sh : bs_Sh} {mu mu' : bs_Mm} (H5 : (sh (x + 5)).1 = 10) (H6 : sh (x + 6) = (13, 200)) (v : Int32) (L : bs_Ta) (hL : L.1 + bs_cn v ≤ 200) (h : ta_tp x L mu mu') : bs_C mX10_put (bs_rm 0 0 0) [.ref (x + 5), .int v] nx sh mu' (fun r nx' sh' mu'' => r = none ∧ nx' = nx ∧ sh' = sh ∧ ta_tp x (ta_w L v) mu mu'') := by
  have z1 := ta_p_cn L (bs_by v 24)
  have z2 := ta_p_cn (ta_p L (bs_by v 24)) (bs_by v 16)
  have z3 := ta_p_cn (ta_p (ta_p L (bs_by v 24)) (bs_by v 16)) (bs_by v 8)
  unfold bs_cn at hL
  refine bs_ct (by decide +kernel) (Nat.le_of_ble_eq_true rfl) ?_
  refine bs_bipush (v := 24) dX10_put_0 (by decide) ?_
  refine bs_istore_n dX10_put_2 rfl (by decide) ?_
  refine t_pt_step H5 H6 v L 24 16 (fun y => by have := bs_zn1 y; omega) h (by decide) (by decide) _ ?_ (fun mu1 h1 lo1 hl1 => ?_)
  · intro q hq
    simp only [List.mem_cons, List.not_mem_nil, or_false] at hq
    rcases hq with rfl | rfl | rfl <;> rfl
  refine t_pt_step H5 H6 v _ 16 8 (fun y => by have := bs_zn1 y; omega) h1 (by decide) (by decide) _ hl1 (fun mu2 h2 lo2 hl2 => ?_)
  refine t_pt_step H5 H6 v _ 8 0 (fun y => by have := bs_zn1 y; omega) h2 (by decide) (by decide) _ hl2 (fun mu3 h3 lo3 hl3 => ?_)
  refine t_pt_step H5 H6 v _ 0 (-8) (fun y => by have := bs_zn1 y; omega) h3 (by decide) (by decide) _ hl3 (fun mu4 h4 lo4 hl4 => ?_)
  refine bs_W.mk [(0, .ref (x + 5)), (1, .int v), (2, .int (-8))] hl4 ?_
  refine bs_iload_n dX10_put_3 rfl ?_
  refine bs_if_lt (tgt := 56) dX10_put_4 (by decide) (fun c4 => ?_) (fun c4 => ?_)
  · refine bs_vret dX10_put_56 rfl (by decide) (by decide) ⟨rfl, rfl, rfl, ?_⟩
    exact h4
  · exact absurd (by decide) c4
