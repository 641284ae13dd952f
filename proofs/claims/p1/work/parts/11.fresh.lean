/-- storing where nothing is known of the place before -/
theorem bs_has.st0 {ls ls' : Array Slot} {n j : Nat} {lo : bs_L} {v : Value} (h0 : bs_has ls n lo) (hk : lo j = none)
    (h : lv_has ls' n ((j + 1, v) :: (bs_li n lo).filter (fun q => !(q.1 == j + 1) && !(q.1 + 1 == j + 1 && q.2.category == 2)))) : bs_has ls' n (bs_st lo (j + 1) v) := by
  refine ⟨h.1, h.2.1, fun i w hi => ?_⟩
  by_cases hji : i = j + 1
  · subst hji
    have : w = v := by simpa [bs_st] using hi.symm
    subst this
    exact h.2.2 _ List.mem_cons_self
  · have hb : Nat.beq i (j + 1) = false := by
      cases hq : Nat.beq i (j + 1) with
      | true => exact absurd (Nat.eq_of_beq_eq_true hq) hji
      | false => rfl
    have hj' : lo i = some w := by simpa [bs_st, hb] using hi
    refine h.2.2 (i, w) (List.mem_cons_of_mem _ (List.mem_filter.mpr ⟨bs_li_in (h0.lt hj') hj', ?_⟩))
    have h1 : (i == j + 1) = false := by simpa using hji
    simp only [h1, Bool.not_false, Bool.true_and, Bool.not_eq_true', Bool.and_eq_false_iff]
    left
    have hij : i ≠ j := fun z => by subst z; rw [hk] at hj'; cases hj'
    simpa using hij
section ST0
variable {Z : bs_Z} {X : bs_M} {rm : Room} {pc : Nat} {lo : bs_L} {rest : List Value} {nc ns nx : Nat} {sh : bs_Sh} {mu : bs_Mm}
theorem bs_istore0 {j : Nat} {x : Int32} (d : decode X.2.1 pc = .ok (.istore (j + 1), 2)) (hok : lo j = none) (hn : j + 1 < X.2.2.1) (k : bs_V Z X rm (pc + 2) (bs_st lo (j + 1) (.int x)) rest nc ns nx sh mu) : bs_V Z X rm pc lo (.int x :: rest) nc ns nx sh mu := fun p l e s m args below meth c D dA A F hE H locs ls hP hS hl => lv_istore F.1 F.2.1 d hl.lv hn rfl (fun ls' h' => k p l e s m args below meth c D dA A F hE H locs ls' hP hS (hl.st0 hok h'))
end ST0
/-- an answer; what lies outside of the cells of x stays -/
def bs_mo (x nx : Nat) (sh : bs_Sh) (mu : bs_Mm) (v : Value) : bs_Po := fun r nx' sh' mu' => r = some v ∧ nx' = nx ∧ sh' = sh ∧ ∀ a, a < x ∨ x + 159 ≤ a → mu' a = mu a
def bs_mv (x nx : Nat) (sh : bs_Sh) (mu : bs_Mm) : bs_Po := fun r nx' sh' mu' => r = none ∧ nx' = nx ∧ sh' = sh ∧ ∀ a, a < x ∨ x + 159 ≤ a → mu' a = mu a
theorem bs_fi_f {mu : bs_Mm} {a n b : Nat} {v : Value} (h : b ≠ a) : bs_fi mu a n v b = mu b := by funext j; simp [bs_fi, h]
theorem bs_cp_f {mu : bs_Mm} {a0 a1 s d n b : Nat} (h : b ≠ a1) : bs_cp mu a0 a1 s d n b = mu b := by funext j; simp [bs_cp, h]
set_option maxHeartbeats 4000000 in
set_option maxRecDepth 100000 in
theorem p_count {x nx : Nat} {sh : bs_Sh} {mu : bs_Mm} (G : bs_Fr (bs_tS x) x sh mu) (a : Int32) : bs_C mX11_count (bs_rm 10 0 0) [.ref x, .int a] nx sh mu (bs_no nx sh mu (.int (bs_ck a))) := by
  have H := G.st
  have hfc : bs_iv (mu x 13) = 0 := G.i 0 13 rfl rfl rfl
  have hrc : bs_iv (mu x 14) = 0 := G.i 0 14 rfl rfl rfl
  refine bs_ct (by decide +kernel) (Nat.le_of_ble_eq_true rfl) ?_
  refine bs_iload_n dX11_count_0 rfl ?_
  by_cases hsw : (a).toInt < 0 ∨ 4 < (a).toInt
  · refine bs_tableOut (tgt := 70) dX11_count_1 hsw (by decide) ?_
    refine bs_iconst (v := (-1)) dX11_count_70 (by decide) ?_
    exact bs_iret dX11_count_71 rfl (by decide) (by decide) ⟨by rw [show bs_ck a = -1 from bs_ck_n hsw], rfl, rfl, rfl⟩
  · obtain ⟨jsw, hjsw, ejsw⟩ := bs_swi hsw (by decide)
    have hjc : jsw = 0 ∨ jsw = 1 ∨ jsw = 2 ∨ jsw = 3 ∨ jsw = 4 := by omega
    rcases hjc with rfl | rfl | rfl | rfl | rfl
    · refine bs_tableIn (off := 35) (tgt := 36) dX11_count_1 (fun h => hsw (Or.inl h)) (fun h => hsw (Or.inr h)) (by rw [ejsw]; rfl) (by decide) ?_
      refine bs_aload_n dX11_count_36 rfl ?_
      refine bs_getR dX11_count_37 fX11_12 (H.s 0 rfl rfl rfl) (H.r 0 0 rfl rfl rfl) ?_
      refine bs_getI dX11_count_40 fX11_109 (H.s 1 rfl rfl rfl) ?_
      refine bs_topq (x' := 0) (G.i 1 3 rfl rfl rfl) ?_
      exact bs_iret dX11_count_43 rfl (by decide) (by decide) ⟨by rw [show bs_ck a = 0 from bs_ck_0 hsw], rfl, rfl, rfl⟩
    · refine bs_tableIn (off := 43) (tgt := 44) dX11_count_1 (fun h => hsw (Or.inl h)) (fun h => hsw (Or.inr h)) (by rw [ejsw]; rfl) (by decide) ?_
      refine bs_aload_n dX11_count_44 rfl ?_
      refine bs_getI dX11_count_45 fX11_131 (H.s 0 rfl rfl rfl) ?_
      refine bs_topq (x' := 0) (G.i 0 13 rfl rfl rfl) ?_
      exact bs_iret dX11_count_48 rfl (by decide) (by decide) ⟨by rw [show bs_ck a = 0 from bs_ck_0 hsw], rfl, rfl, rfl⟩
    · refine bs_tableIn (off := 48) (tgt := 49) dX11_count_1 (fun h => hsw (Or.inl h)) (fun h => hsw (Or.inr h)) (by rw [ejsw]; rfl) (by decide) ?_
      refine bs_aload_n dX11_count_49 rfl ?_
      refine bs_getR dX11_count_50 fX11_80 (H.s 0 rfl rfl rfl) (H.r 0 10 rfl rfl rfl) ?_
      refine bs_getI dX11_count_53 fX11_363 (H.s 50 rfl rfl rfl) ?_
      refine bs_topq (x' := 0) (G.i 50 3 rfl rfl rfl) ?_
      exact bs_iret dX11_count_56 rfl (by decide) (by decide) ⟨by rw [show bs_ck a = 0 from bs_ck_0 hsw], rfl, rfl, rfl⟩
    · refine bs_tableIn (off := 56) (tgt := 57) dX11_count_1 (fun h => hsw (Or.inl h)) (fun h => hsw (Or.inr h)) (by rw [ejsw]; rfl) (by decide) ?_
      refine bs_aload_n dX11_count_57 rfl ?_
      refine bs_getR dX11_count_58 fX11_19 (H.s 0 rfl rfl rfl) (H.r 0 1 rfl rfl rfl) ?_
      refine bs_getI dX11_count_61 fX11_101 (H.s 5 rfl rfl rfl) ?_
      refine bs_topq (x' := 0) (G.i 5 1 rfl rfl rfl) ?_
      exact bs_iret dX11_count_64 rfl (by decide) (by decide) ⟨by rw [show bs_ck a = 0 from bs_ck_0 hsw], rfl, rfl, rfl⟩
    · refine bs_tableIn (off := 64) (tgt := 65) dX11_count_1 (fun h => hsw (Or.inl h)) (fun h => hsw (Or.inr h)) (by rw [ejsw]; rfl) (by decide) ?_
      refine bs_aload_n dX11_count_65 rfl ?_
      refine bs_getI dX11_count_66 fX11_134 (H.s 0 rfl rfl rfl) ?_
      refine bs_topq (x' := 0) (G.i 0 14 rfl rfl rfl) ?_
      exact bs_iret dX11_count_69 rfl (by decide) (by decide) ⟨by rw [show bs_ck a = 0 from bs_ck_0 hsw], rfl, rfl, rfl⟩
set_option maxHeartbeats 4000000 in
set_option maxRecDepth 100000 in
theorem p_end {x nx : Nat} {sh : bs_Sh} {mu : bs_Mm} (G : bs_Fr (bs_tS x) x sh mu) (a : Int32) : bs_C mX11_end (bs_rm 10 0 0) [.ref x, .int a] nx sh mu (bs_mo x nx sh mu (.int (bs_ek a))) := by
  have H := G.st
  have hfc : bs_iv (mu x 13) = 0 := G.i 0 13 rfl rfl rfl
  have hrc : bs_iv (mu x 14) = 0 := G.i 0 14 rfl rfl rfl
  refine bs_ct (by decide +kernel) (Nat.le_of_ble_eq_true rfl) ?_
  refine bs_iload_n dX11_end_0 rfl ?_
  refine bs_if_lt (tgt := 15) dX11_end_1 (by decide) (fun c1 => ?_) (fun c1 => ?_)
  · refine bs_iconst (v := 0) dX11_end_15 (by decide) ?_
    exact bs_zret dX11_end_16 rfl (Or.inl rfl) (by decide) (by decide) ⟨by rw [bs_ek_a c1], rfl, rfl, fun _ _ => rfl⟩
  · refine bs_iload_n dX11_end_4 rfl ?_
    refine bs_aload_n dX11_end_5 rfl ?_
    refine bs_getR dX11_end_6 fX11_19 (H.s 0 rfl rfl rfl) (H.r 0 1 rfl rfl rfl) ?_
    refine bs_getI dX11_end_9 fX11_101 (H.s 5 rfl rfl rfl) ?_
    refine bs_topq (x' := 0) (G.i 5 1 rfl rfl rfl) ?_
    refine bs_icmp_le (tgt := 17) dX11_end_12 (by decide) (fun c12 => ?_) (fun c12 => ?_)
    · refine bs_aload_n dX11_end_17 rfl ?_
      refine bs_getR dX11_end_18 fX11_19 (H.s 0 rfl rfl rfl) (H.r 0 1 rfl rfl rfl) ?_
      refine bs_iload_n dX11_end_21 rfl ?_
      refine bs_putI dX11_end_22 pX11_101 (H.s 5 rfl rfl rfl) ?_
      refine bs_iconst (v := 1) dX11_end_25 (by decide) ?_
      exact bs_zret dX11_end_26 rfl (Or.inr rfl) (by decide) (by decide) ⟨by rw [bs_ek_1 c1 c12], rfl, rfl, fun z hz => by simp (disch := omega) only [bs_up_f, bs_fi_f, bs_cp_f]⟩
    · refine bs_iconst (v := 0) dX11_end_15 (by decide) ?_
      exact bs_zret dX11_end_16 rfl (Or.inl rfl) (by decide) (by decide) ⟨by rw [bs_ek_b c12], rfl, rfl, fun _ _ => rfl⟩
set_option maxHeartbeats 4000000 in
set_option maxRecDepth 100000 in
theorem p_pace {x nx : Nat} {sh : bs_Sh} {mu : bs_Mm} (G : bs_Fr (bs_tS x) x sh mu) (a b : Int32) : bs_C mX11_pace (bs_rm 10 0 0) [.ref x, .int a, .int b] nx sh mu (bs_mo x nx sh mu (.int (bs_pk a b))) := by
  have H := G.st
  have hfc : bs_iv (mu x 13) = 0 := G.i 0 13 rfl rfl rfl
  have hrc : bs_iv (mu x 14) = 0 := G.i 0 14 rfl rfl rfl
  refine bs_ct (by decide +kernel) (Nat.le_of_ble_eq_true rfl) ?_
  refine bs_iload_n dX11_pace_0 rfl ?_
  refine bs_iconst (v := 1) dX11_pace_1 (by decide) ?_
  refine bs_icmp_lt (tgt := 21) dX11_pace_2 (by decide) (fun c2 => ?_) (fun c2 => ?_)
  · refine bs_iconst (v := 0) dX11_pace_21 (by decide) ?_
    exact bs_zret dX11_pace_22 rfl (Or.inl rfl) (by decide) (by decide) ⟨by rw [show bs_pk a b = 0 from bs_pk_a (bs_in_a c2)], rfl, rfl, fun _ _ => rfl⟩
  · refine bs_iload_n dX11_pace_5 rfl ?_
    refine bs_bipush (v := 9) dX11_pace_6 (by decide) ?_
    refine bs_icmp_gt (tgt := 21) dX11_pace_8 (by decide) (fun c8 => ?_) (fun c8 => ?_)
    · refine bs_iconst (v := 0) dX11_pace_21 (by decide) ?_
      exact bs_zret dX11_pace_22 rfl (Or.inl rfl) (by decide) (by decide) ⟨by rw [show bs_pk a b = 0 from bs_pk_a (bs_in_b c8)], rfl, rfl, fun _ _ => rfl⟩
    · refine bs_iload_n dX11_pace_11 rfl ?_
      refine bs_if_lt (tgt := 21) dX11_pace_12 (by decide) (fun c12 => ?_) (fun c12 => ?_)
      · refine bs_iconst (v := 0) dX11_pace_21 (by decide) ?_
        exact bs_zret dX11_pace_22 rfl (Or.inl rfl) (by decide) (by decide) ⟨by rw [show bs_pk a b = 0 from bs_pk_b (bs_in_a c12)], rfl, rfl, fun _ _ => rfl⟩
      · refine bs_iload_n dX11_pace_15 rfl ?_
        refine bs_bipush (v := 9) dX11_pace_16 (by decide) ?_
        refine bs_icmp_le (tgt := 23) dX11_pace_18 (by decide) (fun c18 => ?_) (fun c18 => ?_)
        · refine bs_aload_n dX11_pace_23 rfl ?_
          refine bs_getR dX11_pace_24 fX11_80 (H.s 0 rfl rfl rfl) (H.r 0 10 rfl rfl rfl) ?_
          refine bs_iload_n dX11_pace_27 rfl ?_
          refine bs_putI dX11_pace_28 pX11_296 (H.s 50 rfl rfl rfl) ?_
          refine bs_aload_n dX11_pace_31 rfl ?_
          refine bs_getR dX11_pace_32 fX11_80 (H.s 0 rfl rfl rfl) (b := x + 50) (by rw [bs_up_f (by omega)]; exact H.r 0 10 rfl rfl rfl) ?_
          refine bs_iload_n dX11_pace_35 rfl ?_
          refine bs_putI dX11_pace_36 pX11_299 (H.s 50 rfl rfl rfl) ?_
          refine bs_iconst (v := 1) dX11_pace_39 (by decide) ?_
          exact bs_zret dX11_pace_40 rfl (Or.inr rfl) (by decide) (by decide) ⟨by rw [show bs_pk a b = 1 from bs_pk_1 (by rw [bs_in_1 c2 c8]; decide) (by rw [bs_in_1 c12 (fun h => absurd (Int32.le_iff_toInt_le.mp c18) (Int.not_le.mpr (Int32.lt_iff_toInt_lt.mp h)))]; decide)], rfl, rfl, fun z hz => by simp (disch := omega) only [bs_up_f, bs_fi_f, bs_cp_f]⟩
        · refine bs_iconst (v := 0) dX11_pace_21 (by decide) ?_
          exact bs_zret dX11_pace_22 rfl (Or.inl rfl) (by decide) (by decide) ⟨by rw [show bs_pk a b = 0 from bs_pk_b (bs_in_b (Int32.not_le.mp c18))], rfl, rfl, fun _ _ => rfl⟩
set_option maxHeartbeats 4000000 in
set_option maxRecDepth 100000 in
theorem s_hasN {x nx : Nat} {sh : bs_Sh} {mu : bs_Mm} (G : bs_Fr (bs_tS x) x sh mu) (a : Int32) : bs_C mX8_has (bs_rm 0 0 0) [.ref (x + 1), .int a] nx sh mu (bs_no nx sh mu (.int 0)) := by
  have H := G.st
  have hfc : bs_iv (mu x 13) = 0 := G.i 0 13 rfl rfl rfl
  have hrc : bs_iv (mu x 14) = 0 := G.i 0 14 rfl rfl rfl
  refine bs_ct (by decide +kernel) (Nat.le_of_ble_eq_true rfl) ?_
  refine bs_iload_n dX8_has_0 rfl ?_
  refine bs_if_lt (tgt := 16) dX8_has_1 (by decide) (fun c1 => ?_) (fun c1 => ?_)
  · refine bs_iconst (v := 0) dX8_has_16 (by decide) ?_
    exact bs_zret dX8_has_17 rfl (Or.inl rfl) (by decide) (by decide) ⟨rfl, rfl, rfl, rfl⟩
  · refine bs_iload_n dX8_has_4 rfl ?_
    refine bs_aload_n dX8_has_5 rfl ?_
    refine bs_getI dX8_has_6 fX8_21 (H.s 1 rfl rfl rfl) ?_
    refine bs_topq (x' := 0) (G.i 1 3 rfl rfl rfl) ?_
    refine bs_icmp_ge (tgt := 16) dX8_has_9 (by decide) (fun c9 => ?_) (fun c9 => ?_)
    · refine bs_iconst (v := 0) dX8_has_16 (by decide) ?_
      exact bs_zret dX8_has_17 rfl (Or.inl rfl) (by decide) (by decide) ⟨rfl, rfl, rfl, rfl⟩
    · exact absurd (Int32.not_lt.mp c1) c9
set_option maxHeartbeats 4000000 in
set_option maxRecDepth 100000 in
theorem p_stock {x nx : Nat} {sh : bs_Sh} {mu : bs_Mm} (G : bs_Fr (bs_tS x) x sh mu) (a b : Int32) : bs_C mX11_stock (bs_rm 10 0 0) [.ref x, .int a, .int b] nx sh mu (bs_no nx sh mu (.int 0)) := by
  have H := G.st
  have hfc : bs_iv (mu x 13) = 0 := G.i 0 13 rfl rfl rfl
  have hrc : bs_iv (mu x 14) = 0 := G.i 0 14 rfl rfl rfl
  refine bs_ct (by decide +kernel) (Nat.le_of_ble_eq_true rfl) ?_
  refine bs_aload_n dX11_stock_0 rfl ?_
  refine bs_getR dX11_stock_1 fX11_12 (H.s 0 rfl rfl rfl) (H.r 0 0 rfl rfl rfl) ?_
  refine bs_iload_n dX11_stock_4 rfl ?_
  refine bs_callV dX11_stock_5 qX11_277 (s_hasN G _) rfl (H.s 1 rfl rfl rfl) rfl (Nat.le_of_ble_eq_true rfl) ⟨⟨by decide, by decide⟩, by decide, by decide⟩ (fun v1 nx1 sh1 mu1 hp1 => ?_)
  obtain ⟨rfl, rfl, rfl, rfl⟩ := hp1
  refine bs_if_eq (tgt := 21) dX11_stock_8 (by decide) (fun c8 => ?_) (fun c8 => ?_)
  · refine bs_iconst (v := 0) dX11_stock_21 (by decide) ?_
    exact bs_zret dX11_stock_22 rfl (Or.inl rfl) (by decide) (by decide) ⟨rfl, rfl, rfl, rfl⟩
  · exact absurd rfl c8
set_option maxHeartbeats 4000000 in
set_option maxRecDepth 100000 in
theorem s_clearN {x nx : Nat} {sh : bs_Sh} {mu : bs_Mm} (G : bs_Fr (bs_tS x) x sh mu) : bs_C mX9_clear (bs_rm 0 0 0) [.ref (x + 50)] nx sh mu (bs_mo x nx sh mu (.int 0)) := by
  have H := G.st
  have hfc : bs_iv (mu x 13) = 0 := G.i 0 13 rfl rfl rfl
  have hrc : bs_iv (mu x 14) = 0 := G.i 0 14 rfl rfl rfl
  refine bs_ct (by decide +kernel) (Nat.le_of_ble_eq_true rfl) ?_
  refine bs_aload_n dX9_clear_0 rfl ?_
  refine bs_getI dX9_clear_1 fX9_46 (H.s 50 rfl rfl rfl) ?_
  refine bs_topq (x' := 0) (G.i 50 3 rfl rfl rfl) ?_
  refine bs_istore_n dX9_clear_4 rfl (by decide) ?_
  refine bs_aload_n dX9_clear_5 rfl ?_
  refine bs_iconst (v := 0) dX9_clear_6 (by decide) ?_
  refine bs_putI dX9_clear_7 pX9_46 (H.s 50 rfl rfl rfl) ?_
  refine bs_aload_n dX9_clear_10 rfl ?_
  refine bs_iconst (v := 0) dX9_clear_11 (by decide) ?_
  refine bs_putI dX9_clear_12 pX9_49 (H.s 50 rfl rfl rfl) ?_
  refine bs_iload_n dX9_clear_15 rfl ?_
  exact bs_iret dX9_clear_16 rfl (by decide) (by decide) ⟨rfl, rfl, rfl, fun z hz => by simp (disch := omega) only [bs_up_f, bs_fi_f, bs_cp_f]⟩
set_option maxHeartbeats 4000000 in
set_option maxRecDepth 100000 in
theorem p_close {x nx : Nat} {sh : bs_Sh} {mu : bs_Mm} (G : bs_Fr (bs_tS x) x sh mu) : bs_C mX11_close (bs_rm 10 0 0) [.ref x] nx sh mu (bs_mo x nx sh mu (.int 0)) := by
  have H := G.st
  have hfc : bs_iv (mu x 13) = 0 := G.i 0 13 rfl rfl rfl
  have hrc : bs_iv (mu x 14) = 0 := G.i 0 14 rfl rfl rfl
  refine bs_ct (by decide +kernel) (Nat.le_of_ble_eq_true rfl) ?_
  refine bs_aload_n dX11_close_0 rfl ?_
  refine bs_getR dX11_close_1 fX11_80 (H.s 0 rfl rfl rfl) (H.r 0 10 rfl rfl rfl) ?_
  refine bs_callV dX11_close_4 qX11_305 (s_clearN G) rfl (H.s 50 rfl rfl rfl) rfl (Nat.le_of_ble_eq_true rfl) ⟨⟨by decide, by decide⟩, by decide, by decide⟩ (fun v1 nx1 sh1 mu1 hp1 => ?_)
  obtain ⟨rfl, rfl, rfl, hfr⟩ := hp1
  exact bs_iret dX11_close_7 rfl (by decide) (by decide) ⟨rfl, rfl, rfl, hfr⟩
def bs_sk (a b e : Int32) : Int32 := if bs_in a 5 200 = 1 ∧ bs_in b 0 9 = 1 ∧ bs_in e 0 99 = 1 then 0 else -1
theorem bs_sk_a {a b e : Int32} (h : bs_in a 5 200 = 0) : bs_sk a b e = -1 := if_neg fun z => by rw [h] at z; exact absurd z.1 (by decide)
theorem bs_sk_b {a b e : Int32} (h : bs_in b 0 9 = 0) : bs_sk a b e = -1 := if_neg fun z => by rw [h] at z; exact absurd z.2.1 (by decide)
theorem bs_sk_c {a b e : Int32} (h : bs_in e 0 99 = 0) : bs_sk a b e = -1 := if_neg fun z => by rw [h] at z; exact absurd z.2.2 (by decide)
theorem bs_sk_1 {a b e : Int32} (h1 : ¬ bs_in a 5 200 = 0) (h2 : ¬ bs_in b 0 9 = 0) (h3 : ¬ bs_in e 0 99 = 0) : bs_sk a b e = 0 := if_pos ⟨(bs_in_z _ _ _).resolve_left h1, (bs_in_z _ _ _).resolve_left h2, (bs_in_z _ _ _).resolve_left h3⟩
theorem bs_in_2 {v lw hi : Int32} (h1 : ¬ v < lw) (h2 : v ≤ hi) : ¬ bs_in v lw hi = 0 := by
  rw [bs_in_1 h1 (fun h => absurd (Int32.le_iff_toInt_le.mp h2) (Int.not_le.mpr (Int32.lt_iff_toInt_lt.mp h)))]
  decide
theorem bs_in_3 {v lw hi : Int32} (h1 : ¬ v < lw) (h2 : ¬ hi < v) : ¬ bs_in v lw hi = 0 := by
  rw [bs_in_1 h1 h2]
  decide
set_option maxHeartbeats 4000000 in
set_option maxRecDepth 100000 in
theorem s_makeN {x nx : Nat} {sh : bs_Sh} {mu : bs_Mm} (G : bs_Fr (bs_tS x) x sh mu) (a b e : Int32) : bs_C mX8_make (bs_rm 0 0 0) [.ref (x + 1), .int a, .int b, .int e] nx sh mu (bs_mo x nx sh mu (.int (bs_sk a b e))) := by
  have H := G.st
  have hfc : bs_iv (mu x 13) = 0 := G.i 0 13 rfl rfl rfl
  have hrc : bs_iv (mu x 14) = 0 := G.i 0 14 rfl rfl rfl
  refine bs_ct (by decide +kernel) (Nat.le_of_ble_eq_true rfl) ?_
  refine bs_iload_n dX8_make_0 rfl ?_
  refine bs_iconst (v := 5) dX8_make_1 (by decide) ?_
  refine bs_icmp_lt (tgt := 22) dX8_make_2 (by decide) (fun c2 => ?_) (fun c2 => ?_)
  · refine bs_iconst (v := (-1)) dX8_make_22 (by decide) ?_
    exact bs_iret dX8_make_23 rfl (by decide) (by decide) ⟨by rw [bs_sk_a (bs_in_a c2)], rfl, rfl, fun _ _ => rfl⟩
  · refine bs_iload_n dX8_make_5 rfl ?_
    refine bs_sipush (v := 200) dX8_make_6 (by decide) ?_
    refine bs_icmp_gt (tgt := 22) dX8_make_9 (by decide) (fun c9 => ?_) (fun c9 => ?_)
    · refine bs_iconst (v := (-1)) dX8_make_22 (by decide) ?_
      exact bs_iret dX8_make_23 rfl (by decide) (by decide) ⟨by rw [bs_sk_a (bs_in_b c9)], rfl, rfl, fun _ _ => rfl⟩
    · refine bs_iload_n dX8_make_12 rfl ?_
      refine bs_if_lt (tgt := 22) dX8_make_13 (by decide) (fun c13 => ?_) (fun c13 => ?_)
      · refine bs_iconst (v := (-1)) dX8_make_22 (by decide) ?_
        exact bs_iret dX8_make_23 rfl (by decide) (by decide) ⟨by rw [bs_sk_b (bs_in_a c13)], rfl, rfl, fun _ _ => rfl⟩
      · refine bs_iload_n dX8_make_16 rfl ?_
        refine bs_bipush (v := 9) dX8_make_17 (by decide) ?_
        refine bs_icmp_le (tgt := 24) dX8_make_19 (by decide) (fun c19 => ?_) (fun c19 => ?_)
        · refine bs_iload_n dX8_make_24 rfl ?_
          refine bs_if_lt (tgt := 43) dX8_make_25 (by decide) (fun c25 => ?_) (fun c25 => ?_)
          · refine bs_iconst (v := (-1)) dX8_make_43 (by decide) ?_
            exact bs_iret dX8_make_44 rfl (by decide) (by decide) ⟨by rw [bs_sk_c (bs_in_a c25)], rfl, rfl, fun _ _ => rfl⟩
          · refine bs_iload_n dX8_make_28 rfl ?_
            refine bs_bipush (v := 99) dX8_make_29 (by decide) ?_
            refine bs_icmp_gt (tgt := 43) dX8_make_31 (by decide) (fun c31 => ?_) (fun c31 => ?_)
            · refine bs_iconst (v := (-1)) dX8_make_43 (by decide) ?_
              exact bs_iret dX8_make_44 rfl (by decide) (by decide) ⟨by rw [bs_sk_c (bs_in_b c31)], rfl, rfl, fun _ _ => rfl⟩
            · refine bs_aload_n dX8_make_34 rfl ?_
              refine bs_getI dX8_make_35 fX8_21 (H.s 1 rfl rfl rfl) ?_
              refine bs_topq (x' := 0) (G.i 1 3 rfl rfl rfl) ?_
              refine bs_bipush (v := 6) dX8_make_38 (by decide) ?_
              refine bs_icmp_lt (tgt := 45) dX8_make_40 (by decide) (fun c40 => ?_) (fun c40 => ?_)
              · refine bs_aload_n dX8_make_45 rfl ?_
                refine bs_getR dX8_make_46 fX8_9 (H.s 1 rfl rfl rfl) (H.r 1 0 rfl rfl rfl) ?_
                refine bs_aload_n dX8_make_49 rfl ?_
                refine bs_getI dX8_make_50 fX8_21 (H.s 1 rfl rfl rfl) ?_
                refine bs_topq (x' := 0) (G.i 1 3 rfl rfl rfl) ?_
                refine bs_iload_n dX8_make_53 rfl ?_
                refine bs_iast (n := 6) dX8_make_54 (H.ss 2 rfl rfl) (j := 0) (bs_ix_n (by decide) (by decide)) ?_
                refine bs_aload_n dX8_make_55 rfl ?_
                refine bs_getR dX8_make_56 fX8_15 (H.s 1 rfl rfl rfl) (b := x + 3) (by simp (disch := omega) only [bs_up_f]; exact H.r 1 1 rfl rfl rfl) ?_
                refine bs_aload_n dX8_make_59 rfl ?_
                refine bs_getI dX8_make_60 fX8_21 (H.s 1 rfl rfl rfl) ?_
                refine bs_topq (x' := 0) (by simp (disch := omega) only [bs_up_f]; exact G.i 1 3 rfl rfl rfl) ?_
                refine bs_iload_n dX8_make_63 rfl ?_
                refine bs_iast (n := 6) dX8_make_64 (H.ss 3 rfl rfl) (j := 0) (bs_ix_n (by decide) (by decide)) ?_
                refine bs_aload_n dX8_make_65 rfl ?_
                refine bs_getR dX8_make_66 fX8_18 (H.s 1 rfl rfl rfl) (b := x + 4) (by simp (disch := omega) only [bs_up_f]; exact H.r 1 2 rfl rfl rfl) ?_
                refine bs_aload_n dX8_make_69 rfl ?_
                refine bs_getI dX8_make_70 fX8_21 (H.s 1 rfl rfl rfl) ?_
                refine bs_topq (x' := 0) (by simp (disch := omega) only [bs_up_f]; exact G.i 1 3 rfl rfl rfl) ?_
                refine bs_iload_n dX8_make_73 rfl ?_
                refine bs_iast (n := 6) dX8_make_74 (H.ss 4 rfl rfl) (j := 0) (bs_ix_n (by decide) (by decide)) ?_
                refine bs_aload_n dX8_make_75 rfl ?_
                refine bs_dup dX8_make_76 rfl ?_
                refine bs_getI dX8_make_77 fX8_21 (H.s 1 rfl rfl rfl) ?_
                refine bs_topq (x' := 0) (by simp (disch := omega) only [bs_up_f]; exact G.i 1 3 rfl rfl rfl) ?_
                refine bs_dup_x1 dX8_make_80 rfl rfl ?_
                refine bs_iconst (v := 1) dX8_make_81 (by decide) ?_
                refine bs_iadd dX8_make_82 ?_
                refine bs_putI dX8_make_83 pX8_21 (H.s 1 rfl rfl rfl) ?_
                exact bs_iret dX8_make_86 rfl (by decide) (by decide) ⟨by rw [bs_sk_1 (bs_in_3 c2 c9) (bs_in_2 c13 c19) (bs_in_3 c25 c31)], rfl, rfl, fun z hz => by simp (disch := omega) only [bs_up_f, bs_fi_f, bs_cp_f]⟩
              · exact absurd (by decide) c40
        · refine bs_iconst (v := (-1)) dX8_make_22 (by decide) ?_
          exact bs_iret dX8_make_23 rfl (by decide) (by decide) ⟨by rw [bs_sk_b (bs_in_b (Int32.not_le.mp c19))], rfl, rfl, fun _ _ => rfl⟩
set_option maxHeartbeats 4000000 in
set_option maxRecDepth 100000 in
theorem p_sort {x nx : Nat} {sh : bs_Sh} {mu : bs_Mm} (G : bs_Fr (bs_tS x) x sh mu) (a b e : Int32) : bs_C mX11_sort (bs_rm 10 0 0) [.ref x, .int a, .int b, .int e] nx sh mu (bs_mo x nx sh mu (.int (bs_sk a b e))) := by
  have H := G.st
  have hfc : bs_iv (mu x 13) = 0 := G.i 0 13 rfl rfl rfl
  have hrc : bs_iv (mu x 14) = 0 := G.i 0 14 rfl rfl rfl
  refine bs_ct (by decide +kernel) (Nat.le_of_ble_eq_true rfl) ?_
  refine bs_aload_n dX11_sort_0 rfl ?_
  refine bs_getR dX11_sort_1 fX11_12 (H.s 0 rfl rfl rfl) (H.r 0 0 rfl rfl rfl) ?_
  refine bs_iload_n dX11_sort_4 rfl ?_
  refine bs_iload_n dX11_sort_5 rfl ?_
  refine bs_iload_n dX11_sort_6 rfl ?_
  refine bs_callV dX11_sort_7 qX11_93 (s_makeN G _ _ _) rfl (H.s 1 rfl rfl rfl) rfl (Nat.le_of_ble_eq_true rfl) ⟨⟨by decide, by decide⟩, by decide, by decide⟩ (fun v1 nx1 sh1 mu1 hp1 => ?_)
  obtain ⟨rfl, rfl, rfl, hfr⟩ := hp1
  exact bs_iret dX11_sort_10 rfl (by decide) (by decide) ⟨rfl, rfl, rfl, hfr⟩
set_option maxHeartbeats 4000000 in
set_option maxRecDepth 100000 in
theorem s_clearF {x nx : Nat} {sh : bs_Sh} {mu : bs_Mm} (G : bs_Fr (bs_tS x) x sh mu) : bs_C mX1_clear (bs_rm 1 0 0) [.ref (x + 10)] nx sh mu (fun r nx' sh' mu' => r = none ∧ nx' = nx ∧ sh' = sh ∧ ∀ a, a < x + 10 ∨ x + 17 ≤ a → mu' a = mu a) := by
  have H := G.st
  have hfc : bs_iv (mu x 13) = 0 := G.i 0 13 rfl rfl rfl
  have hrc : bs_iv (mu x 14) = 0 := G.i 0 14 rfl rfl rfl
  refine bs_ct (by decide +kernel) (Nat.le_of_ble_eq_true rfl) ?_
  refine bs_aload_n dX1_clear_0 rfl ?_
  refine bs_getR dX1_clear_1 fX1_27 (H.s 10 rfl rfl rfl) (H.r 10 5 rfl rfl rfl) ?_
  refine bs_iconst (v := 0) dX1_clear_4 (by decide) ?_
  refine bs_callS dX1_clear_5 qX1_30 (s_fill (x + 16) 30 0 (H.ss 16 rfl rfl) (by decide)) rfl rfl (Nat.le_of_ble_eq_true rfl) ⟨⟨by decide, by decide⟩, by decide, by decide⟩ (fun v1 nx1 sh1 mu1 hp1 => ?_)
  obtain ⟨rfl, rfl, rfl, rfl⟩ := hp1
  refine bs_aload_n dX1_clear_8 rfl ?_
  refine bs_iconst (v := 0) dX1_clear_9 (by decide) ?_
  refine bs_putI dX1_clear_10 pX1_36 (H.s 10 rfl rfl rfl) ?_
  refine bs_aload_n dX1_clear_13 rfl ?_
  refine bs_iconst (v := 0) dX1_clear_14 (by decide) ?_
  refine bs_putI dX1_clear_15 pX1_40 (H.s 10 rfl rfl rfl) ?_
  refine bs_aload_n dX1_clear_18 rfl ?_
  refine bs_iconst (v := 0) dX1_clear_19 (by decide) ?_
  refine bs_putI dX1_clear_20 pX1_43 (H.s 10 rfl rfl rfl) ?_
  refine bs_aload_n dX1_clear_23 rfl ?_
  refine bs_iconst (v := 0) dX1_clear_24 (by decide) ?_
  refine bs_putI dX1_clear_25 pX1_46 (H.s 10 rfl rfl rfl) ?_
  exact bs_vret dX1_clear_28 rfl (by decide) (by decide) ⟨rfl, rfl, rfl, fun z hz => by simp (disch := omega) only [bs_up_f, bs_fi_f, bs_cp_f]⟩
set_option maxHeartbeats 4000000 in
set_option maxRecDepth 100000 in
theorem s_beginF {x nx : Nat} {sh : bs_Sh} {mu : bs_Mm} (G : bs_Fr (bs_tS x) x sh mu) (n : Int32) : bs_C mX2_begin (bs_rm 2 0 0) [.ref (x + 9), .int n] nx sh mu (fun r nx' sh' mu' => r = none ∧ nx' = nx ∧ sh' = sh ∧ (∀ a, a < x + 9 ∨ x + 20 ≤ a → mu' a = mu a) ∧ bs_iv (mu' (x + 9) 5) = 0) := by
  have H := G.st
  have hfc : bs_iv (mu x 13) = 0 := G.i 0 13 rfl rfl rfl
  have hrc : bs_iv (mu x 14) = 0 := G.i 0 14 rfl rfl rfl
  refine bs_ct (by decide +kernel) (Nat.le_of_ble_eq_true rfl) ?_
  refine bs_aload_n dX2_begin_0 rfl ?_
  refine bs_getR dX2_begin_1 fX2_12 (H.s 9 rfl rfl rfl) (H.r 9 0 rfl rfl rfl) ?_
  refine bs_callV dX2_begin_4 qX2_64 (s_clearF G) rfl (H.s 10 rfl rfl rfl) rfl (Nat.le_of_ble_eq_true rfl) ⟨⟨by decide, by decide⟩, by decide, by decide⟩ (fun v1 nx1 sh1 mu1 hp1 => ?_)
  obtain ⟨rfl, rfl, rfl, hfr⟩ := hp1
  refine bs_aload_n dX2_begin_7 rfl ?_
  refine bs_getR dX2_begin_8 fX2_18 (H.s 9 rfl rfl rfl) (b := x + 17) (by rw [hfr _ (by omega)]; exact H.r 9 1 rfl rfl rfl) ?_
  refine bs_iconst (v := 0) dX2_begin_11 (by decide) ?_
  refine bs_callS dX2_begin_12 qX2_67 (s_fill (x + 17) 30 0 (H.ss 17 rfl rfl) (by decide)) rfl rfl (Nat.le_of_ble_eq_true rfl) ⟨⟨by decide, by decide⟩, by decide, by decide⟩ (fun v2 nx2 sh2 mu2 hp2 => ?_)
  obtain ⟨rfl, rfl, rfl, rfl⟩ := hp2
  refine bs_aload_n dX2_begin_15 rfl ?_
  refine bs_getR dX2_begin_16 fX2_22 (H.s 9 rfl rfl rfl) (b := x + 18) (by rw [bs_fi_f (by omega), hfr _ (by omega)]; exact H.r 9 2 rfl rfl rfl) ?_
  refine bs_iconst (v := (-1)) dX2_begin_19 (by decide) ?_
  refine bs_callS dX2_begin_20 qX2_67 (s_fill (x + 18) 8 (-1) (H.ss 18 rfl rfl) (by decide)) rfl rfl (Nat.le_of_ble_eq_true rfl) ⟨⟨by decide, by decide⟩, by decide, by decide⟩ (fun v3 nx3 sh3 mu3 hp3 => ?_)
  obtain ⟨rfl, rfl, rfl, rfl⟩ := hp3
  refine bs_aload_n dX2_begin_23 rfl ?_
  refine bs_iload_n dX2_begin_24 rfl ?_
  refine bs_putI dX2_begin_25 pX2_73 (H.s 9 rfl rfl rfl) ?_
  refine bs_aload_n dX2_begin_28 rfl ?_
  refine bs_iconst (v := 0) dX2_begin_29 (by decide) ?_
  refine bs_putI dX2_begin_30 pX2_50 (H.s 9 rfl rfl rfl) ?_
  refine bs_aload_n dX2_begin_33 rfl ?_
  refine bs_iconst (v := 0) dX2_begin_34 (by decide) ?_
  refine bs_putI dX2_begin_35 pX2_76 (H.s 9 rfl rfl rfl) ?_
  refine bs_aload_n dX2_begin_38 rfl ?_
  refine bs_iconst (v := 0) dX2_begin_39 (by decide) ?_
  refine bs_putI dX2_begin_40 pX2_57 (H.s 9 rfl rfl rfl) ?_
  refine bs_aload_n dX2_begin_43 rfl ?_
  refine bs_iconst (v := 0) dX2_begin_44 (by decide) ?_
  refine bs_putI dX2_begin_45 pX2_79 (H.s 9 rfl rfl rfl) ?_
  refine bs_aload_n dX2_begin_48 rfl ?_
  refine bs_iconst (v := 0) dX2_begin_49 (by decide) ?_
  refine bs_putI dX2_begin_50 pX2_82 (H.s 9 rfl rfl rfl) ?_
  refine bs_aload_n dX2_begin_53 rfl ?_
  refine bs_iconst (v := 0) dX2_begin_54 (by decide) ?_
  refine bs_putZ dX2_begin_55 pX2_53 (H.s 9 rfl rfl rfl) (Or.inl rfl) ?_
  exact bs_vret dX2_begin_58 rfl (by decide) (by decide) ⟨rfl, rfl, rfl, fun z hz => by simp (disch := omega) only [bs_up_f, bs_fi_f]; exact hfr z (by omega), by simp (disch := omega) only [bs_up_j, bs_up_eq, bs_iv_i]⟩
set_option maxHeartbeats 4000000 in
set_option maxRecDepth 100000 in
theorem s_readF {x nx : Nat} {sh : bs_Sh} {mu : bs_Mm} (G : bs_Fr (bs_tS x) x sh mu) : bs_C mX2_read (bs_rm 3 0 0) [.ref (x + 9), .ref (x + 5), .int 0] nx sh mu (bs_mo x nx sh mu (.int 0)) := by
  have H := G.st
  have hfc : bs_iv (mu x 13) = 0 := G.i 0 13 rfl rfl rfl
  have hrc : bs_iv (mu x 14) = 0 := G.i 0 14 rfl rfl rfl
  refine bs_ct (by decide +kernel) (Nat.le_of_ble_eq_true rfl) ?_
  refine bs_aload_n dX2_read_0 rfl ?_
  refine bs_iload_n dX2_read_1 rfl ?_
  refine bs_callV dX2_read_2 qX2_28 (s_beginF G _) rfl (H.s 9 rfl rfl rfl) rfl (Nat.le_of_ble_eq_true rfl) ⟨⟨by decide, by decide⟩, by decide, by decide⟩ (fun v1 nx1 sh1 mu1 hp1 => ?_)
  obtain ⟨rfl, rfl, rfl, hfr, hpl⟩ := hp1
  refine bs_iconst (v := 0) dX2_read_5 (by decide) ?_
  refine bs_istore_n dX2_read_6 rfl (by decide) ?_
  refine bs_iload_n dX2_read_7 rfl ?_
  refine bs_aload_n dX2_read_8 rfl ?_
  refine bs_getI dX2_read_9 fX2_32 (H.s 5 rfl rfl rfl) ?_
  refine bs_topq (x' := 0) (by rw [hfr _ (by omega)]; exact G.i 5 1 rfl rfl rfl) ?_
  refine bs_icmp_ge (tgt := 45) dX2_read_12 (by decide) (fun c12 => ?_) (fun c12 => ?_)
  · refine bs_aload_n dX2_read_45 rfl ?_
    refine bs_getI dX2_read_46 fX2_50 (H.s 9 rfl rfl rfl) ?_
    refine bs_topq (x' := 0) hpl ?_
    refine bs_iconst (v := 2) dX2_read_49 (by decide) ?_
    refine bs_icmp_ne (tgt := 67) dX2_read_50 (by decide) (fun c50 => ?_) (fun c50 => ?_)
    · refine bs_aload_n dX2_read_67 rfl ?_
      refine bs_getI dX2_read_68 fX2_32 (H.s 5 rfl rfl rfl) ?_
      refine bs_topq (x' := 0) (by rw [hfr _ (by omega)]; exact G.i 5 1 rfl rfl rfl) ?_
      exact bs_iret dX2_read_71 rfl (by decide) (by decide) ⟨rfl, rfl, rfl, fun z hz => hfr z (by omega)⟩
    · exact absurd c50 (by decide)
  · exact absurd (by decide) c12
set_option maxHeartbeats 4000000 in
set_option maxRecDepth 100000 in
theorem s_beginR {x nx : Nat} {sh : bs_Sh} {mu : bs_Mm} (G : bs_Fr (bs_tS x) x sh mu) : bs_C mX7_begin (bs_rm 0 0 0) [.ref (x + 20)] nx sh mu (fun r nx' sh' mu' => r = none ∧ nx' = nx ∧ sh' = sh ∧ (∀ a, a < x + 20 ∨ x + 26 ≤ a → mu' a = mu a) ∧ bs_iv (mu' (x + 20) 5) = 0) := by
  have H := G.st
  have hfc : bs_iv (mu x 13) = 0 := G.i 0 13 rfl rfl rfl
  have hrc : bs_iv (mu x 14) = 0 := G.i 0 14 rfl rfl rfl
  refine bs_ct (by decide +kernel) (Nat.le_of_ble_eq_true rfl) ?_
  refine bs_aload_n dX7_begin_0 rfl ?_
  refine bs_getR dX7_begin_1 fX7_12 (H.s 20 rfl rfl rfl) (H.r 20 0 rfl rfl rfl) ?_
  refine bs_iconst (v := 0) dX7_begin_4 (by decide) ?_
  refine bs_putI dX7_begin_5 pX7_53 (H.s 21 rfl rfl rfl) ?_
  refine bs_aload_n dX7_begin_8 rfl ?_
  refine bs_iconst (v := 0) dX7_begin_9 (by decide) ?_
  refine bs_putI dX7_begin_10 pX7_56 (H.s 20 rfl rfl rfl) ?_
  refine bs_aload_n dX7_begin_13 rfl ?_
  refine bs_iconst (v := 0) dX7_begin_14 (by decide) ?_
  refine bs_putI dX7_begin_15 pX7_46 (H.s 20 rfl rfl rfl) ?_
  refine bs_aload_n dX7_begin_18 rfl ?_
  refine bs_iconst (v := 0) dX7_begin_19 (by decide) ?_
  refine bs_putI dX7_begin_20 pX7_59 (H.s 20 rfl rfl rfl) ?_
  refine bs_aload_n dX7_begin_23 rfl ?_
  refine bs_iconst (v := 0) dX7_begin_24 (by decide) ?_
  refine bs_putI dX7_begin_25 pX7_62 (H.s 20 rfl rfl rfl) ?_
  refine bs_aload_n dX7_begin_28 rfl ?_
  refine bs_iconst (v := 0) dX7_begin_29 (by decide) ?_
  refine bs_putI dX7_begin_30 pX7_65 (H.s 20 rfl rfl rfl) ?_
  refine bs_aload_n dX7_begin_33 rfl ?_
  refine bs_iconst (v := 0) dX7_begin_34 (by decide) ?_
  refine bs_putI dX7_begin_35 pX7_68 (H.s 20 rfl rfl rfl) ?_
  refine bs_aload_n dX7_begin_38 rfl ?_
  refine bs_iconst (v := (-1)) dX7_begin_39 (by decide) ?_
  refine bs_putI dX7_begin_40 pX7_71 (H.s 20 rfl rfl rfl) ?_
  exact bs_vret dX7_begin_43 rfl (by decide) (by decide) ⟨rfl, rfl, rfl, fun z hz => by simp (disch := omega) only [bs_up_f], by simp (disch := omega) only [bs_up_j, bs_up_eq, bs_iv_i]⟩
set_option maxHeartbeats 4000000 in
set_option maxRecDepth 100000 in
theorem s_readR {x nx : Nat} {sh : bs_Sh} {mu : bs_Mm} (G : bs_Fr (bs_tS x) x sh mu) : bs_C mX7_read (bs_rm 3 0 0) [.ref (x + 20), .ref (x + 5)] nx sh mu (bs_mo x nx sh mu (.int 0)) := by
  have H := G.st
  have hfc : bs_iv (mu x 13) = 0 := G.i 0 13 rfl rfl rfl
  have hrc : bs_iv (mu x 14) = 0 := G.i 0 14 rfl rfl rfl
  refine bs_ct (by decide +kernel) (Nat.le_of_ble_eq_true rfl) ?_
  refine bs_aload_n dX7_read_0 rfl ?_
  refine bs_callV dX7_read_1 qX7_29 (s_beginR G) rfl (H.s 20 rfl rfl rfl) rfl (Nat.le_of_ble_eq_true rfl) ⟨⟨by decide, by decide⟩, by decide, by decide⟩ (fun v1 nx1 sh1 mu1 hp1 => ?_)
  obtain ⟨rfl, rfl, rfl, hfr, hpl⟩ := hp1
  refine bs_iconst (v := 0) dX7_read_4 (by decide) ?_
  refine bs_istore_n dX7_read_5 rfl (by decide) ?_
  refine bs_iload_n dX7_read_6 rfl ?_
  refine bs_aload_n dX7_read_7 rfl ?_
  refine bs_getI dX7_read_8 fX7_32 (H.s 5 rfl rfl rfl) ?_
  refine bs_topq (x' := 0) (by rw [hfr _ (by omega)]; exact G.i 5 1 rfl rfl rfl) ?_
  refine bs_icmp_ge (tgt := 34) dX7_read_11 (by decide) (fun c11 => ?_) (fun c11 => ?_)
  · refine bs_aload_n dX7_read_34 rfl ?_
    refine bs_getI dX7_read_35 fX7_46 (H.s 20 rfl rfl rfl) ?_
    refine bs_topq (x' := 0) hpl ?_
    refine bs_iconst (v := 4) dX7_read_38 (by decide) ?_
    refine bs_icmp_ne (tgt := 53) dX7_read_39 (by decide) (fun c39 => ?_) (fun c39 => ?_)
    · refine bs_aload_n dX7_read_53 rfl ?_
      refine bs_getI dX7_read_54 fX7_32 (H.s 5 rfl rfl rfl) ?_
      refine bs_topq (x' := 0) (by rw [hfr _ (by omega)]; exact G.i 5 1 rfl rfl rfl) ?_
      exact bs_iret dX7_read_57 rfl (by decide) (by decide) ⟨rfl, rfl, rfl, fun z hz => hfr z (by omega)⟩
    · exact absurd c39 (by decide)
  · exact absurd (by decide) c11
def bs_uk (a : Int32) : Int32 := if a = 0 ∨ a = 1 then 0 else -2
set_option maxHeartbeats 4000000 in
set_option maxRecDepth 100000 in
theorem p_fault {x nx : Nat} {sh : bs_Sh} {mu : bs_Mm} (G : bs_Fr (bs_tS x) x sh mu) (a : Int32) : bs_C mX11_fault (bs_rm 10 0 0) [.ref x, .int a] nx sh mu (bs_mo x nx sh mu (.int (bs_uk a))) := by
  have H := G.st
  have hfc : bs_iv (mu x 13) = 0 := G.i 0 13 rfl rfl rfl
  have hrc : bs_iv (mu x 14) = 0 := G.i 0 14 rfl rfl rfl
  refine bs_ct (by decide +kernel) (Nat.le_of_ble_eq_true rfl) ?_
  refine bs_iload_n dX11_fault_0 rfl ?_
  refine bs_if_ne (tgt := 23) dX11_fault_1 (by decide) (fun c1 => ?_) (fun c1 => ?_)
  · refine bs_iload_n dX11_fault_23 rfl ?_
    refine bs_iconst (v := 1) dX11_fault_24 (by decide) ?_
    refine bs_icmp_ne (tgt := 42) dX11_fault_25 (by decide) (fun c25 => ?_) (fun c25 => ?_)
    · refine bs_bipush (v := (-2)) dX11_fault_42 (by decide) ?_
      exact bs_iret dX11_fault_44 rfl (by decide) (by decide) ⟨by rw [show bs_uk a = -2 from if_neg (fun z => z.elim c1 c25)], rfl, rfl, fun _ _ => rfl⟩
    · refine bs_aload_n dX11_fault_28 rfl ?_
      refine bs_getR dX11_fault_29 fX11_45 (H.s 0 rfl rfl rfl) (H.r 0 5 rfl rfl rfl) ?_
      refine bs_aload_n dX11_fault_32 rfl ?_
      refine bs_getR dX11_fault_33 fX11_19 (H.s 0 rfl rfl rfl) (H.r 0 1 rfl rfl rfl) ?_
      refine bs_callV dX11_fault_36 qX11_116 (s_readR G) rfl (H.s 20 rfl rfl rfl) rfl (Nat.le_of_ble_eq_true rfl) ⟨⟨by decide, by decide⟩, by decide, by decide⟩ (fun v1 nx1 sh1 mu1 hp1 => ?_)
      obtain ⟨rfl, rfl, rfl, hfr⟩ := hp1
      refine bs_goto (tgt := 44) dX11_fault_39 (by decide) ?_
      exact bs_iret dX11_fault_44 rfl (by decide) (by decide) ⟨by rw [show bs_uk a = 0 from if_pos (Or.inr c25)], rfl, rfl, hfr⟩
  · refine bs_aload_n dX11_fault_4 rfl ?_
    refine bs_getR dX11_fault_5 fX11_38 (H.s 0 rfl rfl rfl) (H.r 0 4 rfl rfl rfl) ?_
    refine bs_aload_n dX11_fault_8 rfl ?_
    refine bs_getR dX11_fault_9 fX11_19 (H.s 0 rfl rfl rfl) (H.r 0 1 rfl rfl rfl) ?_
    refine bs_aload_n dX11_fault_12 rfl ?_
    refine bs_getR dX11_fault_13 fX11_12 (H.s 0 rfl rfl rfl) (H.r 0 0 rfl rfl rfl) ?_
    refine bs_getI dX11_fault_16 fX11_109 (H.s 1 rfl rfl rfl) ?_
    refine bs_topq (x' := 0) (G.i 1 3 rfl rfl rfl) ?_
    refine bs_callV dX11_fault_19 qX11_112 (s_readF G) rfl (H.s 9 rfl rfl rfl) rfl (Nat.le_of_ble_eq_true rfl) ⟨⟨by decide, by decide⟩, by decide, by decide⟩ (fun v1 nx1 sh1 mu1 hp1 => ?_)
    obtain ⟨rfl, rfl, rfl, hfr⟩ := hp1
    exact bs_iret dX11_fault_22 rfl (by decide) (by decide) ⟨by rw [show bs_uk a = 0 from if_pos (Or.inl c1)], rfl, rfl, hfr⟩
set_option maxHeartbeats 4000000 in
set_option maxRecDepth 100000 in
theorem p_figure {x nx : Nat} {sh : bs_Sh} {mu : bs_Mm} (G : bs_Fr (bs_tS x) x sh mu) : bs_C mX11_figure (bs_rm 10 0 0) [.ref x] nx sh mu (bs_mo x nx sh mu (.int (-1))) := by
  have H := G.st
  have hfc : bs_iv (mu x 13) = 0 := G.i 0 13 rfl rfl rfl
  have hrc : bs_iv (mu x 14) = 0 := G.i 0 14 rfl rfl rfl
  refine bs_ct (by decide +kernel) (Nat.le_of_ble_eq_true rfl) ?_
  refine bs_aload_n dX11_figure_0 rfl ?_
  refine bs_callV dX11_figure_1 qX11_119 (s_freeN H hfc) rfl (H.s 0 rfl rfl rfl) rfl (Nat.le_of_ble_eq_true rfl) ⟨⟨by decide, by decide⟩, by decide, by decide⟩ (fun v0 nx0 sh0 mu0 hp0 => ?_)
  obtain ⟨rfl, rfl, rfl, rfl⟩ := hp0
  refine bs_astore_n dX11_figure_4 rfl (by decide) ?_
  refine bs_aload_n dX11_figure_5 rfl ?_
  refine bs_ifnull dX11_figure_6 ?_
  refine bs_aload_n dX11_figure_9 rfl ?_
  refine bs_getR dX11_figure_10 fX11_38 (H.s 0 rfl rfl rfl) (H.r 0 4 rfl rfl rfl) ?_
  refine bs_aload_n dX11_figure_13 rfl ?_
  refine bs_getR dX11_figure_14 fX11_19 (H.s 0 rfl rfl rfl) (H.r 0 1 rfl rfl rfl) ?_
  refine bs_aload_n dX11_figure_17 rfl ?_
  refine bs_getR dX11_figure_18 fX11_12 (H.s 0 rfl rfl rfl) (H.r 0 0 rfl rfl rfl) ?_
  refine bs_getI dX11_figure_21 fX11_109 (H.s 1 rfl rfl rfl) ?_
  refine bs_topq (x' := 0) (G.i 1 3 rfl rfl rfl) ?_
  refine bs_callV dX11_figure_24 qX11_112 (s_readF G) rfl (H.s 9 rfl rfl rfl) rfl (Nat.le_of_ble_eq_true rfl) ⟨⟨by decide, by decide⟩, by decide, by decide⟩ (fun v1 nx1 sh1 mu1 hp1 => ?_)
  obtain ⟨rfl, rfl, rfl, hfr⟩ := hp1
  refine bs_iconst (v := (-1)) dX11_figure_27 (by decide) ?_
  refine bs_icmp_eq (tgt := 33) dX11_figure_28 (by decide) (fun c28 => ?_) (fun c28 => ?_)
  · exact absurd c28 (by decide)
  · refine bs_iconst (v := (-1)) dX11_figure_31 (by decide) ?_
    exact bs_iret dX11_figure_32 rfl (by decide) (by decide) ⟨rfl, rfl, rfl, hfr⟩
set_option maxHeartbeats 4000000 in
set_option maxRecDepth 100000 in
theorem p_rule {x nx : Nat} {sh : bs_Sh} {mu : bs_Mm} (G : bs_Fr (bs_tS x) x sh mu) : bs_C mX11_rule (bs_rm 10 0 0) [.ref x] nx sh mu (bs_mo x nx sh mu (.int (-1))) := by
  have H := G.st
  have hfc : bs_iv (mu x 13) = 0 := G.i 0 13 rfl rfl rfl
  have hrc : bs_iv (mu x 14) = 0 := G.i 0 14 rfl rfl rfl
  refine bs_ct (by decide +kernel) (Nat.le_of_ble_eq_true rfl) ?_
  refine bs_aload_n dX11_rule_0 rfl ?_
  refine bs_getI dX11_rule_1 fX11_134 (H.s 0 rfl rfl rfl) ?_
  refine bs_topq (x' := 0) (G.i 0 14 rfl rfl rfl) ?_
  refine bs_bipush (v := 6) dX11_rule_4 (by decide) ?_
  refine bs_icmp_ge (tgt := 24) dX11_rule_6 (by decide) (fun c6 => ?_) (fun c6 => ?_)
  · exact absurd c6 (by decide)
  · refine bs_aload_n dX11_rule_9 rfl ?_
    refine bs_getR dX11_rule_10 fX11_45 (H.s 0 rfl rfl rfl) (H.r 0 5 rfl rfl rfl) ?_
    refine bs_aload_n dX11_rule_13 rfl ?_
    refine bs_getR dX11_rule_14 fX11_19 (H.s 0 rfl rfl rfl) (H.r 0 1 rfl rfl rfl) ?_
    refine bs_callV dX11_rule_17 qX11_116 (s_readR G) rfl (H.s 20 rfl rfl rfl) rfl (Nat.le_of_ble_eq_true rfl) ⟨⟨by decide, by decide⟩, by decide, by decide⟩ (fun v1 nx1 sh1 mu1 hp1 => ?_)
    obtain ⟨rfl, rfl, rfl, hfr⟩ := hp1
    refine bs_iconst (v := (-1)) dX11_rule_20 (by decide) ?_
    refine bs_icmp_eq (tgt := 26) dX11_rule_21 (by decide) (fun c21 => ?_) (fun c21 => ?_)
    · exact absurd c21 (by decide)
    · refine bs_iconst (v := (-1)) dX11_rule_24 (by decide) ?_
      exact bs_iret dX11_rule_25 rfl (by decide) (by decide) ⟨rfl, rfl, rfl, hfr⟩
set_option maxHeartbeats 4000000 in
set_option maxRecDepth 100000 in
theorem s_serveN {x nx : Nat} {sh : bs_Sh} {mu : bs_Mm} (G : bs_Fr (bs_tS x) x sh mu) (z : Int64) : bs_C mX9_serveAll (bs_rm 2 0 0) [.ref (x + 50), .ref (x + 7), .ref (x + 1), .long z] nx sh mu (bs_mo x nx sh mu (.int 0)) := by
  have H := G.st
  have hfc : bs_iv (mu x 13) = 0 := G.i 0 13 rfl rfl rfl
  have hrc : bs_iv (mu x 14) = 0 := G.i 0 14 rfl rfl rfl
  refine bs_ct (by decide +kernel) (Nat.le_of_ble_eq_true rfl) ?_
  refine bs_aload_n dX9_serveAll_0 rfl ?_
  refine bs_getR dX9_serveAll_1 fX9_9 (H.s 50 rfl rfl rfl) (H.r 50 0 rfl rfl rfl) ?_
  refine bs_iconst (v := 0) dX9_serveAll_4 (by decide) ?_
  refine bs_aload_n dX9_serveAll_5 rfl ?_
  refine bs_getR dX9_serveAll_6 fX9_40 (H.s 50 rfl rfl rfl) (H.r 50 12 rfl rfl rfl) ?_
  refine bs_iconst (v := 0) dX9_serveAll_9 (by decide) ?_
  refine bs_bipush (v := 6) dX9_serveAll_10 (by decide) ?_
  refine bs_copy (n0 := 6) (n1 := 6) (sp := 0) (dp := 0) (n := 6) dX9_serveAll_12 (⟨lX9_52, w_acp_native, w_acp_static, w_acp_ini⟩) (H.ss 51 rfl rfl) (H.ss 59 rfl rfl) (by decide) (by decide) (by decide) (by decide) (by decide) (by decide) (by decide) (by decide) ?_
  refine bs_aload_n dX9_serveAll_15 rfl ?_
  refine bs_lload_n dX9_serveAll_16 rfl ?_
  refine bs_putL dX9_serveAll_17 pX9_58 (H.s 50 rfl rfl rfl) ?_
  refine bs_iconst (v := 0) dX9_serveAll_20 (by decide) ?_
  refine bs_istore0 (j := 4) dX9_serveAll_21 rfl (by decide) ?_
  refine bs_iconst (v := 0) dX9_serveAll_23 (by decide) ?_
  refine bs_istore dX9_serveAll_24 rfl (by decide) ?_
  refine bs_iconst (v := 0) dX9_serveAll_26 (by decide) ?_
  refine bs_istore dX9_serveAll_27 rfl (by decide) ?_
  refine bs_iload dX9_serveAll_29 rfl ?_
  refine bs_aload_n dX9_serveAll_31 rfl ?_
  refine bs_getI dX9_serveAll_32 fX9_46 (H.s 50 rfl rfl rfl) ?_
  refine bs_topq (x' := 0) (by simp (disch := omega) only [bs_up_j, bs_up_f, bs_cp_f]; exact G.i 50 3 rfl rfl rfl) ?_
  refine bs_icmp_ge (tgt := 137) dX9_serveAll_35 (by decide) (fun c35 => ?_) (fun c35 => ?_)
  · refine bs_aload_n dX9_serveAll_137 rfl ?_
    refine bs_aload_n dX9_serveAll_138 rfl ?_
    refine bs_getI dX9_serveAll_139 fX9_46 (H.s 50 rfl rfl rfl) ?_
    refine bs_topq (x' := 0) (by simp (disch := omega) only [bs_up_j, bs_up_f, bs_cp_f]; exact G.i 50 3 rfl rfl rfl) ?_
    refine bs_putI dX9_serveAll_142 pX9_49 (H.s 50 rfl rfl rfl) ?_
    refine bs_iload dX9_serveAll_145 rfl ?_
    exact bs_iret dX9_serveAll_147 rfl (by decide) (by decide) ⟨rfl, rfl, rfl, fun z hz => by simp (disch := omega) only [bs_up_f, bs_fi_f, bs_cp_f]⟩
  · exact absurd (by decide) c35
set_option maxHeartbeats 4000000 in
set_option maxRecDepth 100000 in
theorem p_run {x nx : Nat} {sh : bs_Sh} {mu : bs_Mm} (G : bs_Fr (bs_tS x) x sh mu) (z : Int64) : bs_C mX11_run (bs_rm 10 0 0) [.ref x, .long z] nx sh mu (bs_mo x nx sh mu (.int 0)) := by
  have H := G.st
  have hfc : bs_iv (mu x 13) = 0 := G.i 0 13 rfl rfl rfl
  have hrc : bs_iv (mu x 14) = 0 := G.i 0 14 rfl rfl rfl
  refine bs_ct (by decide +kernel) (Nat.le_of_ble_eq_true rfl) ?_
  refine bs_aload_n dX11_run_0 rfl ?_
  refine bs_getR dX11_run_1 fX11_80 (H.s 0 rfl rfl rfl) (H.r 0 10 rfl rfl rfl) ?_
  refine bs_aload_n dX11_run_4 rfl ?_
  refine bs_getR dX11_run_5 fX11_25 (H.s 0 rfl rfl rfl) (H.r 0 2 rfl rfl rfl) ?_
  refine bs_aload_n dX11_run_8 rfl ?_
  refine bs_getR dX11_run_9 fX11_12 (H.s 0 rfl rfl rfl) (H.r 0 0 rfl rfl rfl) ?_
  refine bs_lload_n dX11_run_12 rfl ?_
  refine bs_callV dX11_run_13 qX11_308 (s_serveN G _) rfl (H.s 50 rfl rfl rfl) rfl (Nat.le_of_ble_eq_true rfl) ⟨⟨by decide, by decide⟩, by decide, by decide⟩ (fun v1 nx1 sh1 mu1 hp1 => ?_)
  obtain ⟨rfl, rfl, rfl, hfr⟩ := hp1
  exact bs_iret dX11_run_16 rfl (by decide) (by decide) ⟨rfl, rfl, rfl, hfr⟩
