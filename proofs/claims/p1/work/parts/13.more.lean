theorem bs_has.st20 {ls ls' : Array Slot} {n j : Nat} {lo : bs_L} {v : Value} (h0 : bs_has ls n lo) (hk : lo j = none)
    (h : lv_has ls' n ((j + 1, v) :: (bs_li n lo).filter (fun q => !(q.1 == j + 1) && (!(q.1 == j + 1 + 1) && !(q.1 + 1 == j + 1 && q.2.category == 2))))) : bs_has ls' n (bs_st2 lo (j + 1) v) := by
  refine ⟨h.1, h.2.1, fun i w hi => ?_⟩
  by_cases hji : i = j + 1
  · subst hji
    have : w = v := by simpa [bs_st2] using hi.symm
    subst this
    exact h.2.2 _ List.mem_cons_self
  · have hb : Nat.beq i (j + 1) = false := by
      cases hq : Nat.beq i (j + 1) with
      | true => exact absurd (Nat.eq_of_beq_eq_true hq) hji
      | false => rfl
    have hj2 : (bif Nat.beq i (j + 1 + 1) then none else lo i) = some w := by simpa [bs_st2, hb] using hi
    have hb2 : Nat.beq i (j + 1 + 1) = false := by
      cases hq : Nat.beq i (j + 1 + 1) with
      | true => rw [hq] at hj2; cases hj2
      | false => rfl
    have hji2 : i ≠ j + 1 + 1 := by
      intro z; subst z
      rw [show Nat.beq (j + 1 + 1) (j + 1 + 1) = true from Nat.beq_refl _] at hb2; cases hb2
    have hj' : lo i = some w := by rw [hb2] at hj2; exact hj2
    refine h.2.2 (i, w) (List.mem_cons_of_mem _ (List.mem_filter.mpr ⟨bs_li_in (h0.lt hj') hj', ?_⟩))
    have h1 : (i == j + 1) = false := by simpa using hji
    have h2 : (i == j + 1 + 1) = false := by simpa using hji2
    simp only [h1, h2, Bool.not_false, Bool.true_and, Bool.not_eq_true', Bool.and_eq_false_iff]
    left
    have hij : i ≠ j := fun z => by subst z; rw [hk] at hj'; cases hj'
    simpa using hij
section ST1
variable {Z : bs_Z} {X : bs_M} {rm : Room} {pc : Nat} {lo : bs_L} {rest : List Value} {nc ns nx : Nat} {sh : bs_Sh} {mu : bs_Mm}
theorem bs_istore0_n {k0 : Fin 4} {j : Nat} {x : Int32} (d : decode X.2.1 pc = .ok (.istore_n k0, 1)) (hj : (k0 : Nat) = j + 1) (hok : lo j = none) (hn : j + 1 < X.2.2.1) (k : bs_V Z X rm (pc + 1) (bs_st lo (j + 1) (.int x)) rest nc ns nx sh mu) : bs_V Z X rm pc lo (.int x :: rest) nc ns nx sh mu := fun p l e s m args below meth c D dA A F hE H locs ls hP hS hl => lv_istore_n F.1 F.2.1 d hj hl.lv hn rfl (fun ls' h' => k p l e s m args below meth c D dA A F hE H locs ls' hP hS (hl.st0 hok h'))
theorem bs_lstore0 {k0 : Fin 4} {j : Nat} {x : Int64} (d : decode X.2.1 pc = .ok (.lstore_n k0, 1)) (hj : (k0 : Nat) = j + 1) (hok : lo j = none) (hn : j + 1 + 1 < X.2.2.1) (k : bs_V Z X rm (pc + 1) (bs_st2 lo (j + 1) (.long x)) rest nc ns nx sh mu) : bs_V Z X rm pc lo (.long x :: rest) nc ns nx sh mu := fun p l e s m args below meth c D dA A F hE H locs ls hP hS hl => lv_lstore_n F.1 F.2.1 d hj hl.lv hn rfl (fun ls' h' => k p l e s m args below meth c D dA A F hE H locs ls' hP hS (hl.st20 hok h'))
end ST1
theorem bs_ix_d {i : Int32} {j n : Nat} (h : i = nI j) (hj : j < n) (hn : n < 2 ^ 31) : bs_ix i j n := by subst h; exact bs_ix_n hj hn
theorem bs_no_an {nx : Nat} {sh : bs_Sh} {mu : bs_Mm} {v : Value} : ∀ r nx' sh' mu', bs_no nx sh mu v r nx' sh' mu' → bs_an nx sh v r nx' sh' mu' := fun _ _ _ _ h => ⟨h.1, h.2.1, h.2.2.1⟩
set_option maxHeartbeats 4000000 in
set_option maxRecDepth 100000 in
theorem m_here {x nx : Nat} {sh : bs_Sh} {mu : bs_Mm} (H : (sh x).1 = 12) (h8 : bs_iv (mu x 8) = 0) (h7 : bs_iv (mu x 7) = 0) : bs_C mX12_here (bs_rm 0 0 0) [.ref x] nx sh mu (bs_no nx sh mu (.int (-1))) := by
  refine bs_ct (by decide +kernel) (Nat.le_of_ble_eq_true rfl) ?_
  refine bs_aload_n dX12_here_0 rfl ?_
  refine bs_getI dX12_here_1 fX12_135 H ?_
  refine bs_topq (x' := 0) (h8) ?_
  refine bs_aload_n dX12_here_4 rfl ?_
  refine bs_getI dX12_here_5 fX12_132 H ?_
  refine bs_topq (x' := 0) (h7) ?_
  refine bs_icmp_ge (tgt := 23) dX12_here_8 (by decide) (fun c8 => ?_) (fun c8 => ?_)
  · refine bs_iconst (v := (-1)) dX12_here_23 (by decide) ?_
    exact bs_iret dX12_here_24 rfl (by decide) (by decide) ⟨rfl, rfl, rfl, rfl⟩
  · first | exact absurd (by decide) c8 | exact absurd c8 (by decide)
set_option maxHeartbeats 4000000 in
set_option maxRecDepth 100000 in
theorem m_look {x nx : Nat} {sh : bs_Sh} {mu : bs_Mm} (H : (sh x).1 = 12) (h8 : bs_iv (mu x 8) = 0) (h7 : bs_iv (mu x 7) = 0) : bs_C mX12_look (bs_rm 1 0 0) [.ref x] nx sh mu (bs_no nx sh mu (.int (-1))) := by
  refine bs_ct (by decide +kernel) (Nat.le_of_ble_eq_true rfl) ?_
  refine bs_aload_n dX12_look_0 rfl ?_
  refine bs_callV dX12_look_1 qX12_138 (m_here H h8 h7) rfl (H) rfl (Nat.le_of_ble_eq_true rfl) ⟨⟨by decide, by decide⟩, by decide, by decide⟩ (fun v1 nx1 sh1 mu1 hp1 => ?_)
  obtain ⟨rfl, rfl, rfl, rfl⟩ := hp1
  refine bs_bipush (v := 32) dX12_look_4 (by decide) ?_
  refine bs_icmp_ne (tgt := 22) dX12_look_6 (by decide) (fun c6 => ?_) (fun c6 => ?_)
  · refine bs_aload_n dX12_look_22 rfl ?_
    refine bs_callV dX12_look_23 qX12_138 (m_here H h8 h7) rfl (H) rfl (Nat.le_of_ble_eq_true rfl) ⟨⟨by decide, by decide⟩, by decide, by decide⟩ (fun v2 nx2 sh2 mu2 hp2 => ?_)
    obtain ⟨rfl, rfl, rfl, rfl⟩ := hp2
    exact bs_iret dX12_look_26 rfl (by decide) (by decide) ⟨rfl, rfl, rfl, rfl⟩
  · first | exact absurd (by decide) c6 | exact absurd c6 (by decide)
set_option maxHeartbeats 4000000 in
set_option maxRecDepth 100000 in
theorem m_bad {x nx : Nat} {sh : bs_Sh} {mu : bs_Mm} (H : (sh x).1 = 12) (h8 : bs_iv (mu x 8) = 0) (h9 : bs_iv (mu x 9) = -1) : bs_C mX12_bad (bs_rm 0 0 0) [.ref x] nx sh mu (fun r nx' sh' mu' => r = none ∧ nx' = nx ∧ sh' = sh ∧ mu' = bs_up mu x 9 (.int 0)) := by
  refine bs_ct (by decide +kernel) (Nat.le_of_ble_eq_true rfl) ?_
  refine bs_aload_n dX12_bad_0 rfl ?_
  refine bs_aload_n dX12_bad_1 rfl ?_
  refine bs_getI dX12_bad_2 fX12_142 H ?_
  refine bs_topq (x' := -1) (h9) ?_
  refine bs_iconst (v := (-1)) dX12_bad_5 (by decide) ?_
  refine bs_icmp_ne (tgt := 16) dX12_bad_6 (by decide) (fun c6 => ?_) (fun c6 => ?_)
  · first | exact absurd (by decide) c6 | exact absurd c6 (by decide)
  · refine bs_aload_n dX12_bad_9 rfl ?_
    refine bs_getI dX12_bad_10 fX12_135 H ?_
    refine bs_topq (x' := 0) (h8) ?_
    refine bs_goto (tgt := 20) dX12_bad_13 (by decide) ?_
    refine bs_putI dX12_bad_20 pX12_142 H ?_
    exact bs_vret dX12_bad_23 rfl (by decide) (by decide) ⟨rfl, rfl, rfl, rfl⟩
set_option maxHeartbeats 4000000 in
set_option maxRecDepth 100000 in
theorem m_balloon {x nx : Nat} {sh : bs_Sh} {mu : bs_Mm} (H : (sh x).1 = 12) (h8 : bs_iv (mu x 8) = 0) (h7 : bs_iv (mu x 7) = 0) (h9 : bs_iv (mu x 9) = -1) : bs_C mX12_balloon (bs_rm 2 0 0) [.ref x] nx sh mu (fun r nx' sh' mu' => r = none ∧ nx' = nx ∧ sh' = sh ∧ mu' = bs_up mu x 9 (.int 0)) := by
  refine bs_ct (by decide +kernel) (Nat.le_of_ble_eq_true rfl) ?_
  refine bs_aload_n dX12_balloon_0 rfl ?_
  refine bs_callV dX12_balloon_1 qX12_180 (m_look (x := x) H h8 h7) rfl (H) rfl (Nat.le_of_ble_eq_true rfl) ⟨⟨by decide, by decide⟩, by decide, by decide⟩ (fun v1 nx1 sh1 mu1 hp1 => ?_)
  obtain ⟨rfl, rfl, rfl, rfl⟩ := hp1
  refine bs_bipush (v := 35) dX12_balloon_4 (by decide) ?_
  refine bs_icmp_eq (tgt := 14) dX12_balloon_6 (by decide) (fun c6 => ?_) (fun c6 => ?_)
  · first | exact absurd (by decide) c6 | exact absurd c6 (by decide)
  · refine bs_aload_n dX12_balloon_9 rfl ?_
    refine bs_callV dX12_balloon_10 qX12_164 (m_bad (x := x) H h8 h9) rfl (H) rfl (Nat.le_of_ble_eq_true rfl) ⟨⟨by decide, by decide⟩, by decide, by decide⟩ (fun v2 nx2 sh2 mu2 hp2 => ?_)
    obtain ⟨rfl, rfl, rfl, rfl⟩ := hp2
    exact bs_vret dX12_balloon_13 rfl (by decide) (by decide) ⟨rfl, rfl, rfl, rfl⟩
set_option maxHeartbeats 4000000 in
set_option maxRecDepth 100000 in
theorem m_clause {x nx : Nat} {sh : bs_Sh} {mu : bs_Mm} (H : bs_St (bs_tM x) x sh mu) (h8 : bs_iv (mu x 8) = 0) (h7 : bs_iv (mu x 7) = 0) (h9 : bs_iv (mu x 9) = -1) (j : Nat) (hj : j < 7) (hI : bs_iv (mu x 32) = nI j) : bs_C mX12_clause (bs_rm 2 0 0) [.ref x] nx sh mu (fun r nx' sh' mu' => r = none ∧ nx' = nx ∧ sh' = sh ∧ mu' = bs_up mu x 9 (.int 0)) := by
  refine bs_ct (by decide +kernel) (Nat.le_of_ble_eq_true rfl) ?_
  refine bs_bipush (v := 64) dX12_clause_0 (by decide) ?_
  refine bs_aload_n dX12_clause_2 rfl ?_
  refine bs_getI dX12_clause_3 fX12_205 (H.s 0 rfl rfl rfl) ?_
  refine bs_topq (x' := nI j) (hI) ?_
  refine bs_imul dX12_clause_6 ?_
  refine bs_aload_n dX12_clause_7 rfl ?_
  refine bs_getR dX12_clause_8 fX12_64 (H.s 0 rfl rfl rfl) (H.r 0 28 rfl rfl rfl) ?_
  refine bs_aload_n dX12_clause_11 rfl ?_
  refine bs_getI dX12_clause_12 fX12_205 (H.s 0 rfl rfl rfl) ?_
  refine bs_topq (x' := nI j) (hI) ?_
  refine bs_iald dX12_clause_15 (H.ss 19 rfl rfl) (j := j) (bs_ix_n hj (by decide)) ?_
  refine bs_iadd dX12_clause_16 ?_
  refine bs_istore_n dX12_clause_17 rfl (by decide) ?_
  refine bs_aload_n dX12_clause_18 rfl ?_
  refine bs_callV dX12_clause_19 qX12_180 (m_look (x := x) (H.s 0 rfl rfl rfl) h8 h7) rfl (H.s 0 rfl rfl rfl) rfl (Nat.le_of_ble_eq_true rfl) ⟨⟨by decide, by decide⟩, by decide, by decide⟩ (fun v1 nx1 sh1 mu1 hp1 => ?_)
  obtain ⟨rfl, rfl, rfl, rfl⟩ := hp1
  refine bs_bipush (v := 119) dX12_clause_22 (by decide) ?_
  refine bs_icmp_eq (tgt := 32) dX12_clause_24 (by decide) (fun c24 => ?_) (fun c24 => ?_)
  · first | exact absurd (by decide) c24 | exact absurd c24 (by decide)
  · refine bs_aload_n dX12_clause_27 rfl ?_
    refine bs_callV dX12_clause_28 qX12_164 (m_bad (x := x) (H.s 0 rfl rfl rfl) h8 h9) rfl (H.s 0 rfl rfl rfl) rfl (Nat.le_of_ble_eq_true rfl) ⟨⟨by decide, by decide⟩, by decide, by decide⟩ (fun v2 nx2 sh2 mu2 hp2 => ?_)
    obtain ⟨rfl, rfl, rfl, rfl⟩ := hp2
    exact bs_vret dX12_clause_31 rfl (by decide) (by decide) ⟨rfl, rfl, rfl, rfl⟩
theorem bs_St.upi {T : List bs_Ce} {x : Nat} {sh : bs_Sh} {mu : bs_Mm} (H : bs_St T x sh mu) (a j : Nat) (v : Value) (h : ∀ i q, T[i]? = some q → a = x + i → bs_rv (q.2 j) = none) : bs_St T x sh (bs_up mu a j v) := fun i q hq => ⟨(H i q hq).1, fun k b hb => by
  by_cases ha : x + i = a
  · by_cases hk : k = j
    · subst hk
      rw [h i q hq ha.symm] at hb
      cases hb
    · rw [bs_up_j hk]
      exact (H i q hq).2 k b hb
  · rw [bs_up_f ha]
    exact (H i q hq).2 k b hb⟩
set_option maxHeartbeats 4000000 in
set_option maxRecDepth 100000 in
theorem m_readFigure {x nx : Nat} {sh : bs_Sh} {mu : bs_Mm} (G : bs_Fr (bs_tM x) x sh mu) (j : Nat) (hj : j < 13) : bs_C mX12_readFigure (bs_rm 3 0 0) [.ref x, .int (nI j)] nx sh mu (bs_an nx sh (.int 0)) := by
  have H := G.st
  refine bs_ct (by decide +kernel) (Nat.le_of_ble_eq_true rfl) ?_
  refine bs_aload_n dX12_readFigure_0 rfl ?_
  refine bs_iload_n dX12_readFigure_1 rfl ?_
  refine bs_putI dX12_readFigure_2 pX12_161 (H.s 0 rfl rfl rfl) ?_
  refine bs_aload_n dX12_readFigure_5 rfl ?_
  refine bs_iconst (v := 0) dX12_readFigure_6 (by decide) ?_
  refine bs_putI dX12_readFigure_7 pX12_135 (H.s 0 rfl rfl rfl) ?_
  refine bs_aload_n dX12_readFigure_10 rfl ?_
  refine bs_iconst (v := (-1)) dX12_readFigure_11 (by decide) ?_
  refine bs_putI dX12_readFigure_12 pX12_142 (H.s 0 rfl rfl rfl) ?_
  refine bs_aload_n dX12_readFigure_15 rfl ?_
  refine bs_iconst (v := 0) dX12_readFigure_16 (by decide) ?_
  refine bs_putI dX12_readFigure_17 pX12_193 (H.s 0 rfl rfl rfl) ?_
  refine bs_aload_n dX12_readFigure_20 rfl ?_
  refine bs_iconst (v := 0) dX12_readFigure_21 (by decide) ?_
  refine bs_putI dX12_readFigure_22 pX12_158 (H.s 0 rfl rfl rfl) ?_
  refine bs_aload_n dX12_readFigure_25 rfl ?_
  refine bs_getR dX12_readFigure_26 fX12_25 (H.s 0 rfl rfl rfl) (b := x + 6) (by simp (disch := omega) only [bs_up_j, bs_up_f]; exact H.r 0 11 rfl rfl rfl) ?_
  refine bs_aload_n dX12_readFigure_29 rfl ?_
  refine bs_getI dX12_readFigure_30 fX12_161 (H.s 0 rfl rfl rfl) ?_
  refine bs_topq (x' := nI j) (by simp (disch := omega) only [bs_up_j, bs_up_f, bs_up_eq, bs_iv_i]) ?_
  refine bs_iconst (v := 0) dX12_readFigure_33 (by decide) ?_
  refine bs_iast (n := 13) dX12_readFigure_34 (H.ss 6 rfl rfl) (j := j) (bs_ix_n (by omega) (by decide)) ?_
  refine bs_aload_n dX12_readFigure_35 rfl ?_
  refine bs_getR dX12_readFigure_36 fX12_31 (H.s 0 rfl rfl rfl) (b := x + 8) (by simp (disch := omega) only [bs_up_j, bs_up_f]; exact H.r 0 13 rfl rfl rfl) ?_
  refine bs_aload_n dX12_readFigure_39 rfl ?_
  refine bs_getI dX12_readFigure_40 fX12_161 (H.s 0 rfl rfl rfl) ?_
  refine bs_topq (x' := nI j) (by simp (disch := omega) only [bs_up_j, bs_up_f, bs_up_eq, bs_iv_i]) ?_
  refine bs_iconst (v := 0) dX12_readFigure_43 (by decide) ?_
  refine bs_iast (n := 13) dX12_readFigure_44 (H.ss 8 rfl rfl) (j := j) (bs_ix_n (by omega) (by decide)) ?_
  refine bs_aload_n dX12_readFigure_45 rfl ?_
  refine bs_getR dX12_readFigure_46 fX12_49 (H.s 0 rfl rfl rfl) (b := x + 14) (by simp (disch := omega) only [bs_up_j, bs_up_f]; exact H.r 0 19 rfl rfl rfl) ?_
  refine bs_aload_n dX12_readFigure_49 rfl ?_
  refine bs_getI dX12_readFigure_50 fX12_161 (H.s 0 rfl rfl rfl) ?_
  refine bs_topq (x' := nI j) (by simp (disch := omega) only [bs_up_j, bs_up_f, bs_up_eq, bs_iv_i]) ?_
  refine bs_iconst (v := 0) dX12_readFigure_53 (by decide) ?_
  refine bs_iast (n := 13) dX12_readFigure_54 (H.ss 14 rfl rfl) (j := j) (bs_ix_n (by omega) (by decide)) ?_
  refine bs_iconst (v := 0) dX12_readFigure_55 (by decide) ?_
  refine bs_istore_n dX12_readFigure_56 rfl (by decide) ?_
  refine bs_iload_n dX12_readFigure_57 rfl ?_
  refine bs_bipush (v := 8) dX12_readFigure_58 (by decide) ?_
  refine bs_icmp_ge (tgt := 76) dX12_readFigure_60 (by decide) (fun c60 => ?_) (fun c60 => ?_)
  · first | exact absurd (by decide) c60 | exact absurd c60 (by decide)
  · refine bs_aload_n dX12_readFigure_63 rfl ?_
    refine bs_getR dX12_readFigure_64 fX12_55 (H.s 0 rfl rfl rfl) (b := x + 16) (by simp (disch := omega) only [bs_up_j, bs_up_f]; exact H.r 0 22 rfl rfl rfl) ?_
    refine bs_iload_n dX12_readFigure_67 rfl ?_
    refine bs_iconst (v := (-1)) dX12_readFigure_68 (by decide) ?_
    refine bs_iast (n := 8) dX12_readFigure_69 (H.ss 16 rfl rfl) (j := 0) (bs_ix_d (by decide) (by decide) (by decide)) ?_
    refine bs_iinc dX12_readFigure_70 rfl rfl ?_
    refine bs_goto (tgt := 57) dX12_readFigure_73 (by decide) ?_
    refine bs_iload_n dX12_readFigure_57 rfl ?_
    refine bs_bipush (v := 8) dX12_readFigure_58 (by decide) ?_
    refine bs_icmp_ge (tgt := 76) dX12_readFigure_60 (by decide) (fun c60 => ?_) (fun c60 => ?_)
    · first | exact absurd (by decide) c60 | exact absurd c60 (by decide)
    · refine bs_aload_n dX12_readFigure_63 rfl ?_
      refine bs_getR dX12_readFigure_64 fX12_55 (H.s 0 rfl rfl rfl) (b := x + 16) (by simp (disch := omega) only [bs_up_j, bs_up_f]; exact H.r 0 22 rfl rfl rfl) ?_
      refine bs_iload_n dX12_readFigure_67 rfl ?_
      refine bs_iconst (v := (-1)) dX12_readFigure_68 (by decide) ?_
      refine bs_iast (n := 8) dX12_readFigure_69 (H.ss 16 rfl rfl) (j := 1) (bs_ix_d (by decide) (by decide) (by decide)) ?_
      refine bs_iinc dX12_readFigure_70 rfl rfl ?_
      refine bs_goto (tgt := 57) dX12_readFigure_73 (by decide) ?_
      refine bs_iload_n dX12_readFigure_57 rfl ?_
      refine bs_bipush (v := 8) dX12_readFigure_58 (by decide) ?_
      refine bs_icmp_ge (tgt := 76) dX12_readFigure_60 (by decide) (fun c60 => ?_) (fun c60 => ?_)
      · first | exact absurd (by decide) c60 | exact absurd c60 (by decide)
      · refine bs_aload_n dX12_readFigure_63 rfl ?_
        refine bs_getR dX12_readFigure_64 fX12_55 (H.s 0 rfl rfl rfl) (b := x + 16) (by simp (disch := omega) only [bs_up_j, bs_up_f]; exact H.r 0 22 rfl rfl rfl) ?_
        refine bs_iload_n dX12_readFigure_67 rfl ?_
        refine bs_iconst (v := (-1)) dX12_readFigure_68 (by decide) ?_
        refine bs_iast (n := 8) dX12_readFigure_69 (H.ss 16 rfl rfl) (j := 2) (bs_ix_d (by decide) (by decide) (by decide)) ?_
        refine bs_iinc dX12_readFigure_70 rfl rfl ?_
        refine bs_goto (tgt := 57) dX12_readFigure_73 (by decide) ?_
        refine bs_iload_n dX12_readFigure_57 rfl ?_
        refine bs_bipush (v := 8) dX12_readFigure_58 (by decide) ?_
        refine bs_icmp_ge (tgt := 76) dX12_readFigure_60 (by decide) (fun c60 => ?_) (fun c60 => ?_)
        · first | exact absurd (by decide) c60 | exact absurd c60 (by decide)
        · refine bs_aload_n dX12_readFigure_63 rfl ?_
          refine bs_getR dX12_readFigure_64 fX12_55 (H.s 0 rfl rfl rfl) (b := x + 16) (by simp (disch := omega) only [bs_up_j, bs_up_f]; exact H.r 0 22 rfl rfl rfl) ?_
          refine bs_iload_n dX12_readFigure_67 rfl ?_
          refine bs_iconst (v := (-1)) dX12_readFigure_68 (by decide) ?_
          refine bs_iast (n := 8) dX12_readFigure_69 (H.ss 16 rfl rfl) (j := 3) (bs_ix_d (by decide) (by decide) (by decide)) ?_
          refine bs_iinc dX12_readFigure_70 rfl rfl ?_
          refine bs_goto (tgt := 57) dX12_readFigure_73 (by decide) ?_
          refine bs_iload_n dX12_readFigure_57 rfl ?_
          refine bs_bipush (v := 8) dX12_readFigure_58 (by decide) ?_
          refine bs_icmp_ge (tgt := 76) dX12_readFigure_60 (by decide) (fun c60 => ?_) (fun c60 => ?_)
          · first | exact absurd (by decide) c60 | exact absurd c60 (by decide)
          · refine bs_aload_n dX12_readFigure_63 rfl ?_
            refine bs_getR dX12_readFigure_64 fX12_55 (H.s 0 rfl rfl rfl) (b := x + 16) (by simp (disch := omega) only [bs_up_j, bs_up_f]; exact H.r 0 22 rfl rfl rfl) ?_
            refine bs_iload_n dX12_readFigure_67 rfl ?_
            refine bs_iconst (v := (-1)) dX12_readFigure_68 (by decide) ?_
            refine bs_iast (n := 8) dX12_readFigure_69 (H.ss 16 rfl rfl) (j := 4) (bs_ix_d (by decide) (by decide) (by decide)) ?_
            refine bs_iinc dX12_readFigure_70 rfl rfl ?_
            refine bs_goto (tgt := 57) dX12_readFigure_73 (by decide) ?_
            refine bs_iload_n dX12_readFigure_57 rfl ?_
            refine bs_bipush (v := 8) dX12_readFigure_58 (by decide) ?_
            refine bs_icmp_ge (tgt := 76) dX12_readFigure_60 (by decide) (fun c60 => ?_) (fun c60 => ?_)
            · first | exact absurd (by decide) c60 | exact absurd c60 (by decide)
            · refine bs_aload_n dX12_readFigure_63 rfl ?_
              refine bs_getR dX12_readFigure_64 fX12_55 (H.s 0 rfl rfl rfl) (b := x + 16) (by simp (disch := omega) only [bs_up_j, bs_up_f]; exact H.r 0 22 rfl rfl rfl) ?_
              refine bs_iload_n dX12_readFigure_67 rfl ?_
              refine bs_iconst (v := (-1)) dX12_readFigure_68 (by decide) ?_
              refine bs_iast (n := 8) dX12_readFigure_69 (H.ss 16 rfl rfl) (j := 5) (bs_ix_d (by decide) (by decide) (by decide)) ?_
              refine bs_iinc dX12_readFigure_70 rfl rfl ?_
              refine bs_goto (tgt := 57) dX12_readFigure_73 (by decide) ?_
              refine bs_iload_n dX12_readFigure_57 rfl ?_
              refine bs_bipush (v := 8) dX12_readFigure_58 (by decide) ?_
              refine bs_icmp_ge (tgt := 76) dX12_readFigure_60 (by decide) (fun c60 => ?_) (fun c60 => ?_)
              · first | exact absurd (by decide) c60 | exact absurd c60 (by decide)
              · refine bs_aload_n dX12_readFigure_63 rfl ?_
                refine bs_getR dX12_readFigure_64 fX12_55 (H.s 0 rfl rfl rfl) (b := x + 16) (by simp (disch := omega) only [bs_up_j, bs_up_f]; exact H.r 0 22 rfl rfl rfl) ?_
                refine bs_iload_n dX12_readFigure_67 rfl ?_
                refine bs_iconst (v := (-1)) dX12_readFigure_68 (by decide) ?_
                refine bs_iast (n := 8) dX12_readFigure_69 (H.ss 16 rfl rfl) (j := 6) (bs_ix_d (by decide) (by decide) (by decide)) ?_
                refine bs_iinc dX12_readFigure_70 rfl rfl ?_
                refine bs_goto (tgt := 57) dX12_readFigure_73 (by decide) ?_
                refine bs_iload_n dX12_readFigure_57 rfl ?_
                refine bs_bipush (v := 8) dX12_readFigure_58 (by decide) ?_
                refine bs_icmp_ge (tgt := 76) dX12_readFigure_60 (by decide) (fun c60 => ?_) (fun c60 => ?_)
                · first | exact absurd (by decide) c60 | exact absurd c60 (by decide)
                · refine bs_aload_n dX12_readFigure_63 rfl ?_
                  refine bs_getR dX12_readFigure_64 fX12_55 (H.s 0 rfl rfl rfl) (b := x + 16) (by simp (disch := omega) only [bs_up_j, bs_up_f]; exact H.r 0 22 rfl rfl rfl) ?_
                  refine bs_iload_n dX12_readFigure_67 rfl ?_
                  refine bs_iconst (v := (-1)) dX12_readFigure_68 (by decide) ?_
                  refine bs_iast (n := 8) dX12_readFigure_69 (H.ss 16 rfl rfl) (j := 7) (bs_ix_d (by decide) (by decide) (by decide)) ?_
                  refine bs_iinc dX12_readFigure_70 rfl rfl ?_
                  refine bs_goto (tgt := 57) dX12_readFigure_73 (by decide) ?_
                  refine bs_iload_n dX12_readFigure_57 rfl ?_
                  refine bs_bipush (v := 8) dX12_readFigure_58 (by decide) ?_
                  refine bs_icmp_ge (tgt := 76) dX12_readFigure_60 (by decide) (fun c60 => ?_) (fun c60 => ?_)
                  · refine bs_aload_n dX12_readFigure_76 rfl ?_
                    refine bs_callV dX12_readFigure_77 qX12_199 (m_balloon (x := x) (H.s 0 rfl rfl rfl) (by simp (disch := omega) only [bs_up_j, bs_up_f, bs_up_eq, bs_iv_i]) (by simp (disch := omega) only [bs_up_j, bs_up_f, bs_up_eq, bs_iv_i]; exact G.i 0 7 rfl rfl rfl) (by simp (disch := omega) only [bs_up_j, bs_up_f, bs_up_eq, bs_iv_i])) rfl (H.s 0 rfl rfl rfl) rfl (Nat.le_of_ble_eq_true rfl) ⟨⟨by decide, by decide⟩, by decide, by decide⟩ (fun v1 nx1 sh1 mu1 hp1 => ?_)
                    obtain ⟨rfl, rfl, rfl, rfl⟩ := hp1
                    refine bs_aload_n dX12_readFigure_80 rfl ?_
                    refine bs_getI dX12_readFigure_81 fX12_142 (H.s 0 rfl rfl rfl) ?_
                    refine bs_topq (x' := 0) (by simp (disch := omega) only [bs_up_j, bs_up_f, bs_up_eq, bs_iv_i]) ?_
                    refine bs_iconst (v := (-1)) dX12_readFigure_84 (by decide) ?_
                    refine bs_icmp_ne (tgt := 128) dX12_readFigure_85 (by decide) (fun c85 => ?_) (fun c85 => ?_)
                    · refine bs_aload_n dX12_readFigure_128 rfl ?_
                      refine bs_getI dX12_readFigure_129 fX12_142 (H.s 0 rfl rfl rfl) ?_
                      refine bs_topq (x' := 0) (by simp (disch := omega) only [bs_up_j, bs_up_f, bs_up_eq, bs_iv_i]) ?_
                      refine bs_iconst (v := (-1)) dX12_readFigure_132 (by decide) ?_
                      refine bs_icmp_ne (tgt := 148) dX12_readFigure_133 (by decide) (fun c133 => ?_) (fun c133 => ?_)
                      · refine bs_aload_n dX12_readFigure_148 rfl ?_
                        refine bs_getI dX12_readFigure_149 fX12_142 (H.s 0 rfl rfl rfl) ?_
                        refine bs_topq (x' := 0) (by simp (disch := omega) only [bs_up_j, bs_up_f, bs_up_eq, bs_iv_i]) ?_
                        refine bs_iconst (v := (-1)) dX12_readFigure_152 (by decide) ?_
                        refine bs_icmp_ne (tgt := 160) dX12_readFigure_153 (by decide) (fun c153 => ?_) (fun c153 => ?_)
                        · refine bs_aload_n dX12_readFigure_160 rfl ?_
                          refine bs_getI dX12_readFigure_161 fX12_142 (H.s 0 rfl rfl rfl) ?_
                          refine bs_topq (x' := 0) (by simp (disch := omega) only [bs_up_j, bs_up_f, bs_up_eq, bs_iv_i]) ?_
                          exact bs_iret dX12_readFigure_164 rfl (by decide) (by decide) ⟨rfl, rfl, rfl⟩
                        · first | exact absurd (by decide) c153 | exact absurd c153 (by decide)
                      · first | exact absurd (by decide) c133 | exact absurd c133 (by decide)
                    · first | exact absurd (by decide) c85 | exact absurd c85 (by decide)
                  · first | exact absurd (by decide) c60 | exact absurd c60 (by decide)
/-- what no reference lies in -/
theorem bs_St.up_x {x : Nat} {sh : bs_Sh} {mu : bs_Mm} (H : bs_St (bs_tM x) x sh mu) (j : Nat) (v : Value) (h : bs_rv (bs_li0 (bs_gM x) j) = none) : bs_St (bs_tM x) x sh (bs_up mu x j v) :=
  H.upi x j v fun i q hq e => by
    obtain rfl : i = 0 := by omega
    cases hq
    exact h
theorem bs_St.up_19 {x : Nat} {sh : bs_Sh} {mu : bs_Mm} (H : bs_St (bs_tM x) x sh mu) (j : Nat) (v : Value) : bs_St (bs_tM x) x sh (bs_up mu (x + 19) j v) :=
  H.upi (x + 19) j v fun i q hq e => by
    obtain rfl : i = 19 := by omega
    cases hq
    rfl
set_option maxHeartbeats 4000000 in
set_option maxRecDepth 100000 in
theorem m_readRule {x nx : Nat} {sh : bs_Sh} {mu : bs_Mm} (G : bs_Fr (bs_tM x) x sh mu) (j : Nat) (hj : j < 7) : bs_C mX12_readRule (bs_rm 3 0 0) [.ref x, .int (nI j)] nx sh mu (bs_an nx sh (.int 0)) := by
  have H := G.st
  refine bs_ct (by decide +kernel) (Nat.le_of_ble_eq_true rfl) ?_
  refine bs_aload_n dX12_readRule_0 rfl ?_
  refine bs_iload_n dX12_readRule_1 rfl ?_
  refine bs_putI dX12_readRule_2 pX12_205 (H.s 0 rfl rfl rfl) ?_
  refine bs_aload_n dX12_readRule_5 rfl ?_
  refine bs_iconst (v := 0) dX12_readRule_6 (by decide) ?_
  refine bs_putI dX12_readRule_7 pX12_135 (H.s 0 rfl rfl rfl) ?_
  refine bs_aload_n dX12_readRule_10 rfl ?_
  refine bs_iconst (v := (-1)) dX12_readRule_11 (by decide) ?_
  refine bs_putI dX12_readRule_12 pX12_142 (H.s 0 rfl rfl rfl) ?_
  refine bs_aload_n dX12_readRule_15 rfl ?_
  refine bs_iconst (v := 0) dX12_readRule_16 (by decide) ?_
  refine bs_putI dX12_readRule_17 pX12_193 (H.s 0 rfl rfl rfl) ?_
  refine bs_aload_n dX12_readRule_20 rfl ?_
  refine bs_iconst (v := 0) dX12_readRule_21 (by decide) ?_
  refine bs_putI dX12_readRule_22 pX12_208 (H.s 0 rfl rfl rfl) ?_
  refine bs_aload_n dX12_readRule_25 rfl ?_
  refine bs_getR dX12_readRule_26 fX12_64 (H.s 0 rfl rfl rfl) (b := x + 19) (by simp (disch := omega) only [bs_up_j, bs_up_f]; exact H.r 0 28 rfl rfl rfl) ?_
  refine bs_iload_n dX12_readRule_29 rfl ?_
  refine bs_iconst (v := 0) dX12_readRule_30 (by decide) ?_
  refine bs_iast (n := 7) dX12_readRule_31 (H.ss 19 rfl rfl) (j := j) (bs_ix_n (by omega) (by decide)) ?_
  refine bs_aload_n dX12_readRule_32 rfl ?_
  refine bs_callV dX12_readRule_33 qX12_243 (m_clause (x := x) ((((((H.up_x 32 _ rfl).up_x 8 _ rfl).up_x 9 _ rfl).up_x 10 _ rfl).up_x 33 _ rfl).up_19 j _) (by simp (disch := omega) only [bs_up_j, bs_up_f, bs_up_eq, bs_iv_i]) (by simp (disch := omega) only [bs_up_j, bs_up_f, bs_up_eq, bs_iv_i]; exact G.i 0 7 rfl rfl rfl) (by simp (disch := omega) only [bs_up_j, bs_up_f, bs_up_eq, bs_iv_i]) j hj (by simp (disch := omega) only [bs_up_j, bs_up_f, bs_up_eq, bs_iv_i])) rfl (H.s 0 rfl rfl rfl) rfl (Nat.le_of_ble_eq_true rfl) ⟨⟨by decide, by decide⟩, by decide, by decide⟩ (fun v1 nx1 sh1 mu1 hp1 => ?_)
  obtain ⟨rfl, rfl, rfl, rfl⟩ := hp1
  refine bs_aload_n dX12_readRule_36 rfl ?_
  refine bs_getI dX12_readRule_37 fX12_142 (H.s 0 rfl rfl rfl) ?_
  refine bs_topq (x' := 0) (by simp (disch := omega) only [bs_up_j, bs_up_f, bs_up_eq, bs_iv_i]) ?_
  refine bs_iconst (v := (-1)) dX12_readRule_40 (by decide) ?_
  refine bs_icmp_ne (tgt := 70) dX12_readRule_41 (by decide) (fun c41 => ?_) (fun c41 => ?_)
  · refine bs_aload_n dX12_readRule_70 rfl ?_
    refine bs_getI dX12_readRule_71 fX12_142 (H.s 0 rfl rfl rfl) ?_
    refine bs_topq (x' := 0) (by simp (disch := omega) only [bs_up_j, bs_up_f, bs_up_eq, bs_iv_i]) ?_
    refine bs_iconst (v := (-1)) dX12_readRule_74 (by decide) ?_
    refine bs_icmp_ne (tgt := 90) dX12_readRule_75 (by decide) (fun c75 => ?_) (fun c75 => ?_)
    · refine bs_aload_n dX12_readRule_90 rfl ?_
      refine bs_getI dX12_readRule_91 fX12_142 (H.s 0 rfl rfl rfl) ?_
      refine bs_topq (x' := 0) (by simp (disch := omega) only [bs_up_j, bs_up_f, bs_up_eq, bs_iv_i]) ?_
      exact bs_iret dX12_readRule_94 rfl (by decide) (by decide) ⟨rfl, rfl, rfl⟩
    · first | exact absurd (by decide) c75 | exact absurd c75 (by decide)
  · first | exact absurd (by decide) c41 | exact absurd c41 (by decide)
set_option maxHeartbeats 4000000 in
set_option maxRecDepth 100000 in
theorem m_fault {x nx : Nat} {sh : bs_Sh} {mu : bs_Mm} (G : bs_Fr (bs_tM x) x sh mu) (a : Int32) : bs_C mX12_fault (bs_rm 9 0 0) [.ref x, .int a] nx sh mu (bs_an nx sh (.int (bs_uk a))) := by
  have H := G.st
  refine bs_ct (by decide +kernel) (Nat.le_of_ble_eq_true rfl) ?_
  refine bs_iload_n dX12_fault_0 rfl ?_
  refine bs_if_ne (tgt := 13) dX12_fault_1 (by decide) (fun c1 => ?_) (fun c1 => ?_)
  · refine bs_iload_n dX12_fault_13 rfl ?_
    refine bs_iconst (v := 1) dX12_fault_14 (by decide) ?_
    refine bs_icmp_ne (tgt := 27) dX12_fault_15 (by decide) (fun c15 => ?_) (fun c15 => ?_)
    · refine bs_bipush (v := (-2)) dX12_fault_27 (by decide) ?_
      exact bs_iret dX12_fault_29 rfl (by decide) (by decide) ⟨by rw [show bs_uk a = -2 from if_neg (fun z => z.elim c1 c15)], rfl, rfl⟩
    · refine bs_aload_n dX12_fault_18 rfl ?_
      refine bs_bipush (v := 6) dX12_fault_19 (by decide) ?_
      refine bs_topq (x' := nI 6) (by decide) ?_
      refine bs_callV dX12_fault_21 qX12_249 (m_readRule (x := x) G 6 (by decide)) rfl (H.s 0 rfl rfl rfl) rfl (Nat.le_of_ble_eq_true rfl) ⟨⟨by decide, by decide⟩, by decide, by decide⟩ (fun v1 nx1 sh1 mu1 hp1 => ?_)
      obtain ⟨rfl, rfl, rfl⟩ := hp1
      refine bs_goto (tgt := 29) dX12_fault_24 (by decide) ?_
      exact bs_iret dX12_fault_29 rfl (by decide) (by decide) ⟨by rw [show bs_uk a = 0 from if_pos (Or.inr c15)], rfl, rfl⟩
  · refine bs_aload_n dX12_fault_4 rfl ?_
    refine bs_bipush (v := 12) dX12_fault_5 (by decide) ?_
    refine bs_topq (x' := nI 12) (by decide) ?_
    refine bs_callV dX12_fault_7 qX12_246 (m_readFigure (x := x) G 12 (by decide)) rfl (H.s 0 rfl rfl rfl) rfl (Nat.le_of_ble_eq_true rfl) ⟨⟨by decide, by decide⟩, by decide, by decide⟩ (fun v1 nx1 sh1 mu1 hp1 => ?_)
    obtain ⟨rfl, rfl, rfl⟩ := hp1
    refine bs_goto (tgt := 29) dX12_fault_10 (by decide) ?_
    exact bs_iret dX12_fault_29 rfl (by decide) (by decide) ⟨by rw [show bs_uk a = 0 from if_pos (Or.inl c1)], rfl, rfl⟩
set_option maxHeartbeats 4000000 in
set_option maxRecDepth 100000 in
theorem m_figure {x nx : Nat} {sh : bs_Sh} {mu : bs_Mm} (G : bs_Fr (bs_tM x) x sh mu) : bs_C mX12_figure (bs_rm 9 0 0) [.ref x] nx sh mu (bs_an nx sh (.int (-1))) := by
  have H := G.st
  refine bs_ct (by decide +kernel) (Nat.le_of_ble_eq_true rfl) ?_
  refine bs_aload_n dX12_figure_0 rfl ?_
  refine bs_getI dX12_figure_1 fX12_252 (H.s 0 rfl rfl rfl) ?_
  refine bs_topq (x' := 0) (G.i 0 20 rfl rfl rfl) ?_
  refine bs_bipush (v := 12) dX12_figure_4 (by decide) ?_
  refine bs_icmp_eq (tgt := 21) dX12_figure_6 (by decide) (fun c6 => ?_) (fun c6 => ?_)
  · first | exact absurd (by decide) c6 | exact absurd c6 (by decide)
  · refine bs_aload_n dX12_figure_9 rfl ?_
    refine bs_aload_n dX12_figure_10 rfl ?_
    refine bs_getI dX12_figure_11 fX12_252 (H.s 0 rfl rfl rfl) ?_
    refine bs_topq (x' := 0) (G.i 0 20 rfl rfl rfl) ?_
    refine bs_topq (x' := nI 0) rfl ?_
    refine bs_callV dX12_figure_14 qX12_246 (m_readFigure (x := x) G 0 (by decide)) rfl (H.s 0 rfl rfl rfl) rfl (Nat.le_of_ble_eq_true rfl) ⟨⟨by decide, by decide⟩, by decide, by decide⟩ (fun v1 nx1 sh1 mu1 hp1 => ?_)
    obtain ⟨rfl, rfl, rfl⟩ := hp1
    refine bs_iconst (v := (-1)) dX12_figure_17 (by decide) ?_
    refine bs_icmp_eq (tgt := 23) dX12_figure_18 (by decide) (fun c18 => ?_) (fun c18 => ?_)
    · first | exact absurd (by decide) c18 | exact absurd c18 (by decide)
    · refine bs_iconst (v := (-1)) dX12_figure_21 (by decide) ?_
      exact bs_iret dX12_figure_22 rfl (by decide) (by decide) ⟨rfl, rfl, rfl⟩
set_option maxHeartbeats 4000000 in
set_option maxRecDepth 100000 in
theorem m_rule {x nx : Nat} {sh : bs_Sh} {mu : bs_Mm} (G : bs_Fr (bs_tM x) x sh mu) : bs_C mX12_rule (bs_rm 9 0 0) [.ref x] nx sh mu (bs_an nx sh (.int (-1))) := by
  have H := G.st
  refine bs_ct (by decide +kernel) (Nat.le_of_ble_eq_true rfl) ?_
  refine bs_aload_n dX12_rule_0 rfl ?_
  refine bs_getI dX12_rule_1 fX12_255 (H.s 0 rfl rfl rfl) ?_
  refine bs_topq (x' := 0) (G.i 0 31 rfl rfl rfl) ?_
  refine bs_bipush (v := 6) dX12_rule_4 (by decide) ?_
  refine bs_icmp_eq (tgt := 21) dX12_rule_6 (by decide) (fun c6 => ?_) (fun c6 => ?_)
  · first | exact absurd (by decide) c6 | exact absurd c6 (by decide)
  · refine bs_aload_n dX12_rule_9 rfl ?_
    refine bs_aload_n dX12_rule_10 rfl ?_
    refine bs_getI dX12_rule_11 fX12_255 (H.s 0 rfl rfl rfl) ?_
    refine bs_topq (x' := 0) (G.i 0 31 rfl rfl rfl) ?_
    refine bs_topq (x' := nI 0) rfl ?_
    refine bs_callV dX12_rule_14 qX12_249 (m_readRule (x := x) G 0 (by decide)) rfl (H.s 0 rfl rfl rfl) rfl (Nat.le_of_ble_eq_true rfl) ⟨⟨by decide, by decide⟩, by decide, by decide⟩ (fun v1 nx1 sh1 mu1 hp1 => ?_)
    obtain ⟨rfl, rfl, rfl⟩ := hp1
    refine bs_iconst (v := (-1)) dX12_rule_17 (by decide) ?_
    refine bs_icmp_eq (tgt := 23) dX12_rule_18 (by decide) (fun c18 => ?_) (fun c18 => ?_)
    · first | exact absurd (by decide) c18 | exact absurd c18 (by decide)
    · refine bs_iconst (v := (-1)) dX12_rule_21 (by decide) ?_
      exact bs_iret dX12_rule_22 rfl (by decide) (by decide) ⟨rfl, rfl, rfl⟩
set_option maxHeartbeats 4000000 in
set_option maxRecDepth 100000 in
theorem m_sort {x nx : Nat} {sh : bs_Sh} {mu : bs_Mm} (G : bs_Fr (bs_tM x) x sh mu) (a b e : Int32) : bs_C mX12_sort (bs_rm 10 0 0) [.ref x, .int a, .int b, .int e] nx sh mu (bs_an nx sh (.int (bs_sk a b e))) := by
  have H := G.st
  refine bs_ct (by decide +kernel) (Nat.le_of_ble_eq_true rfl) ?_
  refine bs_iload_n dX12_sort_0 rfl ?_
  refine bs_iconst (v := 5) dX12_sort_1 (by decide) ?_
  refine bs_sipush (v := 200) dX12_sort_2 (by decide) ?_
  refine bs_callS dX12_sort_5 qX12_121 (m_in _ _ _) rfl rfl (Nat.le_of_ble_eq_true rfl) ⟨⟨by decide, by decide⟩, by decide, by decide⟩ (fun v1 nx1 sh1 mu1 hp1 => ?_)
  obtain ⟨rfl, rfl, rfl, rfl⟩ := hp1
  refine bs_if_eq (tgt := 40) dX12_sort_8 (by decide) (fun c8 => ?_) (fun c8 => ?_)
  · refine bs_iconst (v := (-1)) dX12_sort_40 (by decide) ?_
    exact bs_iret dX12_sort_41 rfl (by decide) (by decide) ⟨by rw [bs_sk_a c8], rfl, rfl⟩
  · refine bs_iload_n dX12_sort_11 rfl ?_
    refine bs_iconst (v := 0) dX12_sort_12 (by decide) ?_
    refine bs_bipush (v := 9) dX12_sort_13 (by decide) ?_
    refine bs_callS dX12_sort_15 qX12_121 (m_in _ _ _) rfl rfl (Nat.le_of_ble_eq_true rfl) ⟨⟨by decide, by decide⟩, by decide, by decide⟩ (fun v2 nx2 sh2 mu2 hp2 => ?_)
    obtain ⟨rfl, rfl, rfl, rfl⟩ := hp2
    refine bs_if_eq (tgt := 40) dX12_sort_18 (by decide) (fun c18 => ?_) (fun c18 => ?_)
    · refine bs_iconst (v := (-1)) dX12_sort_40 (by decide) ?_
      exact bs_iret dX12_sort_41 rfl (by decide) (by decide) ⟨by rw [bs_sk_b c18], rfl, rfl⟩
    · refine bs_iload_n dX12_sort_21 rfl ?_
      refine bs_iconst (v := 0) dX12_sort_22 (by decide) ?_
      refine bs_bipush (v := 99) dX12_sort_23 (by decide) ?_
      refine bs_callS dX12_sort_25 qX12_121 (m_in _ _ _) rfl rfl (Nat.le_of_ble_eq_true rfl) ⟨⟨by decide, by decide⟩, by decide, by decide⟩ (fun v3 nx3 sh3 mu3 hp3 => ?_)
      obtain ⟨rfl, rfl, rfl, rfl⟩ := hp3
      refine bs_if_eq (tgt := 40) dX12_sort_28 (by decide) (fun c28 => ?_) (fun c28 => ?_)
      · refine bs_iconst (v := (-1)) dX12_sort_40 (by decide) ?_
        exact bs_iret dX12_sort_41 rfl (by decide) (by decide) ⟨by rw [bs_sk_c c28], rfl, rfl⟩
      · refine bs_aload_n dX12_sort_31 rfl ?_
        refine bs_getI dX12_sort_32 fX12_125 (H.s 0 rfl rfl rfl) ?_
        refine bs_topq (x' := 0) (G.i 0 5 rfl rfl rfl) ?_
        refine bs_bipush (v := 6) dX12_sort_35 (by decide) ?_
        refine bs_icmp_ne (tgt := 42) dX12_sort_37 (by decide) (fun c37 => ?_) (fun c37 => ?_)
        · refine bs_aload_n dX12_sort_42 rfl ?_
          refine bs_getR dX12_sort_43 fX12_9 (H.s 0 rfl rfl rfl) (H.r 0 1 rfl rfl rfl) ?_
          refine bs_aload_n dX12_sort_46 rfl ?_
          refine bs_getI dX12_sort_47 fX12_125 (H.s 0 rfl rfl rfl) ?_
          refine bs_topq (x' := 0) (G.i 0 5 rfl rfl rfl) ?_
          refine bs_iload_n dX12_sort_50 rfl ?_
          refine bs_iast (n := 6) dX12_sort_51 (H.ss 1 rfl rfl) (j := 0) (bs_ix_n (by decide) (by decide)) ?_
          refine bs_aload_n dX12_sort_52 rfl ?_
          refine bs_getR dX12_sort_53 fX12_13 (H.s 0 rfl rfl rfl) (b := x + 2) (by simp (disch := omega) only [bs_up_f]; exact H.r 0 2 rfl rfl rfl) ?_
          refine bs_aload_n dX12_sort_56 rfl ?_
          refine bs_getI dX12_sort_57 fX12_125 (H.s 0 rfl rfl rfl) ?_
          refine bs_topq (x' := 0) (by simp (disch := omega) only [bs_up_f]; exact G.i 0 5 rfl rfl rfl) ?_
          refine bs_iload_n dX12_sort_60 rfl ?_
          refine bs_iast (n := 6) dX12_sort_61 (H.ss 2 rfl rfl) (j := 0) (bs_ix_n (by decide) (by decide)) ?_
          refine bs_aload_n dX12_sort_62 rfl ?_
          refine bs_getR dX12_sort_63 fX12_16 (H.s 0 rfl rfl rfl) (b := x + 3) (by simp (disch := omega) only [bs_up_f]; exact H.r 0 3 rfl rfl rfl) ?_
          refine bs_aload_n dX12_sort_66 rfl ?_
          refine bs_getI dX12_sort_67 fX12_125 (H.s 0 rfl rfl rfl) ?_
          refine bs_topq (x' := 0) (by simp (disch := omega) only [bs_up_f]; exact G.i 0 5 rfl rfl rfl) ?_
          refine bs_iload_n dX12_sort_70 rfl ?_
          refine bs_iast (n := 6) dX12_sort_71 (H.ss 3 rfl rfl) (j := 0) (bs_ix_n (by decide) (by decide)) ?_
          refine bs_aload_n dX12_sort_72 rfl ?_
          refine bs_dup dX12_sort_73 rfl ?_
          refine bs_getI dX12_sort_74 fX12_125 (H.s 0 rfl rfl rfl) ?_
          refine bs_topq (x' := 0) (by simp (disch := omega) only [bs_up_f]; exact G.i 0 5 rfl rfl rfl) ?_
          refine bs_iconst (v := 1) dX12_sort_77 (by decide) ?_
          refine bs_iadd dX12_sort_78 ?_
          refine bs_putI dX12_sort_79 pX12_125 (H.s 0 rfl rfl rfl) ?_
          refine bs_aload_n dX12_sort_82 rfl ?_
          refine bs_getI dX12_sort_83 fX12_125 (H.s 0 rfl rfl rfl) ?_
          refine bs_topq (x' := 1) (by simp (disch := omega) only [bs_up_j, bs_up_f, bs_up_eq, bs_iv_i]; rfl) ?_
          refine bs_iconst (v := 1) dX12_sort_86 (by decide) ?_
          refine bs_isub dX12_sort_87 ?_
          exact bs_iret dX12_sort_88 rfl (by decide) (by decide) ⟨by rw [bs_sk_1 c8 c18 c28]; rfl, rfl, rfl⟩
        · first | exact absurd (by decide) c37 | exact absurd c37 (by decide)
set_option maxHeartbeats 4000000 in
set_option maxRecDepth 100000 in
theorem m_run {x nx : Nat} {sh : bs_Sh} {mu : bs_Mm} (G : bs_Fr (bs_tM x) x sh mu) (z : Int64) : bs_C mX12_run (bs_rm 10 0 0) [.ref x, .long z] nx sh mu (bs_an nx sh (.int 0)) := by
  have H := G.st
  refine bs_ct (by decide +kernel) (Nat.le_of_ble_eq_true rfl) ?_
  refine bs_iconst (v := 0) dX12_run_0 (by decide) ?_
  refine bs_istore0_n (j := 2) dX12_run_1 rfl rfl (by decide) ?_
  refine bs_iload_n dX12_run_2 rfl ?_
  refine bs_aload_n dX12_run_3 rfl ?_
  refine bs_getI dX12_run_4 fX12_125 (H.s 0 rfl rfl rfl) ?_
  refine bs_topq (x' := 0) (G.i 0 5 rfl rfl rfl) ?_
  refine bs_icmp_ge (tgt := 28) dX12_run_7 (by decide) (fun c7 => ?_) (fun c7 => ?_)
  · refine bs_lload_n dX12_run_28 rfl ?_
    refine bs_lstore0 (j := 2) dX12_run_29 rfl rfl (by decide) ?_
    refine bs_iconst (v := 0) dX12_run_30 (by decide) ?_
    refine bs_istore0 (j := 4) dX12_run_31 rfl (by decide) ?_
    refine bs_iconst (v := 0) dX12_run_33 (by decide) ?_
    refine bs_istore dX12_run_34 rfl (by decide) ?_
    refine bs_iconst (v := 0) dX12_run_36 (by decide) ?_
    refine bs_istore dX12_run_37 rfl (by decide) ?_
    refine bs_iload dX12_run_39 rfl ?_
    refine bs_aload_n dX12_run_41 rfl ?_
    refine bs_getI dX12_run_42 fX12_393 (H.s 0 rfl rfl rfl) ?_
    refine bs_topq (x' := 0) (G.i 0 45 rfl rfl rfl) ?_
    refine bs_icmp_ge (tgt := 336) dX12_run_45 (by decide) (fun c45 => ?_) (fun c45 => ?_)
    · refine bs_aload_n dX12_run_336 rfl ?_
      refine bs_aload_n dX12_run_337 rfl ?_
      refine bs_getI dX12_run_338 fX12_393 (H.s 0 rfl rfl rfl) ?_
      refine bs_topq (x' := 0) (G.i 0 45 rfl rfl rfl) ?_
      refine bs_putI dX12_run_341 pX12_396 (H.s 0 rfl rfl rfl) ?_
      refine bs_iload dX12_run_344 rfl ?_
      exact bs_iret dX12_run_346 rfl (by decide) (by decide) ⟨rfl, rfl, rfl⟩
    · first | exact absurd (by decide) c45 | exact absurd c45 (by decide)
  · first | exact absurd (by decide) c7 | exact absurd c7 (by decide)
set_option maxHeartbeats 4000000 in
set_option maxRecDepth 100000 in
theorem m_bubble {x nx : Nat} {sh : bs_Sh} {mu : bs_Mm} (G : bs_Fr (bs_tM x) x sh mu) (a b e : Int32) : bs_C mX12_bubble_ (bs_rm 10 0 0) [.ref x, .int a, .int b, .int e] nx sh mu (bs_no nx sh (bs_up mu x 0 (.int 1)) (.int 0)) := by
  have H := G.st
  refine bs_ct (by decide +kernel) (Nat.le_of_ble_eq_true rfl) ?_
  refine bs_aload_n dX12_bubble__0 rfl ?_
  refine bs_aload_n dX12_bubble__1 rfl ?_
  refine bs_iload_n dX12_bubble__2 rfl ?_
  refine bs_iload_n dX12_bubble__3 rfl ?_
  refine bs_callV dX12_bubble__4 qX12_304 (m_isBub G _ _) rfl (H.s 0 rfl rfl rfl) rfl (Nat.le_of_ble_eq_true rfl) ⟨⟨by decide, by decide⟩, by decide, by decide⟩ (fun v1 nx1 sh1 mu1 hp1 => ?_)
  obtain ⟨rfl, rfl, rfl, rfl⟩ := hp1
  refine bs_if_eq (tgt := 23) dX12_bubble__7 (by decide) (fun c7 => ?_) (fun c7 => ?_)
  · refine bs_iconst (v := 1) dX12_bubble__23 (by decide) ?_
    refine bs_putI dX12_bubble__24 pX12_118 (H.s 0 rfl rfl rfl) ?_
    refine bs_aload_n dX12_bubble__27 rfl ?_
    refine bs_getI dX12_bubble__28 fX12_118 (H.s 0 rfl rfl rfl) ?_
    refine bs_topq (x' := 1) (by simp (disch := omega) only [bs_up_j, bs_up_f, bs_up_eq, bs_iv_i]) ?_
    refine bs_iconst (v := 1) dX12_bubble__31 (by decide) ?_
    refine bs_icmp_ne (tgt := 37) dX12_bubble__32 (by decide) (fun c32 => ?_) (fun c32 => ?_)
    · first | exact absurd (by decide) c32 | exact absurd c32 (by decide)
    · refine bs_iconst (v := 0) dX12_bubble__35 (by decide) ?_
      exact bs_iret dX12_bubble__36 rfl (by decide) (by decide) ⟨rfl, rfl, rfl, rfl⟩
  · exact absurd rfl c7
set_option maxHeartbeats 4000000 in
set_option maxRecDepth 100000 in
theorem m_guest {x nx : Nat} {sh : bs_Sh} {mu : bs_Mm} (G : bs_Fr (bs_tM x) x sh mu) (a b : Int32) : bs_C mX12_guest (bs_rm 10 0 0) [.ref x, .int a, .int b] nx sh mu (bs_no nx sh (bs_up mu x 0 (.int 1)) (.int 0)) := by
  have H := G.st
  refine bs_ct (by decide +kernel) (Nat.le_of_ble_eq_true rfl) ?_
  refine bs_aload_n dX12_guest_0 rfl ?_
  refine bs_iload_n dX12_guest_1 rfl ?_
  refine bs_iconst (v := 0) dX12_guest_2 (by decide) ?_
  refine bs_aload_n dX12_guest_3 rfl ?_
  refine bs_getI dX12_guest_4 fX12_396 (H.s 0 rfl rfl rfl) ?_
  refine bs_topq (x' := 0) (G.i 0 46 rfl rfl rfl) ?_
  refine bs_iconst (v := 1) dX12_guest_7 (by decide) ?_
  refine bs_isub dX12_guest_8 ?_
  refine bs_callS dX12_guest_9 qX12_121 (m_in _ _ _) rfl rfl (Nat.le_of_ble_eq_true rfl) ⟨⟨by decide, by decide⟩, by decide, by decide⟩ (fun v1 nx1 sh1 mu1 hp1 => ?_)
  obtain ⟨rfl, rfl, rfl, rfl⟩ := hp1
  refine bs_topq (x' := 0) (bs_in_n a) ?_
  refine bs_if_eq (tgt := 28) dX12_guest_12 (by decide) (fun c12 => ?_) (fun c12 => ?_)
  · refine bs_iconst (v := 1) dX12_guest_28 (by decide) ?_
    refine bs_putI dX12_guest_29 pX12_118 (H.s 0 rfl rfl rfl) ?_
    refine bs_aload_n dX12_guest_32 rfl ?_
    refine bs_getI dX12_guest_33 fX12_118 (H.s 0 rfl rfl rfl) ?_
    refine bs_topq (x' := 1) (by simp (disch := omega) only [bs_up_j, bs_up_f, bs_up_eq, bs_iv_i]) ?_
    refine bs_iconst (v := 1) dX12_guest_36 (by decide) ?_
    refine bs_icmp_ne (tgt := 44) dX12_guest_37 (by decide) (fun c37 => ?_) (fun c37 => ?_)
    · first | exact absurd (by decide) c37 | exact absurd c37 (by decide)
    · refine bs_iconst (v := 0) dX12_guest_40 (by decide) ?_
      refine bs_goto (tgt := 54) dX12_guest_41 (by decide) ?_
      exact bs_iret dX12_guest_54 rfl (by decide) (by decide) ⟨rfl, rfl, rfl, rfl⟩
  · exact absurd rfl c12
set_option maxHeartbeats 4000000 in
set_option maxRecDepth 100000 in
theorem m_worth {x nx : Nat} {sh : bs_Sh} {mu : bs_Mm} (G : bs_Fr (bs_tM x) x sh mu) (a b e f g i : Int32) : bs_C mX12_worth (bs_rm 10 0 0) [.ref x, .int a, .int b, .int e, .int f, .int g, .int i] nx sh mu (bs_no nx sh (bs_up mu x 0 (.int 1)) (.int 0)) := by
  have H := G.st
  refine bs_ct (by decide +kernel) (Nat.le_of_ble_eq_true rfl) ?_
  refine bs_aload_n dX12_worth_0 rfl ?_
  refine bs_iload_n dX12_worth_1 rfl ?_
  refine bs_iconst (v := 0) dX12_worth_2 (by decide) ?_
  refine bs_aload_n dX12_worth_3 rfl ?_
  refine bs_getI dX12_worth_4 fX12_255 (H.s 0 rfl rfl rfl) ?_
  refine bs_topq (x' := 0) (G.i 0 31 rfl rfl rfl) ?_
  refine bs_iconst (v := 1) dX12_worth_7 (by decide) ?_
  refine bs_isub dX12_worth_8 ?_
  refine bs_callS dX12_worth_9 qX12_121 (m_in _ _ _) rfl rfl (Nat.le_of_ble_eq_true rfl) ⟨⟨by decide, by decide⟩, by decide, by decide⟩ (fun v1 nx1 sh1 mu1 hp1 => ?_)
  obtain ⟨rfl, rfl, rfl, rfl⟩ := hp1
  refine bs_topq (x' := 0) (bs_in_n a) ?_
  refine bs_if_eq (tgt := 19) dX12_worth_12 (by decide) (fun c12 => ?_) (fun c12 => ?_)
  · refine bs_iconst (v := 1) dX12_worth_19 (by decide) ?_
    refine bs_putI dX12_worth_20 pX12_118 (H.s 0 rfl rfl rfl) ?_
    refine bs_aload_n dX12_worth_23 rfl ?_
    refine bs_getI dX12_worth_24 fX12_118 (H.s 0 rfl rfl rfl) ?_
    refine bs_topq (x' := 1) (by simp (disch := omega) only [bs_up_j, bs_up_f, bs_up_eq, bs_iv_i]) ?_
    refine bs_iconst (v := 1) dX12_worth_27 (by decide) ?_
    refine bs_icmp_ne (tgt := 35) dX12_worth_28 (by decide) (fun c28 => ?_) (fun c28 => ?_)
    · first | exact absurd (by decide) c28 | exact absurd c28 (by decide)
    · refine bs_iconst (v := 0) dX12_worth_31 (by decide) ?_
      refine bs_goto (tgt := 48) dX12_worth_32 (by decide) ?_
      exact bs_iret dX12_worth_48 rfl (by decide) (by decide) ⟨rfl, rfl, rfl, rfl⟩
  · exact absurd rfl c12
