noncomputable def FX12_far (m : Nat) (mu : bs_Mm) (p1 : Int32) (p2 : Int32) (p3 : Int32) : Option (Int32 × bs_Mm) :=
  fg_bd (FX12_isPoint m mu p1 p2) (fun v2 => 
  if v2 = 0 then (
    some ((-1), mu)
  ) else (
    fg_bd (FX12_isPoint m mu p1 p3) (fun v4 => 
    if v4 = 0 then (
      some ((-1), mu)
    ) else (
      fg_bd (FX12_findFars m mu p1) (fun mu6 => 
      fg_gd (fg_in (((nI 60) * p2) + p3) 3600) (
      if (1000000 : Int32) ≤ (bs_iv (mu6 (m + 24) (((nI 60) * p2) + p3).toNatClampNeg)) then (
        some ((-1), mu6)
      ) else (
        some ((bs_iv (mu6 (m + 24) (((nI 60) * p2) + p3).toNatClampNeg)), mu6)
      )))
    ))
  ))
set_option maxHeartbeats 4000000 in
theorem wX12_far {nx : Nat} {sh : bs_Sh} {R : Nat → Nat → Option Nat} {m : Nat} (HM : fg_S (bs_tM m) R m sh) {mu : bs_Mm} (hR : fg_R R mu) {p1 : Int32} {p2 : Int32} {p3 : Int32} {r : Int32 × bs_Mm} (h : FX12_far m mu p1 p2 p3 = some r) : bs_C mX12_far (bs_rm 3 0 0) [.ref m, .int p1, .int p2, .int p3] nx sh mu (fg_po R nx sh (some (.int r.1)) r.2) := by
  refine bs_ct (by decide +kernel) (Nat.le_of_ble_eq_true rfl) ?_
  have kr : ∀ q, r = q → fg_R R q.2 → (fg_po R nx sh (some (.int r.1)) r.2) (some (.int q.1)) nx sh q.2 := fun q e hq => by subst e; exact ⟨rfl, rfl, rfl, rfl, hq⟩
  unfold FX12_far at h
  refine bs_aload_n dX12_far_0 rfl ?_
  refine bs_iload_n dX12_far_1 rfl ?_
  refine bs_iload_n dX12_far_2 rfl ?_
  obtain ⟨v2, k1, h⟩ := fg_bdE h
  refine fg_callV dX12_far_3 qX12_307 (wX12_isPoint HM hR k1) rfl (HM.s 0 rfl rfl rfl) rfl (Nat.le_of_ble_eq_true rfl) (fg_cr (by first | decide | omega) (by decide)) (fun hR => ?_)
  refine bs_if_eq (tgt := 18) dX12_far_6 (by decide) (fun c => ?_) (fun c => ?_)
  · replace h := fg_ip c h
    refine bs_iconst (v := (-1)) dX12_far_18 (by decide) ?_
    cases h
    exact bs_iret dX12_far_19 rfl (Nat.zero_le _) (Nat.zero_le _) (kr _ rfl hR)
  · replace h := fg_iN c h
    refine bs_aload_n dX12_far_9 rfl ?_
    refine bs_iload_n dX12_far_10 rfl ?_
    refine bs_iload_n dX12_far_11 rfl ?_
    obtain ⟨v4, k3, h⟩ := fg_bdE h
    refine fg_callV dX12_far_12 qX12_307 (wX12_isPoint HM hR k3) rfl (HM.s 0 rfl rfl rfl) rfl (Nat.le_of_ble_eq_true rfl) (fg_cr (by first | decide | omega) (by decide)) (fun hR => ?_)
    refine bs_if_ne (tgt := 20) dX12_far_15 (by decide) (fun c => ?_) (fun c => ?_)
    · replace h := fg_iN c h
      refine bs_aload_n dX12_far_20 rfl ?_
      refine bs_iload_n dX12_far_21 rfl ?_
      obtain ⟨mu6, k5, h⟩ := fg_bdE h
      refine fg_callVv dX12_far_22 qX12_366 (wX12_findFars HM hR k5) rfl (HM.s 0 rfl rfl rfl) rfl (Nat.le_of_ble_eq_true rfl) (fg_cr (by first | decide | omega) (by decide)) (fun hR => ?_)
      refine bs_aload_n dX12_far_25 rfl ?_
      refine fg_getR (b := (m + 24)) dX12_far_26 fX12_80 (HM.s 0 rfl rfl rfl) hR (HM.r 0 36 rfl rfl rfl) ?_
      refine bs_bipush (v := (nI 60)) dX12_far_29 (by decide) ?_
      refine bs_iload_n dX12_far_31 rfl ?_
      refine bs_imul dX12_far_32 ?_
      refine bs_iload_n dX12_far_33 rfl ?_
      refine bs_iadd dX12_far_34 ?_
      obtain ⟨g7, h⟩ := fg_gdE h
      refine bs_iald dX12_far_35 (HM.ss 24 rfl rfl) (fg_in_ix g7) ?_
      refine bs_istore dX12_far_36 rfl (by decide) ?_
      refine bs_iload dX12_far_38 rfl ?_
      refine bs_ldcw (v := (1000000)) dX12_far_40 cX12_365 ?_
      refine bs_icmp_ge (tgt := 51) dX12_far_43 (by decide) (fun c => ?_) (fun c => ?_)
      · replace h := fg_ip c h
        refine bs_iconst (v := (-1)) dX12_far_51 (by decide) ?_
        cases h
        exact bs_iret dX12_far_52 rfl (Nat.zero_le _) (Nat.zero_le _) (kr _ rfl hR)
      · replace h := fg_iN c h
        refine bs_iload dX12_far_46 rfl ?_
        refine bs_goto (tgt := 52) dX12_far_48 (by decide) ?_
        cases h
        exact bs_iret dX12_far_52 rfl (Nat.zero_le _) (Nat.zero_le _) (kr _ rfl hR)
    · replace h := fg_ip c h
      refine bs_iconst (v := (-1)) dX12_far_18 (by decide) ?_
      cases h
      exact bs_iret dX12_far_19 rfl (Nat.zero_le _) (Nat.zero_le _) (kr _ rfl hR)
noncomputable def FX12_numberPoints_b4 (m : Nat)  (s : Int32 × Int32 × bs_Mm) : Option ((Int32 × Int32 × bs_Mm) ⊕ (Int32 × bs_Mm)) :=
  if (bs_iv (s.2.2 m 23)) ≤ s.2.1 then (
    some (.inr (s.1, s.2.2))
  ) else (
    fg_bd (FX12_find m s.2.2 s.2.1) (fun v2 => 
    if v2 = s.2.1 then (
      fg_gd (fg_in s.2.1 60) (
      fg_wr s.2.2 (m + 17) s.2.1.toNatClampNeg (.int s.1) (fun mu4 => 
      some (.inl ((s.1 + (nI 1)), (s.2.1 + (nI 1)), mu4))))
    ) else (
      some (.inl (s.1, (s.2.1 + (nI 1)), s.2.2))
    ))
  )
set_option maxHeartbeats 4000000 in
theorem wFX12_numberPoints_b4 {nx : Nat} {sh : bs_Sh} {R : Nat → Nat → Option Nat} {m : Nat} (HM : fg_S (bs_tM m) R m sh) {Ph : bs_Po} {s : Int32 × Int32 × bs_Mm} {r : (Int32 × Int32 × bs_Mm) ⊕ (Int32 × bs_Mm)} (ka : ∀ s, r = .inl s → fg_R R s.2.2 → bs_W Ph mX12_numberPoints (bs_rm 1 0 0) 4 (bs_mk [(0, .ref m), (1, .int s.1), (2, .int s.2.1)]) [] 0 0 nx sh s.2.2) (ke : ∀ s, r = .inr s → fg_R R s.2 → bs_W Ph mX12_numberPoints (bs_rm 1 0 0) 37 (bs_mk [(0, .ref m), (1, .int s.1)]) [] 0 0 nx sh s.2) (hR : fg_R R s.2.2) (h : FX12_numberPoints_b4 m s = some r) : bs_W Ph mX12_numberPoints (bs_rm 1 0 0) 4 (bs_mk [(0, .ref m), (1, .int s.1), (2, .int s.2.1)]) [] 0 0 nx sh s.2.2 := by
  unfold FX12_numberPoints_b4 at h
  refine bs_iload_n dX12_numberPoints_4 rfl ?_
  refine bs_aload_n dX12_numberPoints_5 rfl ?_
  refine bs_getI dX12_numberPoints_6 fX12_158 (HM.s 0 rfl rfl rfl) ?_
  refine bs_icmp_ge (tgt := 37) dX12_numberPoints_9 (by decide) (fun c => ?_) (fun c => ?_)
  · replace h := fg_ip c h
    cases h
    refine bs_W.mk [(0, .ref m), (1, .int s.1)] (by intro q hq; simp only [List.mem_cons, List.not_mem_nil, or_false] at hq; rcases hq with rfl | rfl <;> rfl) (ke _ rfl hR)
  · replace h := fg_iN c h
    refine bs_aload_n dX12_numberPoints_12 rfl ?_
    refine bs_iload_n dX12_numberPoints_13 rfl ?_
    obtain ⟨v2, k1, h⟩ := fg_bdE h
    refine fg_callV dX12_numberPoints_14 qX12_145 (wX12_find HM hR k1) rfl (HM.s 0 rfl rfl rfl) rfl (Nat.le_of_ble_eq_true rfl) (fg_cr (by first | decide | omega) (by decide)) (fun hR => ?_)
    refine bs_iload_n dX12_numberPoints_17 rfl ?_
    refine bs_icmp_ne (tgt := 31) dX12_numberPoints_18 (by decide) (fun c => ?_) (fun c => ?_)
    · replace h := fg_iN c h
      refine fg_iinc (m := (nI 1)) dX12_numberPoints_31 rfl rfl (by decide) ?_
      refine bs_goto (tgt := 4) dX12_numberPoints_34 (by decide) ?_
      cases h
      refine bs_W.mk [(0, .ref m), (1, .int s.1), (2, .int (s.2.1 + (nI 1)))] (by intro q hq; simp only [List.mem_cons, List.not_mem_nil, or_false] at hq; rcases hq with rfl | rfl | rfl <;> rfl) (by have k := ka _ rfl hR; dsimp only at k; exact k)
    · replace h := fg_ip c h
      refine bs_aload_n dX12_numberPoints_21 rfl ?_
      refine fg_getR (b := (m + 17)) dX12_numberPoints_22 fX12_58 (HM.s 0 rfl rfl rfl) hR (HM.r 0 26 rfl rfl rfl) ?_
      refine bs_iload_n dX12_numberPoints_25 rfl ?_
      refine bs_iload_n dX12_numberPoints_26 rfl ?_
      obtain ⟨g3, h⟩ := fg_gdE h
      refine fg_iast dX12_numberPoints_27 (HM.ss 17 rfl rfl) (fun j => HM.n 17 j rfl rfl rfl) g3 hR h (fun mu4 hR h => ?_)
      refine fg_iinc (m := (nI 1)) dX12_numberPoints_28 rfl rfl (by decide) ?_
      refine fg_iinc (m := (nI 1)) dX12_numberPoints_31 rfl rfl (by decide) ?_
      refine bs_goto (tgt := 4) dX12_numberPoints_34 (by decide) ?_
      cases h
      refine bs_W.mk [(0, .ref m), (1, .int (s.1 + (nI 1))), (2, .int (s.2.1 + (nI 1)))] (by intro q hq; simp only [List.mem_cons, List.not_mem_nil, or_false] at hq; rcases hq with rfl | rfl | rfl <;> rfl) (by have k := ka _ rfl hR; dsimp only at k; exact k)
theorem wFX12_numberPoints_l4 {nx : Nat} {sh : bs_Sh} {R : Nat → Nat → Option Nat} {m : Nat} (HM : fg_S (bs_tM m) R m sh) {Ph : bs_Po} {t : Int32 × bs_Mm} : ∀ n (y0 : Int32) (y1 : Int32) (mu1 : bs_Mm), fg_lp (FX12_numberPoints_b4 m) n (y0, y1, mu1) = some t → fg_R R mu1 → (ke : ∀ s, t = s → fg_R R s.2 → bs_W Ph mX12_numberPoints (bs_rm 1 0 0) 37 (bs_mk [(0, .ref m), (1, .int s.1)]) [] 0 0 nx sh s.2) → bs_W Ph mX12_numberPoints (bs_rm 1 0 0) 4 (bs_mk [(0, .ref m), (1, .int y0), (2, .int y1)]) [] 0 0 nx sh mu1 := by
  intro n
  induction n with
  | zero => intro y0 y1 mu1 h; exact absurd h (fun z => fg_lp0 z)
  | succ n ih =>
    intro y0 y1 mu1 h hR ke
    obtain ⟨r, hb, h1, h2⟩ := fg_lpE h
    exact wFX12_numberPoints_b4 (s := (y0, y1, mu1)) HM (fun s' e hR' => ih s'.1 s'.2.1 s'.2.2 (h1 s' e) hR' ke) (fun s' e => ke s' (h2 _ e).symm) hR hb
noncomputable def FX12_numberPoints_b55 (m : Nat)  (l1 : Int32) (s : Int32 × bs_Mm) : Option ((Int32 × bs_Mm) ⊕ (bs_Mm)) :=
  fg_gd (fg_in (bs_iv (s.2 m 25)) 13) (
  if (((nI 24) * (bs_iv (s.2 m 25))) + (bs_iv (s.2 (m + 8) (bs_iv (s.2 m 25)).toNatClampNeg))) ≤ s.1 then (
    some (.inr s.2)
  ) else (
    fg_gd (fg_in s.1 312) (
    fg_bd (FX12_find m s.2 (bs_iv (s.2 (m + 11) s.1.toNatClampNeg))) (fun v12 => 
    fg_gd (fg_in v12 60) (
    fg_gd (fg_in s.1 312) (
    fg_wr s.2 (m + 11) s.1.toNatClampNeg (.int (bs_iv (s.2 (m + 17) v12.toNatClampNeg))) (fun mu15 => 
    fg_gd (fg_in s.1 312) (
    fg_bd (FX12_find m mu15 (bs_iv (mu15 (m + 12) s.1.toNatClampNeg))) (fun v18 => 
    fg_gd (fg_in v18 60) (
    fg_gd (fg_in s.1 312) (
    fg_wr mu15 (m + 12) s.1.toNatClampNeg (.int (bs_iv (mu15 (m + 17) v18.toNatClampNeg))) (fun mu21 => 
    some (.inl ((s.1 + (nI 1)), mu21))))))))))))
  ))
set_option maxHeartbeats 4000000 in
theorem wFX12_numberPoints_b55 {nx : Nat} {sh : bs_Sh} {R : Nat → Nat → Option Nat} {m : Nat} (HM : fg_S (bs_tM m) R m sh) {l1 : Int32} {Ph : bs_Po} {s : Int32 × bs_Mm} {r : (Int32 × bs_Mm) ⊕ (bs_Mm)} (ka : ∀ s, r = .inl s → fg_R R s.2 → bs_W Ph mX12_numberPoints (bs_rm 1 0 0) 55 (bs_mk [(0, .ref m), (1, .int l1), (2, .int s.1)]) [] 0 0 nx sh s.2) (ke : ∀ s, r = .inr s → fg_R R s → bs_W Ph mX12_numberPoints (bs_rm 1 0 0) 124 (bs_mk [(0, .ref m), (1, .int l1)]) [] 0 0 nx sh s) (hR : fg_R R s.2) (h : FX12_numberPoints_b55 m l1 s = some r) : bs_W Ph mX12_numberPoints (bs_rm 1 0 0) 55 (bs_mk [(0, .ref m), (1, .int l1), (2, .int s.1)]) [] 0 0 nx sh s.2 := by
  unfold FX12_numberPoints_b55 at h
  refine bs_iload_n dX12_numberPoints_55 rfl ?_
  refine bs_bipush (v := (nI 24)) dX12_numberPoints_56 (by decide) ?_
  refine bs_aload_n dX12_numberPoints_58 rfl ?_
  refine bs_getI dX12_numberPoints_59 fX12_161 (HM.s 0 rfl rfl rfl) ?_
  refine bs_imul dX12_numberPoints_62 ?_
  refine bs_aload_n dX12_numberPoints_63 rfl ?_
  refine fg_getR (b := (m + 8)) dX12_numberPoints_64 fX12_31 (HM.s 0 rfl rfl rfl) hR (HM.r 0 13 rfl rfl rfl) ?_
  refine bs_aload_n dX12_numberPoints_67 rfl ?_
  refine bs_getI dX12_numberPoints_68 fX12_161 (HM.s 0 rfl rfl rfl) ?_
  obtain ⟨g9, h⟩ := fg_gdE h
  refine bs_iald dX12_numberPoints_71 (HM.ss 8 rfl rfl) (fg_in_ix g9) ?_
  refine bs_iadd dX12_numberPoints_72 ?_
  refine bs_icmp_ge (tgt := 124) dX12_numberPoints_73 (by decide) (fun c => ?_) (fun c => ?_)
  · replace h := fg_ip c h
    cases h
    refine bs_W.mk [(0, .ref m), (1, .int l1)] (by intro q hq; simp only [List.mem_cons, List.not_mem_nil, or_false] at hq; rcases hq with rfl | rfl <;> rfl) (ke _ rfl hR)
  · replace h := fg_iN c h
    refine bs_aload_n dX12_numberPoints_76 rfl ?_
    refine fg_getR (b := (m + 11)) dX12_numberPoints_77 fX12_40 (HM.s 0 rfl rfl rfl) hR (HM.r 0 16 rfl rfl rfl) ?_
    refine bs_iload_n dX12_numberPoints_80 rfl ?_
    refine bs_aload_n dX12_numberPoints_81 rfl ?_
    refine fg_getR (b := (m + 17)) dX12_numberPoints_82 fX12_58 (HM.s 0 rfl rfl rfl) hR (HM.r 0 26 rfl rfl rfl) ?_
    refine bs_aload_n dX12_numberPoints_85 rfl ?_
    refine bs_aload_n dX12_numberPoints_86 rfl ?_
    refine fg_getR (b := (m + 11)) dX12_numberPoints_87 fX12_40 (HM.s 0 rfl rfl rfl) hR (HM.r 0 16 rfl rfl rfl) ?_
    refine bs_iload_n dX12_numberPoints_90 rfl ?_
    obtain ⟨g10, h⟩ := fg_gdE h
    refine bs_iald dX12_numberPoints_91 (HM.ss 11 rfl rfl) (fg_in_ix g10) ?_
    obtain ⟨v12, k11, h⟩ := fg_bdE h
    refine fg_callV dX12_numberPoints_92 qX12_145 (wX12_find HM hR k11) rfl (HM.s 0 rfl rfl rfl) rfl (Nat.le_of_ble_eq_true rfl) (fg_cr (by first | decide | omega) (by decide)) (fun hR => ?_)
    obtain ⟨g13, h⟩ := fg_gdE h
    refine bs_iald dX12_numberPoints_95 (HM.ss 17 rfl rfl) (fg_in_ix g13) ?_
    obtain ⟨g14, h⟩ := fg_gdE h
    refine fg_iast dX12_numberPoints_96 (HM.ss 11 rfl rfl) (fun j => HM.n 11 j rfl rfl rfl) g14 hR h (fun mu15 hR h => ?_)
    refine bs_aload_n dX12_numberPoints_97 rfl ?_
    refine fg_getR (b := (m + 12)) dX12_numberPoints_98 fX12_43 (HM.s 0 rfl rfl rfl) hR (HM.r 0 17 rfl rfl rfl) ?_
    refine bs_iload_n dX12_numberPoints_101 rfl ?_
    refine bs_aload_n dX12_numberPoints_102 rfl ?_
    refine fg_getR (b := (m + 17)) dX12_numberPoints_103 fX12_58 (HM.s 0 rfl rfl rfl) hR (HM.r 0 26 rfl rfl rfl) ?_
    refine bs_aload_n dX12_numberPoints_106 rfl ?_
    refine bs_aload_n dX12_numberPoints_107 rfl ?_
    refine fg_getR (b := (m + 12)) dX12_numberPoints_108 fX12_43 (HM.s 0 rfl rfl rfl) hR (HM.r 0 17 rfl rfl rfl) ?_
    refine bs_iload_n dX12_numberPoints_111 rfl ?_
    obtain ⟨g16, h⟩ := fg_gdE h
    refine bs_iald dX12_numberPoints_112 (HM.ss 12 rfl rfl) (fg_in_ix g16) ?_
    obtain ⟨v18, k17, h⟩ := fg_bdE h
    refine fg_callV dX12_numberPoints_113 qX12_145 (wX12_find HM hR k17) rfl (HM.s 0 rfl rfl rfl) rfl (Nat.le_of_ble_eq_true rfl) (fg_cr (by first | decide | omega) (by decide)) (fun hR => ?_)
    obtain ⟨g19, h⟩ := fg_gdE h
    refine bs_iald dX12_numberPoints_116 (HM.ss 17 rfl rfl) (fg_in_ix g19) ?_
    obtain ⟨g20, h⟩ := fg_gdE h
    refine fg_iast dX12_numberPoints_117 (HM.ss 12 rfl rfl) (fun j => HM.n 12 j rfl rfl rfl) g20 hR h (fun mu21 hR h => ?_)
    refine fg_iinc (m := (nI 1)) dX12_numberPoints_118 rfl rfl (by decide) ?_
    refine bs_goto (tgt := 55) dX12_numberPoints_121 (by decide) ?_
    cases h
    refine bs_W.mk [(0, .ref m), (1, .int l1), (2, .int (s.1 + (nI 1)))] (by intro q hq; simp only [List.mem_cons, List.not_mem_nil, or_false] at hq; rcases hq with rfl | rfl | rfl <;> rfl) (by have k := ka _ rfl hR; dsimp only at k; exact k)
theorem wFX12_numberPoints_l55 {nx : Nat} {sh : bs_Sh} {R : Nat → Nat → Option Nat} {m : Nat} (HM : fg_S (bs_tM m) R m sh) {l1 : Int32} {Ph : bs_Po} {t : bs_Mm} : ∀ n (y0 : Int32) (mu1 : bs_Mm), fg_lp (FX12_numberPoints_b55 m l1) n (y0, mu1) = some t → fg_R R mu1 → (ke : ∀ s, t = s → fg_R R s → bs_W Ph mX12_numberPoints (bs_rm 1 0 0) 124 (bs_mk [(0, .ref m), (1, .int l1)]) [] 0 0 nx sh s) → bs_W Ph mX12_numberPoints (bs_rm 1 0 0) 55 (bs_mk [(0, .ref m), (1, .int l1), (2, .int y0)]) [] 0 0 nx sh mu1 := by
  intro n
  induction n with
  | zero => intro y0 mu1 h; exact absurd h (fun z => fg_lp0 z)
  | succ n ih =>
    intro y0 mu1 h hR ke
    obtain ⟨r, hb, h1, h2⟩ := fg_lpE h
    exact wFX12_numberPoints_b55 (s := (y0, mu1)) HM (fun s' e hR' => ih s'.1 s'.2 (h1 s' e) hR' ke) (fun s' e => ke s' (h2 _ e).symm) hR hb
noncomputable def FX12_numberPoints (m : Nat) (mu : bs_Mm) : Option (bs_Mm) :=
  fg_bd (fg_lp (FX12_numberPoints_b4 m) fg_fu ((nI 0), (nI 0), mu)) (fun t5 => 
    fg_gd (fg_in (bs_iv (t5.2 m 25)) 13) (
    fg_wr t5.2 (m + 9) (bs_iv (t5.2 m 25)).toNatClampNeg (.int t5.1) (fun mu8 => 
    fg_bd (fg_lp (FX12_numberPoints_b55 m t5.1) fg_fu (((nI 24) * (bs_iv (mu8 m 25))), mu8)) (fun t22 => 
      some t22
    )))
  )
set_option maxHeartbeats 4000000 in
theorem wX12_numberPoints {nx : Nat} {sh : bs_Sh} {R : Nat → Nat → Option Nat} {m : Nat} (HM : fg_S (bs_tM m) R m sh) {mu : bs_Mm} (hR : fg_R R mu) {r : bs_Mm} (h : FX12_numberPoints m mu = some r) : bs_C mX12_numberPoints (bs_rm 1 0 0) [.ref m] nx sh mu (fg_po R nx sh none r) := by
  refine bs_ct (by decide +kernel) (Nat.le_of_ble_eq_true rfl) ?_
  have kr : ∀ q, r = q → fg_R R q → (fg_po R nx sh none r) none nx sh q := fun q e hq => by subst e; exact ⟨rfl, rfl, rfl, rfl, hq⟩
  unfold FX12_numberPoints at h
  refine bs_iconst (v := (nI 0)) dX12_numberPoints_0 (by decide) ?_
  refine bs_istore_n dX12_numberPoints_1 rfl (by decide) ?_
  refine bs_iconst (v := (nI 0)) dX12_numberPoints_2 (by decide) ?_
  refine bs_istore_n dX12_numberPoints_3 rfl (by decide) ?_
  obtain ⟨t5, k6, h⟩ := fg_bdE h
  refine bs_W.mk [(0, .ref m), (1, .int (nI 0)), (2, .int (nI 0))] (by intro q hq; simp only [List.mem_cons, List.not_mem_nil, or_false] at hq; rcases hq with rfl | rfl | rfl <;> rfl) ?_
  refine wFX12_numberPoints_l4 HM _ _ _ _ k6 hR ?_
  intro s e hR
  subst e
  refine bs_aload_n dX12_numberPoints_37 rfl ?_
  refine fg_getR (b := (m + 9)) dX12_numberPoints_38 fX12_34 (HM.s 0 rfl rfl rfl) hR (HM.r 0 14 rfl rfl rfl) ?_
  refine bs_aload_n dX12_numberPoints_41 rfl ?_
  refine bs_getI dX12_numberPoints_42 fX12_161 (HM.s 0 rfl rfl rfl) ?_
  refine bs_iload_n dX12_numberPoints_45 rfl ?_
  obtain ⟨g7, h⟩ := fg_gdE h
  refine fg_iast dX12_numberPoints_46 (HM.ss 9 rfl rfl) (fun j => HM.n 9 j rfl rfl rfl) g7 hR h (fun mu8 hR h => ?_)
  refine bs_bipush (v := (nI 24)) dX12_numberPoints_47 (by decide) ?_
  refine bs_aload_n dX12_numberPoints_49 rfl ?_
  refine bs_getI dX12_numberPoints_50 fX12_161 (HM.s 0 rfl rfl rfl) ?_
  refine bs_imul dX12_numberPoints_53 ?_
  refine bs_istore_n dX12_numberPoints_54 rfl (by decide) ?_
  obtain ⟨t22, k23, h⟩ := fg_bdE h
  refine bs_W.mk [(0, .ref m), (1, .int t5.1), (2, .int ((nI 24) * (bs_iv (mu8 m 25))))] (by intro q hq; simp only [List.mem_cons, List.not_mem_nil, or_false] at hq; rcases hq with rfl | rfl | rfl <;> rfl) ?_
  refine wFX12_numberPoints_l55 HM _ _ _ k23 hR ?_
  intro s e hR
  subst e
  cases h
  exact bs_vret dX12_numberPoints_124 rfl (Nat.zero_le _) (Nat.zero_le _) (kr _ rfl hR)
noncomputable def FX12_readFigure_b57 (m : Nat)  (l1 : Int32) (s : Int32 × bs_Mm) : Option ((Int32 × bs_Mm) ⊕ (bs_Mm)) :=
  if (nI 8) ≤ s.1 then (
    some (.inr s.2)
  ) else (
    fg_gd (fg_in s.1 8) (
    fg_wr s.2 (m + 16) s.1.toNatClampNeg (.int (-1)) (fun mu13 => 
    some (.inl ((s.1 + (nI 1)), mu13))))
  )
set_option maxHeartbeats 4000000 in
theorem wFX12_readFigure_b57 {nx : Nat} {sh : bs_Sh} {R : Nat → Nat → Option Nat} {m : Nat} (HM : fg_S (bs_tM m) R m sh) {l1 : Int32} {Ph : bs_Po} {s : Int32 × bs_Mm} {r : (Int32 × bs_Mm) ⊕ (bs_Mm)} (ka : ∀ s, r = .inl s → fg_R R s.2 → bs_W Ph mX12_readFigure (bs_rm 29 0 0) 57 (bs_mk [(0, .ref m), (1, .int l1), (2, .int s.1)]) [] 0 0 nx sh s.2) (ke : ∀ s, r = .inr s → fg_R R s → bs_W Ph mX12_readFigure (bs_rm 29 0 0) 76 (bs_mk [(0, .ref m), (1, .int l1)]) [] 0 0 nx sh s) (hR : fg_R R s.2) (h : FX12_readFigure_b57 m l1 s = some r) : bs_W Ph mX12_readFigure (bs_rm 29 0 0) 57 (bs_mk [(0, .ref m), (1, .int l1), (2, .int s.1)]) [] 0 0 nx sh s.2 := by
  unfold FX12_readFigure_b57 at h
  refine bs_iload_n dX12_readFigure_57 rfl ?_
  refine bs_bipush (v := (nI 8)) dX12_readFigure_58 (by decide) ?_
  refine bs_icmp_ge (tgt := 76) dX12_readFigure_60 (by decide) (fun c => ?_) (fun c => ?_)
  · replace h := fg_ip c h
    cases h
    refine bs_W.mk [(0, .ref m), (1, .int l1)] (by intro q hq; simp only [List.mem_cons, List.not_mem_nil, or_false] at hq; rcases hq with rfl | rfl <;> rfl) (ke _ rfl hR)
  · replace h := fg_iN c h
    refine bs_aload_n dX12_readFigure_63 rfl ?_
    refine fg_getR (b := (m + 16)) dX12_readFigure_64 fX12_55 (HM.s 0 rfl rfl rfl) hR (HM.r 0 22 rfl rfl rfl) ?_
    refine bs_iload_n dX12_readFigure_67 rfl ?_
    refine bs_iconst (v := (-1)) dX12_readFigure_68 (by decide) ?_
    obtain ⟨g12, h⟩ := fg_gdE h
    refine fg_iast dX12_readFigure_69 (HM.ss 16 rfl rfl) (fun j => HM.n 16 j rfl rfl rfl) g12 hR h (fun mu13 hR h => ?_)
    refine fg_iinc (m := (nI 1)) dX12_readFigure_70 rfl rfl (by decide) ?_
    refine bs_goto (tgt := 57) dX12_readFigure_73 (by decide) ?_
    cases h
    refine bs_W.mk [(0, .ref m), (1, .int l1), (2, .int (s.1 + (nI 1)))] (by intro q hq; simp only [List.mem_cons, List.not_mem_nil, or_false] at hq; rcases hq with rfl | rfl | rfl <;> rfl) (by have k := ka _ rfl hR; dsimp only at k; exact k)
theorem wFX12_readFigure_l57 {nx : Nat} {sh : bs_Sh} {R : Nat → Nat → Option Nat} {m : Nat} (HM : fg_S (bs_tM m) R m sh) {l1 : Int32} {Ph : bs_Po} {t : bs_Mm} : ∀ n (y0 : Int32) (mu1 : bs_Mm), fg_lp (FX12_readFigure_b57 m l1) n (y0, mu1) = some t → fg_R R mu1 → (ke : ∀ s, t = s → fg_R R s → bs_W Ph mX12_readFigure (bs_rm 29 0 0) 76 (bs_mk [(0, .ref m), (1, .int l1)]) [] 0 0 nx sh s) → bs_W Ph mX12_readFigure (bs_rm 29 0 0) 57 (bs_mk [(0, .ref m), (1, .int l1), (2, .int y0)]) [] 0 0 nx sh mu1 := by
  intro n
  induction n with
  | zero => intro y0 mu1 h; exact absurd h (fun z => fg_lp0 z)
  | succ n ih =>
    intro y0 mu1 h hR ke
    obtain ⟨r, hb, h1, h2⟩ := fg_lpE h
    exact wFX12_readFigure_b57 (s := (y0, mu1)) HM (fun s' e hR' => ih s'.1 s'.2 (h1 s' e) hR' ke) (fun s' e => ke s' (h2 _ e).symm) hR hb
noncomputable def FX12_readFigure_b80 (m : Nat)  (l1 : Int32) (s : bs_Mm) : Option ((bs_Mm) ⊕ (bs_Mm)) :=
  if (bs_iv (s m 9)) = (-1) then (
    fg_b2 (FX12_look m s) (fun v20 mu19 => 
    if v20 = (nI 47) then (
      fg_gd (fg_in (bs_iv (mu19 m 25)) 13) (
      if (nI 6) ≤ (bs_iv (mu19 (m + 6) (bs_iv (mu19 m 25)).toNatClampNeg)) then (
        some (.inr mu19)
      ) else (
        fg_wr mu19 m 8 (.int ((bs_iv (mu19 m 8)) + (nI 1))) (fun mu22 => 
        fg_bd (FX12_balloon m mu22) (fun mu24 => 
        some (.inl mu24)))
      ))
    ) else (
      some (.inr mu19)
    ))
  ) else (
    some (.inr s)
  )
set_option maxHeartbeats 4000000 in
theorem wFX12_readFigure_b80 {nx : Nat} {sh : bs_Sh} {R : Nat → Nat → Option Nat} {m : Nat} (HM : fg_S (bs_tM m) R m sh) {l1 : Int32} {Ph : bs_Po} {s : bs_Mm} {r : (bs_Mm) ⊕ (bs_Mm)} (ka : ∀ s, r = .inl s → fg_R R s → bs_W Ph mX12_readFigure (bs_rm 29 0 0) 80 (bs_mk [(0, .ref m), (1, .int l1)]) [] 0 0 nx sh s) (ke : ∀ s, r = .inr s → fg_R R s → bs_W Ph mX12_readFigure (bs_rm 29 0 0) 128 (bs_mk [(0, .ref m), (1, .int l1)]) [] 0 0 nx sh s) (hR : fg_R R s) (h : FX12_readFigure_b80 m l1 s = some r) : bs_W Ph mX12_readFigure (bs_rm 29 0 0) 80 (bs_mk [(0, .ref m), (1, .int l1)]) [] 0 0 nx sh s := by
  unfold FX12_readFigure_b80 at h
  refine bs_aload_n dX12_readFigure_80 rfl ?_
  refine bs_getI dX12_readFigure_81 fX12_142 (HM.s 0 rfl rfl rfl) ?_
  refine bs_iconst (v := (-1)) dX12_readFigure_84 (by decide) ?_
  refine bs_icmp_ne (tgt := 128) dX12_readFigure_85 (by decide) (fun c => ?_) (fun c => ?_)
  · replace h := fg_iN c h
    cases h
    refine bs_W.mk [(0, .ref m), (1, .int l1)] (by intro q hq; simp only [List.mem_cons, List.not_mem_nil, or_false] at hq; rcases hq with rfl | rfl <;> rfl) (ke _ rfl hR)
  · replace h := fg_ip c h
    refine bs_aload_n dX12_readFigure_88 rfl ?_
    obtain ⟨v20, mu19, k18, h⟩ := fg_b2E h
    refine fg_callV dX12_readFigure_89 qX12_180 (wX12_look HM hR k18) rfl (HM.s 0 rfl rfl rfl) rfl (Nat.le_of_ble_eq_true rfl) (fg_cr (by first | decide | omega) (by decide)) (fun hR => ?_)
    refine bs_bipush (v := (nI 47)) dX12_readFigure_92 (by decide) ?_
    refine bs_icmp_ne (tgt := 128) dX12_readFigure_94 (by decide) (fun c => ?_) (fun c => ?_)
    · replace h := fg_iN c h
      cases h
      refine bs_W.mk [(0, .ref m), (1, .int l1)] (by intro q hq; simp only [List.mem_cons, List.not_mem_nil, or_false] at hq; rcases hq with rfl | rfl <;> rfl) (ke _ rfl hR)
    · replace h := fg_ip c h
      refine bs_aload_n dX12_readFigure_97 rfl ?_
      refine fg_getR (b := (m + 6)) dX12_readFigure_98 fX12_25 (HM.s 0 rfl rfl rfl) hR (HM.r 0 11 rfl rfl rfl) ?_
      refine bs_aload_n dX12_readFigure_101 rfl ?_
      refine bs_getI dX12_readFigure_102 fX12_161 (HM.s 0 rfl rfl rfl) ?_
      obtain ⟨g21, h⟩ := fg_gdE h
      refine bs_iald dX12_readFigure_105 (HM.ss 6 rfl rfl) (fg_in_ix g21) ?_
      refine bs_bipush (v := (nI 6)) dX12_readFigure_106 (by decide) ?_
      refine bs_icmp_ge (tgt := 128) dX12_readFigure_108 (by decide) (fun c => ?_) (fun c => ?_)
      · replace h := fg_ip c h
        cases h
        refine bs_W.mk [(0, .ref m), (1, .int l1)] (by intro q hq; simp only [List.mem_cons, List.not_mem_nil, or_false] at hq; rcases hq with rfl | rfl <;> rfl) (ke _ rfl hR)
      · replace h := fg_iN c h
        refine bs_aload_n dX12_readFigure_111 rfl ?_
        refine bs_dup dX12_readFigure_112 rfl ?_
        refine bs_getI dX12_readFigure_113 fX12_135 (HM.s 0 rfl rfl rfl) ?_
        refine bs_iconst (v := (nI 1)) dX12_readFigure_116 (by decide) ?_
        refine bs_iadd dX12_readFigure_117 ?_
        refine fg_putI dX12_readFigure_118 pX12_135 (HM.s 0 rfl rfl rfl) (HM.n 0 8 rfl rfl rfl) hR h (fun mu22 hR h => ?_)
        refine bs_aload_n dX12_readFigure_121 rfl ?_
        obtain ⟨mu24, k23, h⟩ := fg_bdE h
        refine fg_callVv dX12_readFigure_122 qX12_199 (wX12_balloon HM hR k23) rfl (HM.s 0 rfl rfl rfl) rfl (Nat.le_of_ble_eq_true rfl) (fg_cr (by first | decide | omega) (by decide)) (fun hR => ?_)
        refine bs_goto (tgt := 80) dX12_readFigure_125 (by decide) ?_
        cases h
        refine bs_W.mk [(0, .ref m), (1, .int l1)] (by intro q hq; simp only [List.mem_cons, List.not_mem_nil, or_false] at hq; rcases hq with rfl | rfl <;> rfl) (ka _ rfl hR)
theorem wFX12_readFigure_l80 {nx : Nat} {sh : bs_Sh} {R : Nat → Nat → Option Nat} {m : Nat} (HM : fg_S (bs_tM m) R m sh) {l1 : Int32} {Ph : bs_Po} {t : bs_Mm} : ∀ n (mu1 : bs_Mm), fg_lp (FX12_readFigure_b80 m l1) n mu1 = some t → fg_R R mu1 → (ke : ∀ s, t = s → fg_R R s → bs_W Ph mX12_readFigure (bs_rm 29 0 0) 128 (bs_mk [(0, .ref m), (1, .int l1)]) [] 0 0 nx sh s) → bs_W Ph mX12_readFigure (bs_rm 29 0 0) 80 (bs_mk [(0, .ref m), (1, .int l1)]) [] 0 0 nx sh mu1 := by
  intro n
  induction n with
  | zero => intro mu1 h; exact absurd h (fun z => fg_lp0 z)
  | succ n ih =>
    intro mu1 h hR ke
    obtain ⟨r, hb, h1, h2⟩ := fg_lpE h
    exact wFX12_readFigure_b80 (s := mu1) HM (fun s' e hR' => ih s' (h1 s' e) hR' ke) (fun s' e => ke s' (h2 _ e).symm) hR hb
noncomputable def FX12_readFigure_j128 (m : Nat) (mu : bs_Mm) : Option (Int32 × bs_Mm) :=
  if (bs_iv (mu m 9)) = (-1) then (
    fg_b2 (FX12_look m mu) (fun v31 mu30 => 
    if v31 = (-1) then (
      if (bs_iv (mu30 m 9)) = (-1) then (
        fg_bd (FX12_numberPoints m mu30) (fun mu33 => 
        some ((bs_iv (mu33 m 9)), mu33))
      ) else (
        some ((bs_iv (mu30 m 9)), mu30)
      )
    ) else (
      fg_bd (FX12_bad m mu30) (fun mu35 => 
      if (bs_iv (mu35 m 9)) = (-1) then (
        fg_bd (FX12_numberPoints m mu35) (fun mu37 => 
        some ((bs_iv (mu37 m 9)), mu37))
      ) else (
        some ((bs_iv (mu35 m 9)), mu35)
      ))
    ))
  ) else (
    if (bs_iv (mu m 9)) = (-1) then (
      fg_bd (FX12_numberPoints m mu) (fun mu28 => 
      some ((bs_iv (mu28 m 9)), mu28))
    ) else (
      some ((bs_iv (mu m 9)), mu)
    )
  )
set_option maxHeartbeats 4000000 in
theorem wFX12_readFigure_j128 {nx : Nat} {sh : bs_Sh} {R : Nat → Nat → Option Nat} {m : Nat} (HM : fg_S (bs_tM m) R m sh) {mu : bs_Mm} {Ph : bs_Po} {r : Int32 × bs_Mm} (kr : ∀ q, r = q → fg_R R q.2 → Ph (some (.int q.1)) nx sh q.2) (hR : fg_R R mu) (h : FX12_readFigure_j128 m mu = some r) : bs_W Ph mX12_readFigure (bs_rm 29 0 0) 128 (bs_mk [(0, .ref m)]) [] 0 0 nx sh mu := by
  unfold FX12_readFigure_j128 at h
  refine bs_aload_n dX12_readFigure_128 rfl ?_
  refine bs_getI dX12_readFigure_129 fX12_142 (HM.s 0 rfl rfl rfl) ?_
  refine bs_iconst (v := (-1)) dX12_readFigure_132 (by decide) ?_
  refine bs_icmp_ne (tgt := 148) dX12_readFigure_133 (by decide) (fun c => ?_) (fun c => ?_)
  · replace h := fg_iN c h
    refine bs_aload_n dX12_readFigure_148 rfl ?_
    refine bs_getI dX12_readFigure_149 fX12_142 (HM.s 0 rfl rfl rfl) ?_
    refine bs_iconst (v := (-1)) dX12_readFigure_152 (by decide) ?_
    refine bs_icmp_ne (tgt := 160) dX12_readFigure_153 (by decide) (fun c => ?_) (fun c => ?_)
    · replace h := fg_iN c h
      refine bs_aload_n dX12_readFigure_160 rfl ?_
      refine bs_getI dX12_readFigure_161 fX12_142 (HM.s 0 rfl rfl rfl) ?_
      cases h
      exact bs_iret dX12_readFigure_164 rfl (Nat.zero_le _) (Nat.zero_le _) (kr _ rfl hR)
    · replace h := fg_ip c h
      refine bs_aload_n dX12_readFigure_156 rfl ?_
      obtain ⟨mu28, k27, h⟩ := fg_bdE h
      refine fg_callVv dX12_readFigure_157 qX12_202 (wX12_numberPoints HM hR k27) rfl (HM.s 0 rfl rfl rfl) rfl (Nat.le_of_ble_eq_true rfl) (fg_cr (by first | decide | omega) (by decide)) (fun hR => ?_)
      refine bs_aload_n dX12_readFigure_160 rfl ?_
      refine bs_getI dX12_readFigure_161 fX12_142 (HM.s 0 rfl rfl rfl) ?_
      cases h
      exact bs_iret dX12_readFigure_164 rfl (Nat.zero_le _) (Nat.zero_le _) (kr _ rfl hR)
  · replace h := fg_ip c h
    refine bs_aload_n dX12_readFigure_136 rfl ?_
    obtain ⟨v31, mu30, k29, h⟩ := fg_b2E h
    refine fg_callV dX12_readFigure_137 qX12_180 (wX12_look HM hR k29) rfl (HM.s 0 rfl rfl rfl) rfl (Nat.le_of_ble_eq_true rfl) (fg_cr (by first | decide | omega) (by decide)) (fun hR => ?_)
    refine bs_iconst (v := (-1)) dX12_readFigure_140 (by decide) ?_
    refine bs_icmp_eq (tgt := 148) dX12_readFigure_141 (by decide) (fun c => ?_) (fun c => ?_)
    · replace h := fg_ip c h
      refine bs_aload_n dX12_readFigure_148 rfl ?_
      refine bs_getI dX12_readFigure_149 fX12_142 (HM.s 0 rfl rfl rfl) ?_
      refine bs_iconst (v := (-1)) dX12_readFigure_152 (by decide) ?_
      refine bs_icmp_ne (tgt := 160) dX12_readFigure_153 (by decide) (fun c => ?_) (fun c => ?_)
      · replace h := fg_iN c h
        refine bs_aload_n dX12_readFigure_160 rfl ?_
        refine bs_getI dX12_readFigure_161 fX12_142 (HM.s 0 rfl rfl rfl) ?_
        cases h
        exact bs_iret dX12_readFigure_164 rfl (Nat.zero_le _) (Nat.zero_le _) (kr _ rfl hR)
      · replace h := fg_ip c h
        refine bs_aload_n dX12_readFigure_156 rfl ?_
        obtain ⟨mu33, k32, h⟩ := fg_bdE h
        refine fg_callVv dX12_readFigure_157 qX12_202 (wX12_numberPoints HM hR k32) rfl (HM.s 0 rfl rfl rfl) rfl (Nat.le_of_ble_eq_true rfl) (fg_cr (by first | decide | omega) (by decide)) (fun hR => ?_)
        refine bs_aload_n dX12_readFigure_160 rfl ?_
        refine bs_getI dX12_readFigure_161 fX12_142 (HM.s 0 rfl rfl rfl) ?_
        cases h
        exact bs_iret dX12_readFigure_164 rfl (Nat.zero_le _) (Nat.zero_le _) (kr _ rfl hR)
    · replace h := fg_iN c h
      refine bs_aload_n dX12_readFigure_144 rfl ?_
      obtain ⟨mu35, k34, h⟩ := fg_bdE h
      refine fg_callVv dX12_readFigure_145 qX12_164 (wX12_bad HM hR k34) rfl (HM.s 0 rfl rfl rfl) rfl (Nat.le_of_ble_eq_true rfl) (fg_cr (by first | decide | omega) (by decide)) (fun hR => ?_)
      refine bs_aload_n dX12_readFigure_148 rfl ?_
      refine bs_getI dX12_readFigure_149 fX12_142 (HM.s 0 rfl rfl rfl) ?_
      refine bs_iconst (v := (-1)) dX12_readFigure_152 (by decide) ?_
      refine bs_icmp_ne (tgt := 160) dX12_readFigure_153 (by decide) (fun c => ?_) (fun c => ?_)
      · replace h := fg_iN c h
        refine bs_aload_n dX12_readFigure_160 rfl ?_
        refine bs_getI dX12_readFigure_161 fX12_142 (HM.s 0 rfl rfl rfl) ?_
        cases h
        exact bs_iret dX12_readFigure_164 rfl (Nat.zero_le _) (Nat.zero_le _) (kr _ rfl hR)
      · replace h := fg_ip c h
        refine bs_aload_n dX12_readFigure_156 rfl ?_
        obtain ⟨mu37, k36, h⟩ := fg_bdE h
        refine fg_callVv dX12_readFigure_157 qX12_202 (wX12_numberPoints HM hR k36) rfl (HM.s 0 rfl rfl rfl) rfl (Nat.le_of_ble_eq_true rfl) (fg_cr (by first | decide | omega) (by decide)) (fun hR => ?_)
        refine bs_aload_n dX12_readFigure_160 rfl ?_
        refine bs_getI dX12_readFigure_161 fX12_142 (HM.s 0 rfl rfl rfl) ?_
        cases h
        exact bs_iret dX12_readFigure_164 rfl (Nat.zero_le _) (Nat.zero_le _) (kr _ rfl hR)
noncomputable def FX12_readFigure (m : Nat) (mu : bs_Mm) (p1 : Int32) : Option (Int32 × bs_Mm) :=
  fg_wr mu m 25 (.int p1) (fun mu1 => 
  fg_wr mu1 m 8 (.int (nI 0)) (fun mu2 => 
  fg_wr mu2 m 9 (.int (-1)) (fun mu3 => 
  fg_wr mu3 m 10 (.int (nI 0)) (fun mu4 => 
  fg_wr mu4 m 23 (.int (nI 0)) (fun mu5 => 
  fg_gd (fg_in (bs_iv (mu5 m 25)) 13) (
  fg_wr mu5 (m + 6) (bs_iv (mu5 m 25)).toNatClampNeg (.int (nI 0)) (fun mu7 => 
  fg_gd (fg_in (bs_iv (mu7 m 25)) 13) (
  fg_wr mu7 (m + 8) (bs_iv (mu7 m 25)).toNatClampNeg (.int (nI 0)) (fun mu9 => 
  fg_gd (fg_in (bs_iv (mu9 m 25)) 13) (
  fg_wr mu9 (m + 14) (bs_iv (mu9 m 25)).toNatClampNeg (.int (nI 0)) (fun mu11 => 
  fg_bd (fg_lp (FX12_readFigure_b57 m p1) fg_fu ((nI 0), mu11)) (fun t14 => 
    fg_bd (FX12_balloon m t14) (fun mu17 => 
    fg_bd (fg_lp (FX12_readFigure_b80 m p1) fg_fu mu17) (fun t25 => 
      FX12_readFigure_j128 m t25
    ))
  ))))))))))))
set_option maxHeartbeats 4000000 in
theorem wX12_readFigure {nx : Nat} {sh : bs_Sh} {R : Nat → Nat → Option Nat} {m : Nat} (HM : fg_S (bs_tM m) R m sh) {mu : bs_Mm} (hR : fg_R R mu) {p1 : Int32} {r : Int32 × bs_Mm} (h : FX12_readFigure m mu p1 = some r) : bs_C mX12_readFigure (bs_rm 29 0 0) [.ref m, .int p1] nx sh mu (fg_po R nx sh (some (.int r.1)) r.2) := by
  refine bs_ct (by decide +kernel) (Nat.le_of_ble_eq_true rfl) ?_
  have kr : ∀ q, r = q → fg_R R q.2 → (fg_po R nx sh (some (.int r.1)) r.2) (some (.int q.1)) nx sh q.2 := fun q e hq => by subst e; exact ⟨rfl, rfl, rfl, rfl, hq⟩
  unfold FX12_readFigure at h
  refine bs_aload_n dX12_readFigure_0 rfl ?_
  refine bs_iload_n dX12_readFigure_1 rfl ?_
  refine fg_putI dX12_readFigure_2 pX12_161 (HM.s 0 rfl rfl rfl) (HM.n 0 25 rfl rfl rfl) hR h (fun mu1 hR h => ?_)
  refine bs_aload_n dX12_readFigure_5 rfl ?_
  refine bs_iconst (v := (nI 0)) dX12_readFigure_6 (by decide) ?_
  refine fg_putI dX12_readFigure_7 pX12_135 (HM.s 0 rfl rfl rfl) (HM.n 0 8 rfl rfl rfl) hR h (fun mu2 hR h => ?_)
  refine bs_aload_n dX12_readFigure_10 rfl ?_
  refine bs_iconst (v := (-1)) dX12_readFigure_11 (by decide) ?_
  refine fg_putI dX12_readFigure_12 pX12_142 (HM.s 0 rfl rfl rfl) (HM.n 0 9 rfl rfl rfl) hR h (fun mu3 hR h => ?_)
  refine bs_aload_n dX12_readFigure_15 rfl ?_
  refine bs_iconst (v := (nI 0)) dX12_readFigure_16 (by decide) ?_
  refine fg_putI dX12_readFigure_17 pX12_193 (HM.s 0 rfl rfl rfl) (HM.n 0 10 rfl rfl rfl) hR h (fun mu4 hR h => ?_)
  refine bs_aload_n dX12_readFigure_20 rfl ?_
  refine bs_iconst (v := (nI 0)) dX12_readFigure_21 (by decide) ?_
  refine fg_putI dX12_readFigure_22 pX12_158 (HM.s 0 rfl rfl rfl) (HM.n 0 23 rfl rfl rfl) hR h (fun mu5 hR h => ?_)
  refine bs_aload_n dX12_readFigure_25 rfl ?_
  refine fg_getR (b := (m + 6)) dX12_readFigure_26 fX12_25 (HM.s 0 rfl rfl rfl) hR (HM.r 0 11 rfl rfl rfl) ?_
  refine bs_aload_n dX12_readFigure_29 rfl ?_
  refine bs_getI dX12_readFigure_30 fX12_161 (HM.s 0 rfl rfl rfl) ?_
  refine bs_iconst (v := (nI 0)) dX12_readFigure_33 (by decide) ?_
  obtain ⟨g6, h⟩ := fg_gdE h
  refine fg_iast dX12_readFigure_34 (HM.ss 6 rfl rfl) (fun j => HM.n 6 j rfl rfl rfl) g6 hR h (fun mu7 hR h => ?_)
  refine bs_aload_n dX12_readFigure_35 rfl ?_
  refine fg_getR (b := (m + 8)) dX12_readFigure_36 fX12_31 (HM.s 0 rfl rfl rfl) hR (HM.r 0 13 rfl rfl rfl) ?_
  refine bs_aload_n dX12_readFigure_39 rfl ?_
  refine bs_getI dX12_readFigure_40 fX12_161 (HM.s 0 rfl rfl rfl) ?_
  refine bs_iconst (v := (nI 0)) dX12_readFigure_43 (by decide) ?_
  obtain ⟨g8, h⟩ := fg_gdE h
  refine fg_iast dX12_readFigure_44 (HM.ss 8 rfl rfl) (fun j => HM.n 8 j rfl rfl rfl) g8 hR h (fun mu9 hR h => ?_)
  refine bs_aload_n dX12_readFigure_45 rfl ?_
  refine fg_getR (b := (m + 14)) dX12_readFigure_46 fX12_49 (HM.s 0 rfl rfl rfl) hR (HM.r 0 19 rfl rfl rfl) ?_
  refine bs_aload_n dX12_readFigure_49 rfl ?_
  refine bs_getI dX12_readFigure_50 fX12_161 (HM.s 0 rfl rfl rfl) ?_
  refine bs_iconst (v := (nI 0)) dX12_readFigure_53 (by decide) ?_
  obtain ⟨g10, h⟩ := fg_gdE h
  refine fg_iast dX12_readFigure_54 (HM.ss 14 rfl rfl) (fun j => HM.n 14 j rfl rfl rfl) g10 hR h (fun mu11 hR h => ?_)
  refine bs_iconst (v := (nI 0)) dX12_readFigure_55 (by decide) ?_
  refine bs_istore_n dX12_readFigure_56 rfl (by decide) ?_
  obtain ⟨t14, k15, h⟩ := fg_bdE h
  refine bs_W.mk [(0, .ref m), (1, .int p1), (2, .int (nI 0))] (by intro q hq; simp only [List.mem_cons, List.not_mem_nil, or_false] at hq; rcases hq with rfl | rfl | rfl <;> rfl) ?_
  refine wFX12_readFigure_l57 HM _ _ _ k15 hR ?_
  intro s e hR
  subst e
  refine bs_aload_n dX12_readFigure_76 rfl ?_
  obtain ⟨mu17, k16, h⟩ := fg_bdE h
  refine fg_callVv dX12_readFigure_77 qX12_199 (wX12_balloon HM hR k16) rfl (HM.s 0 rfl rfl rfl) rfl (Nat.le_of_ble_eq_true rfl) (fg_cr (by first | decide | omega) (by decide)) (fun hR => ?_)
  obtain ⟨t25, k26, h⟩ := fg_bdE h
  refine bs_W.mk [(0, .ref m), (1, .int p1)] (by intro q hq; simp only [List.mem_cons, List.not_mem_nil, or_false] at hq; rcases hq with rfl | rfl <;> rfl) ?_
  refine wFX12_readFigure_l80 HM _ _ k26 hR ?_
  intro s e hR
  subst e
  refine bs_W.mk [(0, .ref m)] (by intro q hq; simp only [List.mem_cons, List.not_mem_nil, or_false] at hq; rcases hq with rfl; rfl) ?_
  exact wFX12_readFigure_j128 HM kr hR h
noncomputable def FX12_readRule_b36 (m : Nat)  (l1 : Int32) (s : bs_Mm) : Option ((bs_Mm) ⊕ (bs_Mm)) :=
  if (bs_iv (s m 9)) = (-1) then (
    fg_b2 (FX12_look m s) (fun v12 mu11 => 
    if v12 = (nI 59) then (
      fg_wr mu11 m 8 (.int ((bs_iv (mu11 m 8)) + (nI 1))) (fun mu13 => 
      fg_bd (FX12_clause m mu13) (fun mu15 => 
      some (.inl mu15)))
    ) else (
      some (.inr mu11)
    ))
  ) else (
    some (.inr s)
  )
set_option maxHeartbeats 4000000 in
theorem wFX12_readRule_b36 {nx : Nat} {sh : bs_Sh} {R : Nat → Nat → Option Nat} {m : Nat} (HM : fg_S (bs_tM m) R m sh) {l1 : Int32} {Ph : bs_Po} {s : bs_Mm} {r : (bs_Mm) ⊕ (bs_Mm)} (ka : ∀ s, r = .inl s → fg_R R s → bs_W Ph mX12_readRule (bs_rm 373 0 0) 36 (bs_mk [(0, .ref m), (1, .int l1)]) [] 0 0 nx sh s) (ke : ∀ s, r = .inr s → fg_R R s → bs_W Ph mX12_readRule (bs_rm 373 0 0) 70 (bs_mk [(0, .ref m), (1, .int l1)]) [] 0 0 nx sh s) (hR : fg_R R s) (h : FX12_readRule_b36 m l1 s = some r) : bs_W Ph mX12_readRule (bs_rm 373 0 0) 36 (bs_mk [(0, .ref m), (1, .int l1)]) [] 0 0 nx sh s := by
  unfold FX12_readRule_b36 at h
  refine bs_aload_n dX12_readRule_36 rfl ?_
  refine bs_getI dX12_readRule_37 fX12_142 (HM.s 0 rfl rfl rfl) ?_
  refine bs_iconst (v := (-1)) dX12_readRule_40 (by decide) ?_
  refine bs_icmp_ne (tgt := 70) dX12_readRule_41 (by decide) (fun c => ?_) (fun c => ?_)
  · replace h := fg_iN c h
    cases h
    refine bs_W.mk [(0, .ref m), (1, .int l1)] (by intro q hq; simp only [List.mem_cons, List.not_mem_nil, or_false] at hq; rcases hq with rfl | rfl <;> rfl) (ke _ rfl hR)
  · replace h := fg_ip c h
    refine bs_aload_n dX12_readRule_44 rfl ?_
    obtain ⟨v12, mu11, k10, h⟩ := fg_b2E h
    refine fg_callV dX12_readRule_45 qX12_180 (wX12_look HM hR k10) rfl (HM.s 0 rfl rfl rfl) rfl (Nat.le_of_ble_eq_true rfl) (fg_cr (by first | decide | omega) (by decide)) (fun hR => ?_)
    refine bs_bipush (v := (nI 59)) dX12_readRule_48 (by decide) ?_
    refine bs_icmp_ne (tgt := 70) dX12_readRule_50 (by decide) (fun c => ?_) (fun c => ?_)
    · replace h := fg_iN c h
      cases h
      refine bs_W.mk [(0, .ref m), (1, .int l1)] (by intro q hq; simp only [List.mem_cons, List.not_mem_nil, or_false] at hq; rcases hq with rfl | rfl <;> rfl) (ke _ rfl hR)
    · replace h := fg_ip c h
      refine bs_aload_n dX12_readRule_53 rfl ?_
      refine bs_dup dX12_readRule_54 rfl ?_
      refine bs_getI dX12_readRule_55 fX12_135 (HM.s 0 rfl rfl rfl) ?_
      refine bs_iconst (v := (nI 1)) dX12_readRule_58 (by decide) ?_
      refine bs_iadd dX12_readRule_59 ?_
      refine fg_putI dX12_readRule_60 pX12_135 (HM.s 0 rfl rfl rfl) (HM.n 0 8 rfl rfl rfl) hR h (fun mu13 hR h => ?_)
      refine bs_aload_n dX12_readRule_63 rfl ?_
      obtain ⟨mu15, k14, h⟩ := fg_bdE h
      refine fg_callVv dX12_readRule_64 qX12_243 (wX12_clause HM hR k14) rfl (HM.s 0 rfl rfl rfl) rfl (Nat.le_of_ble_eq_true rfl) (fg_cr (by first | decide | omega) (by decide)) (fun hR => ?_)
      refine bs_goto (tgt := 36) dX12_readRule_67 (by decide) ?_
      cases h
      refine bs_W.mk [(0, .ref m), (1, .int l1)] (by intro q hq; simp only [List.mem_cons, List.not_mem_nil, or_false] at hq; rcases hq with rfl | rfl <;> rfl) (ka _ rfl hR)
theorem wFX12_readRule_l36 {nx : Nat} {sh : bs_Sh} {R : Nat → Nat → Option Nat} {m : Nat} (HM : fg_S (bs_tM m) R m sh) {l1 : Int32} {Ph : bs_Po} {t : bs_Mm} : ∀ n (mu1 : bs_Mm), fg_lp (FX12_readRule_b36 m l1) n mu1 = some t → fg_R R mu1 → (ke : ∀ s, t = s → fg_R R s → bs_W Ph mX12_readRule (bs_rm 373 0 0) 70 (bs_mk [(0, .ref m), (1, .int l1)]) [] 0 0 nx sh s) → bs_W Ph mX12_readRule (bs_rm 373 0 0) 36 (bs_mk [(0, .ref m), (1, .int l1)]) [] 0 0 nx sh mu1 := by
  intro n
  induction n with
  | zero => intro mu1 h; exact absurd h (fun z => fg_lp0 z)
  | succ n ih =>
    intro mu1 h hR ke
    obtain ⟨r, hb, h1, h2⟩ := fg_lpE h
    exact wFX12_readRule_b36 (s := mu1) HM (fun s' e hR' => ih s' (h1 s' e) hR' ke) (fun s' e => ke s' (h2 _ e).symm) hR hb
noncomputable def FX12_readRule_j70 (m : Nat) (mu : bs_Mm) : Option (Int32 × bs_Mm) :=
  if (bs_iv (mu m 9)) = (-1) then (
    fg_b2 (FX12_look m mu) (fun v20 mu19 => 
    if v20 = (-1) then (
      some ((bs_iv (mu19 m 9)), mu19)
    ) else (
      fg_bd (FX12_bad m mu19) (fun mu22 => 
      some ((bs_iv (mu22 m 9)), mu22))
    ))
  ) else (
    some ((bs_iv (mu m 9)), mu)
  )
set_option maxHeartbeats 4000000 in
theorem wFX12_readRule_j70 {nx : Nat} {sh : bs_Sh} {R : Nat → Nat → Option Nat} {m : Nat} (HM : fg_S (bs_tM m) R m sh) {mu : bs_Mm} {Ph : bs_Po} {r : Int32 × bs_Mm} (kr : ∀ q, r = q → fg_R R q.2 → Ph (some (.int q.1)) nx sh q.2) (hR : fg_R R mu) (h : FX12_readRule_j70 m mu = some r) : bs_W Ph mX12_readRule (bs_rm 373 0 0) 70 (bs_mk [(0, .ref m)]) [] 0 0 nx sh mu := by
  unfold FX12_readRule_j70 at h
  refine bs_aload_n dX12_readRule_70 rfl ?_
  refine bs_getI dX12_readRule_71 fX12_142 (HM.s 0 rfl rfl rfl) ?_
  refine bs_iconst (v := (-1)) dX12_readRule_74 (by decide) ?_
  refine bs_icmp_ne (tgt := 90) dX12_readRule_75 (by decide) (fun c => ?_) (fun c => ?_)
  · replace h := fg_iN c h
    refine bs_aload_n dX12_readRule_90 rfl ?_
    refine bs_getI dX12_readRule_91 fX12_142 (HM.s 0 rfl rfl rfl) ?_
    cases h
    exact bs_iret dX12_readRule_94 rfl (Nat.zero_le _) (Nat.zero_le _) (kr _ rfl hR)
  · replace h := fg_ip c h
    refine bs_aload_n dX12_readRule_78 rfl ?_
    obtain ⟨v20, mu19, k18, h⟩ := fg_b2E h
    refine fg_callV dX12_readRule_79 qX12_180 (wX12_look HM hR k18) rfl (HM.s 0 rfl rfl rfl) rfl (Nat.le_of_ble_eq_true rfl) (fg_cr (by first | decide | omega) (by decide)) (fun hR => ?_)
    refine bs_iconst (v := (-1)) dX12_readRule_82 (by decide) ?_
    refine bs_icmp_eq (tgt := 90) dX12_readRule_83 (by decide) (fun c => ?_) (fun c => ?_)
    · replace h := fg_ip c h
      refine bs_aload_n dX12_readRule_90 rfl ?_
      refine bs_getI dX12_readRule_91 fX12_142 (HM.s 0 rfl rfl rfl) ?_
      cases h
      exact bs_iret dX12_readRule_94 rfl (Nat.zero_le _) (Nat.zero_le _) (kr _ rfl hR)
    · replace h := fg_iN c h
      refine bs_aload_n dX12_readRule_86 rfl ?_
      obtain ⟨mu22, k21, h⟩ := fg_bdE h
      refine fg_callVv dX12_readRule_87 qX12_164 (wX12_bad HM hR k21) rfl (HM.s 0 rfl rfl rfl) rfl (Nat.le_of_ble_eq_true rfl) (fg_cr (by first | decide | omega) (by decide)) (fun hR => ?_)
      refine bs_aload_n dX12_readRule_90 rfl ?_
      refine bs_getI dX12_readRule_91 fX12_142 (HM.s 0 rfl rfl rfl) ?_
      cases h
      exact bs_iret dX12_readRule_94 rfl (Nat.zero_le _) (Nat.zero_le _) (kr _ rfl hR)
noncomputable def FX12_readRule (m : Nat) (mu : bs_Mm) (p1 : Int32) : Option (Int32 × bs_Mm) :=
  fg_wr mu m 32 (.int p1) (fun mu1 => 
  fg_wr mu1 m 8 (.int (nI 0)) (fun mu2 => 
  fg_wr mu2 m 9 (.int (-1)) (fun mu3 => 
  fg_wr mu3 m 10 (.int (nI 0)) (fun mu4 => 
  fg_wr mu4 m 33 (.int (nI 0)) (fun mu5 => 
  fg_gd (fg_in p1 7) (
  fg_wr mu5 (m + 19) p1.toNatClampNeg (.int (nI 0)) (fun mu7 => 
  fg_bd (FX12_clause m mu7) (fun mu9 => 
  fg_bd (fg_lp (FX12_readRule_b36 m p1) fg_fu mu9) (fun t16 => 
    FX12_readRule_j70 m t16
  )))))))))
set_option maxHeartbeats 4000000 in
theorem wX12_readRule {nx : Nat} {sh : bs_Sh} {R : Nat → Nat → Option Nat} {m : Nat} (HM : fg_S (bs_tM m) R m sh) {mu : bs_Mm} (hR : fg_R R mu) {p1 : Int32} {r : Int32 × bs_Mm} (h : FX12_readRule m mu p1 = some r) : bs_C mX12_readRule (bs_rm 373 0 0) [.ref m, .int p1] nx sh mu (fg_po R nx sh (some (.int r.1)) r.2) := by
  refine bs_ct (by decide +kernel) (Nat.le_of_ble_eq_true rfl) ?_
  have kr : ∀ q, r = q → fg_R R q.2 → (fg_po R nx sh (some (.int r.1)) r.2) (some (.int q.1)) nx sh q.2 := fun q e hq => by subst e; exact ⟨rfl, rfl, rfl, rfl, hq⟩
  unfold FX12_readRule at h
  refine bs_aload_n dX12_readRule_0 rfl ?_
  refine bs_iload_n dX12_readRule_1 rfl ?_
  refine fg_putI dX12_readRule_2 pX12_205 (HM.s 0 rfl rfl rfl) (HM.n 0 32 rfl rfl rfl) hR h (fun mu1 hR h => ?_)
  refine bs_aload_n dX12_readRule_5 rfl ?_
  refine bs_iconst (v := (nI 0)) dX12_readRule_6 (by decide) ?_
  refine fg_putI dX12_readRule_7 pX12_135 (HM.s 0 rfl rfl rfl) (HM.n 0 8 rfl rfl rfl) hR h (fun mu2 hR h => ?_)
  refine bs_aload_n dX12_readRule_10 rfl ?_
  refine bs_iconst (v := (-1)) dX12_readRule_11 (by decide) ?_
  refine fg_putI dX12_readRule_12 pX12_142 (HM.s 0 rfl rfl rfl) (HM.n 0 9 rfl rfl rfl) hR h (fun mu3 hR h => ?_)
  refine bs_aload_n dX12_readRule_15 rfl ?_
  refine bs_iconst (v := (nI 0)) dX12_readRule_16 (by decide) ?_
  refine fg_putI dX12_readRule_17 pX12_193 (HM.s 0 rfl rfl rfl) (HM.n 0 10 rfl rfl rfl) hR h (fun mu4 hR h => ?_)
  refine bs_aload_n dX12_readRule_20 rfl ?_
  refine bs_iconst (v := (nI 0)) dX12_readRule_21 (by decide) ?_
  refine fg_putI dX12_readRule_22 pX12_208 (HM.s 0 rfl rfl rfl) (HM.n 0 33 rfl rfl rfl) hR h (fun mu5 hR h => ?_)
  refine bs_aload_n dX12_readRule_25 rfl ?_
  refine fg_getR (b := (m + 19)) dX12_readRule_26 fX12_64 (HM.s 0 rfl rfl rfl) hR (HM.r 0 28 rfl rfl rfl) ?_
  refine bs_iload_n dX12_readRule_29 rfl ?_
  refine bs_iconst (v := (nI 0)) dX12_readRule_30 (by decide) ?_
  obtain ⟨g6, h⟩ := fg_gdE h
  refine fg_iast dX12_readRule_31 (HM.ss 19 rfl rfl) (fun j => HM.n 19 j rfl rfl rfl) g6 hR h (fun mu7 hR h => ?_)
  refine bs_aload_n dX12_readRule_32 rfl ?_
  obtain ⟨mu9, k8, h⟩ := fg_bdE h
  refine fg_callVv dX12_readRule_33 qX12_243 (wX12_clause HM hR k8) rfl (HM.s 0 rfl rfl rfl) rfl (Nat.le_of_ble_eq_true rfl) (fg_cr (by first | decide | omega) (by decide)) (fun hR => ?_)
  obtain ⟨t16, k17, h⟩ := fg_bdE h
  refine bs_W.mk [(0, .ref m), (1, .int p1)] (by intro q hq; simp only [List.mem_cons, List.not_mem_nil, or_false] at hq; rcases hq with rfl | rfl <;> rfl) ?_
  refine wFX12_readRule_l36 HM _ _ k17 hR ?_
  intro s e hR
  subst e
  refine bs_W.mk [(0, .ref m)] (by intro q hq; simp only [List.mem_cons, List.not_mem_nil, or_false] at hq; rcases hq with rfl; rfl) ?_
  exact wFX12_readRule_j70 HM kr hR h
noncomputable def FX12_fault (m : Nat) (mu : bs_Mm) (p1 : Int32) : Option (Int32 × bs_Mm) :=
  if p1 = 0 then (
    fg_b2 (FX12_readFigure m mu (nI 12)) (fun v6 mu5 => 
    some (v6, mu5))
  ) else (
    if p1 = (nI 1) then (
      fg_b2 (FX12_readRule m mu (nI 6)) (fun v3 mu2 => 
      some (v3, mu2))
    ) else (
      some ((-2), mu)
    )
  )
set_option maxHeartbeats 4000000 in
theorem wX12_fault {nx : Nat} {sh : bs_Sh} {R : Nat → Nat → Option Nat} {m : Nat} (HM : fg_S (bs_tM m) R m sh) {mu : bs_Mm} (hR : fg_R R mu) {p1 : Int32} {r : Int32 × bs_Mm} (h : FX12_fault m mu p1 = some r) : bs_C mX12_fault (bs_rm 374 0 0) [.ref m, .int p1] nx sh mu (fg_po R nx sh (some (.int r.1)) r.2) := by
  refine bs_ct (by decide +kernel) (Nat.le_of_ble_eq_true rfl) ?_
  have kr : ∀ q, r = q → fg_R R q.2 → (fg_po R nx sh (some (.int r.1)) r.2) (some (.int q.1)) nx sh q.2 := fun q e hq => by subst e; exact ⟨rfl, rfl, rfl, rfl, hq⟩
  unfold FX12_fault at h
  refine bs_iload_n dX12_fault_0 rfl ?_
  refine bs_if_ne (tgt := 13) dX12_fault_1 (by decide) (fun c => ?_) (fun c => ?_)
  · replace h := fg_iN c h
    refine bs_iload_n dX12_fault_13 rfl ?_
    refine bs_iconst (v := (nI 1)) dX12_fault_14 (by decide) ?_
    refine bs_icmp_ne (tgt := 27) dX12_fault_15 (by decide) (fun c => ?_) (fun c => ?_)
    · replace h := fg_iN c h
      refine bs_bipush (v := (-2)) dX12_fault_27 (by decide) ?_
      cases h
      exact bs_iret dX12_fault_29 rfl (Nat.zero_le _) (Nat.zero_le _) (kr _ rfl hR)
    · replace h := fg_ip c h
      refine bs_aload_n dX12_fault_18 rfl ?_
      refine bs_bipush (v := (nI 6)) dX12_fault_19 (by decide) ?_
      obtain ⟨v3, mu2, k1, h⟩ := fg_b2E h
      refine fg_callV dX12_fault_21 qX12_249 (wX12_readRule HM hR k1) rfl (HM.s 0 rfl rfl rfl) rfl (Nat.le_of_ble_eq_true rfl) (fg_cr (by first | decide | omega) (by decide)) (fun hR => ?_)
      refine bs_goto (tgt := 29) dX12_fault_24 (by decide) ?_
      cases h
      exact bs_iret dX12_fault_29 rfl (Nat.zero_le _) (Nat.zero_le _) (kr _ rfl hR)
  · replace h := fg_ip c h
    refine bs_aload_n dX12_fault_4 rfl ?_
    refine bs_bipush (v := (nI 12)) dX12_fault_5 (by decide) ?_
    obtain ⟨v6, mu5, k4, h⟩ := fg_b2E h
    refine fg_callV dX12_fault_7 qX12_246 (wX12_readFigure HM hR k4) rfl (HM.s 0 rfl rfl rfl) rfl (Nat.le_of_ble_eq_true rfl) (fg_cr (by first | decide | omega) (by decide)) (fun hR => ?_)
    refine bs_goto (tgt := 29) dX12_fault_10 (by decide) ?_
    cases h
    exact bs_iret dX12_fault_29 rfl (Nat.zero_le _) (Nat.zero_le _) (kr _ rfl hR)
noncomputable def FX12_feed_b6 (m : Nat) (mu : bs_Mm) (l1 : Int32) (l2 : Int32) (l3 : Int32) (l4 : Int32) (l5 : Int32) (s : Int32 × Int32) : Option ((Int32 × Int32) ⊕ (Int32)) :=
  if (nI 20) ≤ s.2 then (
    some (.inr s.1)
  ) else (
    fg_bd (FX12_byteOf m mu l1 l2 l3 l4 l5 s.2) (fun v2 => 
    if v2 = 0 then (
      some (.inl ((s.1 + (nI 0)), (s.2 + (nI 1))))
    ) else (
      some (.inl ((s.1 + (nI 1)), (s.2 + (nI 1))))
    ))
  )
set_option maxHeartbeats 4000000 in
theorem wFX12_feed_b6 {nx : Nat} {sh : bs_Sh} {R : Nat → Nat → Option Nat} {m : Nat} (HM : fg_S (bs_tM m) R m sh) {mu : bs_Mm} {l1 : Int32} {l2 : Int32} {l3 : Int32} {l4 : Int32} {l5 : Int32} {Ph : bs_Po} {s : Int32 × Int32} {r : (Int32 × Int32) ⊕ (Int32)} (ka : ∀ s, r = .inl s → bs_W Ph mX12_feed (bs_rm 1 0 0) 6 (bs_mk [(0, .ref m), (1, .int l1), (2, .int l2), (3, .int l3), (4, .int l4), (5, .int l5), (6, .int s.1), (7, .int s.2)]) [] 0 0 nx sh mu) (ke : ∀ s, r = .inr s → bs_W Ph mX12_feed (bs_rm 1 0 0) 44 (bs_mk [(0, .ref m), (1, .int l1), (2, .int l2), (3, .int l3), (4, .int l4), (5, .int l5), (6, .int s)]) [] 0 0 nx sh mu) (hR : fg_R R mu) (h : FX12_feed_b6 m mu l1 l2 l3 l4 l5 s = some r) : bs_W Ph mX12_feed (bs_rm 1 0 0) 6 (bs_mk [(0, .ref m), (1, .int l1), (2, .int l2), (3, .int l3), (4, .int l4), (5, .int l5), (6, .int s.1), (7, .int s.2)]) [] 0 0 nx sh mu := by
  unfold FX12_feed_b6 at h
  refine bs_iload dX12_feed_6 rfl ?_
  refine bs_bipush (v := (nI 20)) dX12_feed_8 (by decide) ?_
  refine bs_icmp_ge (tgt := 44) dX12_feed_10 (by decide) (fun c => ?_) (fun c => ?_)
  · replace h := fg_ip c h
    cases h
    refine bs_W.mk [(0, .ref m), (1, .int l1), (2, .int l2), (3, .int l3), (4, .int l4), (5, .int l5), (6, .int s.1)] (by intro q hq; simp only [List.mem_cons, List.not_mem_nil, or_false] at hq; rcases hq with rfl | rfl | rfl | rfl | rfl | rfl | rfl <;> rfl) (ke _ rfl)
  · replace h := fg_iN c h
    refine bs_iload dX12_feed_13 rfl ?_
    refine bs_iload_n dX12_feed_15 rfl ?_
    refine bs_iload_n dX12_feed_16 rfl ?_
    refine bs_iload_n dX12_feed_17 rfl ?_
    refine bs_iload dX12_feed_18 rfl ?_
    refine bs_iload dX12_feed_20 rfl ?_
    refine bs_iload dX12_feed_22 rfl ?_
    obtain ⟨v2, k1, h⟩ := fg_bdE h
    refine fg_callS dX12_feed_24 qX12_128 (wX12_byteOf HM hR k1) rfl rfl (Nat.le_of_ble_eq_true rfl) (fg_cr (by first | decide | omega) (by decide)) (fun hR => ?_)
    refine bs_if_eq (tgt := 34) dX12_feed_27 (by decide) (fun c => ?_) (fun c => ?_)
    · replace h := fg_ip c h
      refine bs_iconst (v := (nI 0)) dX12_feed_34 (by decide) ?_
      refine bs_iadd dX12_feed_35 ?_
      refine bs_istore dX12_feed_36 rfl (by decide) ?_
      refine fg_iinc (m := (nI 1)) dX12_feed_38 rfl rfl (by decide) ?_
      refine bs_goto (tgt := 6) dX12_feed_41 (by decide) ?_
      cases h
      refine bs_W.mk [(0, .ref m), (1, .int l1), (2, .int l2), (3, .int l3), (4, .int l4), (5, .int l5), (6, .int (s.1 + (nI 0))), (7, .int (s.2 + (nI 1)))] (by intro q hq; simp only [List.mem_cons, List.not_mem_nil, or_false] at hq; rcases hq with rfl | rfl | rfl | rfl | rfl | rfl | rfl | rfl <;> rfl) (by have k := ka _ rfl; dsimp only at k; exact k)
    · replace h := fg_iN c h
      refine bs_iconst (v := (nI 1)) dX12_feed_30 (by decide) ?_
      refine bs_goto (tgt := 35) dX12_feed_31 (by decide) ?_
      refine bs_iadd dX12_feed_35 ?_
      refine bs_istore dX12_feed_36 rfl (by decide) ?_
      refine fg_iinc (m := (nI 1)) dX12_feed_38 rfl rfl (by decide) ?_
      refine bs_goto (tgt := 6) dX12_feed_41 (by decide) ?_
      cases h
      refine bs_W.mk [(0, .ref m), (1, .int l1), (2, .int l2), (3, .int l3), (4, .int l4), (5, .int l5), (6, .int (s.1 + (nI 1))), (7, .int (s.2 + (nI 1)))] (by intro q hq; simp only [List.mem_cons, List.not_mem_nil, or_false] at hq; rcases hq with rfl | rfl | rfl | rfl | rfl | rfl | rfl | rfl <;> rfl) (by have k := ka _ rfl; dsimp only at k; exact k)
theorem wFX12_feed_l6 {nx : Nat} {sh : bs_Sh} {R : Nat → Nat → Option Nat} {m : Nat} (HM : fg_S (bs_tM m) R m sh) {mu : bs_Mm} {l1 : Int32} {l2 : Int32} {l3 : Int32} {l4 : Int32} {l5 : Int32} {Ph : bs_Po} {t : Int32} : ∀ n (y0 : Int32) (y1 : Int32), fg_lp (FX12_feed_b6 m mu l1 l2 l3 l4 l5) n (y0, y1) = some t → fg_R R mu → (ke : ∀ s, t = s → bs_W Ph mX12_feed (bs_rm 1 0 0) 44 (bs_mk [(0, .ref m), (1, .int l1), (2, .int l2), (3, .int l3), (4, .int l4), (5, .int l5), (6, .int s)]) [] 0 0 nx sh mu) → bs_W Ph mX12_feed (bs_rm 1 0 0) 6 (bs_mk [(0, .ref m), (1, .int l1), (2, .int l2), (3, .int l3), (4, .int l4), (5, .int l5), (6, .int y0), (7, .int y1)]) [] 0 0 nx sh mu := by
  intro n
  induction n with
  | zero => intro y0 y1 h; exact absurd h (fun z => fg_lp0 z)
  | succ n ih =>
    intro y0 y1 h hR ke
    obtain ⟨r, hb, h1, h2⟩ := fg_lpE h
    exact wFX12_feed_b6 (s := (y0, y1)) HM (fun s' e => ih s'.1 s'.2 (h1 s' e) hR ke) (fun s' e => ke s' (h2 _ e).symm) hR hb
noncomputable def FX12_feed_b62 (m : Nat)  (l1 : Int32) (l2 : Int32) (l3 : Int32) (l4 : Int32) (l5 : Int32) (l6 : Int32) (s : Int32 × bs_Mm) : Option ((Int32 × bs_Mm) ⊕ (bs_Mm)) :=
  if (nI 20) ≤ s.1 then (
    some (.inr s.2)
  ) else (
    fg_bd (FX12_byteOf m s.2 l1 l2 l3 l4 l5 s.1) (fun v6 => 
    if v6 = 0 then (
      some (.inl ((s.1 + (nI 1)), s.2))
    ) else (
      fg_gd (fg_in (bs_iv (s.2 m 7)) 200) (
      fg_wr s.2 (m + 5) (bs_iv (s.2 m 7)).toNatClampNeg (.int v6) (fun mu8 => 
      fg_wr mu8 m 7 (.int ((bs_iv (mu8 m 7)) + (nI 1))) (fun mu9 => 
      some (.inl ((s.1 + (nI 1)), mu9)))))
    ))
  )
set_option maxHeartbeats 4000000 in
theorem wFX12_feed_b62 {nx : Nat} {sh : bs_Sh} {R : Nat → Nat → Option Nat} {m : Nat} (HM : fg_S (bs_tM m) R m sh) {l1 : Int32} {l2 : Int32} {l3 : Int32} {l4 : Int32} {l5 : Int32} {l6 : Int32} {Ph : bs_Po} {s : Int32 × bs_Mm} {r : (Int32 × bs_Mm) ⊕ (bs_Mm)} (ka : ∀ s, r = .inl s → fg_R R s.2 → bs_W Ph mX12_feed (bs_rm 1 0 0) 62 (bs_mk [(0, .ref m), (1, .int l1), (2, .int l2), (3, .int l3), (4, .int l4), (5, .int l5), (6, .int l6), (7, .int s.1)]) [] 0 0 nx sh s.2) (ke : ∀ s, r = .inr s → fg_R R s → bs_W Ph mX12_feed (bs_rm 1 0 0) 115 (bs_mk [(0, .ref m), (1, .int l1), (2, .int l2), (3, .int l3), (4, .int l4), (5, .int l5), (6, .int l6)]) [] 0 0 nx sh s) (hR : fg_R R s.2) (h : FX12_feed_b62 m l1 l2 l3 l4 l5 l6 s = some r) : bs_W Ph mX12_feed (bs_rm 1 0 0) 62 (bs_mk [(0, .ref m), (1, .int l1), (2, .int l2), (3, .int l3), (4, .int l4), (5, .int l5), (6, .int l6), (7, .int s.1)]) [] 0 0 nx sh s.2 := by
  unfold FX12_feed_b62 at h
  refine bs_iload dX12_feed_62 rfl ?_
  refine bs_bipush (v := (nI 20)) dX12_feed_64 (by decide) ?_
  refine bs_icmp_ge (tgt := 115) dX12_feed_66 (by decide) (fun c => ?_) (fun c => ?_)
  · replace h := fg_ip c h
    cases h
    refine bs_W.mk [(0, .ref m), (1, .int l1), (2, .int l2), (3, .int l3), (4, .int l4), (5, .int l5), (6, .int l6)] (by intro q hq; simp only [List.mem_cons, List.not_mem_nil, or_false] at hq; rcases hq with rfl | rfl | rfl | rfl | rfl | rfl | rfl <;> rfl) (ke _ rfl hR)
  · replace h := fg_iN c h
    refine bs_iload_n dX12_feed_69 rfl ?_
    refine bs_iload_n dX12_feed_70 rfl ?_
    refine bs_iload_n dX12_feed_71 rfl ?_
    refine bs_iload dX12_feed_72 rfl ?_
    refine bs_iload dX12_feed_74 rfl ?_
    refine bs_iload dX12_feed_76 rfl ?_
    obtain ⟨v6, k5, h⟩ := fg_bdE h
    refine fg_callS dX12_feed_78 qX12_128 (wX12_byteOf HM hR k5) rfl rfl (Nat.le_of_ble_eq_true rfl) (fg_cr (by first | decide | omega) (by decide)) (fun hR => ?_)
    refine bs_istore dX12_feed_81 rfl (by decide) ?_
    refine bs_iload dX12_feed_83 rfl ?_
    refine bs_if_eq (tgt := 109) dX12_feed_85 (by decide) (fun c => ?_) (fun c => ?_)
    · replace h := fg_ip c h
      refine fg_iinc (m := (nI 1)) dX12_feed_109 rfl rfl (by decide) ?_
      refine bs_goto (tgt := 62) dX12_feed_112 (by decide) ?_
      cases h
      refine bs_W.mk [(0, .ref m), (1, .int l1), (2, .int l2), (3, .int l3), (4, .int l4), (5, .int l5), (6, .int l6), (7, .int (s.1 + (nI 1)))] (by intro q hq; simp only [List.mem_cons, List.not_mem_nil, or_false] at hq; rcases hq with rfl | rfl | rfl | rfl | rfl | rfl | rfl | rfl <;> rfl) (by have k := ka _ rfl hR; dsimp only at k; exact k)
    · replace h := fg_iN c h
      refine bs_aload_n dX12_feed_88 rfl ?_
      refine fg_getR (b := (m + 5)) dX12_feed_89 fX12_22 (HM.s 0 rfl rfl rfl) hR (HM.r 0 6 rfl rfl rfl) ?_
      refine bs_aload_n dX12_feed_92 rfl ?_
      refine bs_getI dX12_feed_93 fX12_132 (HM.s 0 rfl rfl rfl) ?_
      refine bs_iload dX12_feed_96 rfl ?_
      obtain ⟨g7, h⟩ := fg_gdE h
      refine fg_iast dX12_feed_98 (HM.ss 5 rfl rfl) (fun j => HM.n 5 j rfl rfl rfl) g7 hR h (fun mu8 hR h => ?_)
      refine bs_aload_n dX12_feed_99 rfl ?_
      refine bs_dup dX12_feed_100 rfl ?_
      refine bs_getI dX12_feed_101 fX12_132 (HM.s 0 rfl rfl rfl) ?_
      refine bs_iconst (v := (nI 1)) dX12_feed_104 (by decide) ?_
      refine bs_iadd dX12_feed_105 ?_
      refine fg_putI dX12_feed_106 pX12_132 (HM.s 0 rfl rfl rfl) (HM.n 0 7 rfl rfl rfl) hR h (fun mu9 hR h => ?_)
      refine fg_iinc (m := (nI 1)) dX12_feed_109 rfl rfl (by decide) ?_
      refine bs_goto (tgt := 62) dX12_feed_112 (by decide) ?_
      cases h
      refine bs_W.mk [(0, .ref m), (1, .int l1), (2, .int l2), (3, .int l3), (4, .int l4), (5, .int l5), (6, .int l6), (7, .int (s.1 + (nI 1)))] (by intro q hq; simp only [List.mem_cons, List.not_mem_nil, or_false] at hq; rcases hq with rfl | rfl | rfl | rfl | rfl | rfl | rfl | rfl <;> rfl) (by have k := ka _ rfl hR; dsimp only at k; exact k)
theorem wFX12_feed_l62 {nx : Nat} {sh : bs_Sh} {R : Nat → Nat → Option Nat} {m : Nat} (HM : fg_S (bs_tM m) R m sh) {l1 : Int32} {l2 : Int32} {l3 : Int32} {l4 : Int32} {l5 : Int32} {l6 : Int32} {Ph : bs_Po} {t : bs_Mm} : ∀ n (y0 : Int32) (mu1 : bs_Mm), fg_lp (FX12_feed_b62 m l1 l2 l3 l4 l5 l6) n (y0, mu1) = some t → fg_R R mu1 → (ke : ∀ s, t = s → fg_R R s → bs_W Ph mX12_feed (bs_rm 1 0 0) 115 (bs_mk [(0, .ref m), (1, .int l1), (2, .int l2), (3, .int l3), (4, .int l4), (5, .int l5), (6, .int l6)]) [] 0 0 nx sh s) → bs_W Ph mX12_feed (bs_rm 1 0 0) 62 (bs_mk [(0, .ref m), (1, .int l1), (2, .int l2), (3, .int l3), (4, .int l4), (5, .int l5), (6, .int l6), (7, .int y0)]) [] 0 0 nx sh mu1 := by
  intro n
  induction n with
  | zero => intro y0 mu1 h; exact absurd h (fun z => fg_lp0 z)
  | succ n ih =>
    intro y0 mu1 h hR ke
    obtain ⟨r, hb, h1, h2⟩ := fg_lpE h
    exact wFX12_feed_b62 (s := (y0, mu1)) HM (fun s' e hR' => ih s'.1 s'.2 (h1 s' e) hR' ke) (fun s' e => ke s' (h2 _ e).symm) hR hb
noncomputable def FX12_feed (m : Nat) (mu : bs_Mm) (p1 : Int32) (p2 : Int32) (p3 : Int32) (p4 : Int32) (p5 : Int32) : Option (Int32 × bs_Mm) :=
  fg_bd (fg_lp (FX12_feed_b6 m mu p1 p2 p3 p4 p5) fg_fu ((nI 0), (nI 0))) (fun t3 => 
    if ((bs_iv (mu m 7)) + t3) ≤ (nI 200) then (
      fg_bd (fg_lp (FX12_feed_b62 m p1 p2 p3 p4 p5 t3) fg_fu ((nI 0), mu)) (fun t10 => 
        some ((bs_iv (t10 m 7)), t10)
      )
    ) else (
      some ((-1), mu)
    )
  )
set_option maxHeartbeats 4000000 in
theorem wX12_feed {nx : Nat} {sh : bs_Sh} {R : Nat → Nat → Option Nat} {m : Nat} (HM : fg_S (bs_tM m) R m sh) {mu : bs_Mm} (hR : fg_R R mu) {p1 : Int32} {p2 : Int32} {p3 : Int32} {p4 : Int32} {p5 : Int32} {r : Int32 × bs_Mm} (h : FX12_feed m mu p1 p2 p3 p4 p5 = some r) : bs_C mX12_feed (bs_rm 1 0 0) [.ref m, .int p1, .int p2, .int p3, .int p4, .int p5] nx sh mu (fg_po R nx sh (some (.int r.1)) r.2) := by
  refine bs_ct (by decide +kernel) (Nat.le_of_ble_eq_true rfl) ?_
  have kr : ∀ q, r = q → fg_R R q.2 → (fg_po R nx sh (some (.int r.1)) r.2) (some (.int q.1)) nx sh q.2 := fun q e hq => by subst e; exact ⟨rfl, rfl, rfl, rfl, hq⟩
  unfold FX12_feed at h
  refine bs_iconst (v := (nI 0)) dX12_feed_0 (by decide) ?_
  refine bs_istore dX12_feed_1 rfl (by decide) ?_
  refine bs_iconst (v := (nI 0)) dX12_feed_3 (by decide) ?_
  refine bs_istore dX12_feed_4 rfl (by decide) ?_
  obtain ⟨t3, k4, h⟩ := fg_bdE h
  refine bs_W.mk [(0, .ref m), (1, .int p1), (2, .int p2), (3, .int p3), (4, .int p4), (5, .int p5), (6, .int (nI 0)), (7, .int (nI 0))] (by intro q hq; simp only [List.mem_cons, List.not_mem_nil, or_false] at hq; rcases hq with rfl | rfl | rfl | rfl | rfl | rfl | rfl | rfl <;> rfl) ?_
  refine wFX12_feed_l6 HM _ _ _ k4 hR ?_
  intro s e
  subst e
  refine bs_aload_n dX12_feed_44 rfl ?_
  refine bs_getI dX12_feed_45 fX12_132 (HM.s 0 rfl rfl rfl) ?_
  refine bs_iload dX12_feed_48 rfl ?_
  refine bs_iadd dX12_feed_50 ?_
  refine bs_sipush (v := (nI 200)) dX12_feed_51 (by decide) ?_
  refine bs_icmp_le (tgt := 59) dX12_feed_54 (by decide) (fun c => ?_) (fun c => ?_)
  · replace h := fg_ip c h
    refine bs_iconst (v := (nI 0)) dX12_feed_59 (by decide) ?_
    refine bs_istore dX12_feed_60 rfl (by decide) ?_
    obtain ⟨t10, k11, h⟩ := fg_bdE h
    refine bs_W.mk [(0, .ref m), (1, .int p1), (2, .int p2), (3, .int p3), (4, .int p4), (5, .int p5), (6, .int t3), (7, .int (nI 0))] (by intro q hq; simp only [List.mem_cons, List.not_mem_nil, or_false] at hq; rcases hq with rfl | rfl | rfl | rfl | rfl | rfl | rfl | rfl <;> rfl) ?_
    refine wFX12_feed_l62 HM _ _ _ k11 hR ?_
    intro s e hR
    subst e
    refine bs_aload_n dX12_feed_115 rfl ?_
    refine bs_getI dX12_feed_116 fX12_132 (HM.s 0 rfl rfl rfl) ?_
    cases h
    exact bs_iret dX12_feed_119 rfl (Nat.zero_le _) (Nat.zero_le _) (kr _ rfl hR)
  · replace h := fg_iN c h
    refine bs_iconst (v := (-1)) dX12_feed_57 (by decide) ?_
    cases h
    exact bs_iret dX12_feed_58 rfl (Nat.zero_le _) (Nat.zero_le _) (kr _ rfl hR)
noncomputable def FX12_figure (m : Nat) (mu : bs_Mm) : Option (Int32 × bs_Mm) :=
  if (bs_iv (mu m 20)) = (nI 12) then (
    some ((-1), mu)
  ) else (
    fg_b2 (FX12_readFigure m mu (bs_iv (mu m 20))) (fun v3 mu2 => 
    if v3 = (-1) then (
      fg_wr mu2 m 7 (.int (nI 0)) (fun mu4 => 
      fg_wr mu4 m 20 (.int ((bs_iv (mu4 m 20)) + (nI 1))) (fun mu5 => 
      some (((bs_iv (mu5 m 20)) - (nI 1)), mu5)))
    ) else (
      some ((-1), mu2)
    ))
  )
set_option maxHeartbeats 4000000 in
theorem wX12_figure {nx : Nat} {sh : bs_Sh} {R : Nat → Nat → Option Nat} {m : Nat} (HM : fg_S (bs_tM m) R m sh) {mu : bs_Mm} (hR : fg_R R mu) {r : Int32 × bs_Mm} (h : FX12_figure m mu = some r) : bs_C mX12_figure (bs_rm 30 0 0) [.ref m] nx sh mu (fg_po R nx sh (some (.int r.1)) r.2) := by
  refine bs_ct (by decide +kernel) (Nat.le_of_ble_eq_true rfl) ?_
  have kr : ∀ q, r = q → fg_R R q.2 → (fg_po R nx sh (some (.int r.1)) r.2) (some (.int q.1)) nx sh q.2 := fun q e hq => by subst e; exact ⟨rfl, rfl, rfl, rfl, hq⟩
  unfold FX12_figure at h
  refine bs_aload_n dX12_figure_0 rfl ?_
  refine bs_getI dX12_figure_1 fX12_252 (HM.s 0 rfl rfl rfl) ?_
  refine bs_bipush (v := (nI 12)) dX12_figure_4 (by decide) ?_
  refine bs_icmp_eq (tgt := 21) dX12_figure_6 (by decide) (fun c => ?_) (fun c => ?_)
  · replace h := fg_ip c h
    refine bs_iconst (v := (-1)) dX12_figure_21 (by decide) ?_
    cases h
    exact bs_iret dX12_figure_22 rfl (Nat.zero_le _) (Nat.zero_le _) (kr _ rfl hR)
  · replace h := fg_iN c h
    refine bs_aload_n dX12_figure_9 rfl ?_
    refine bs_aload_n dX12_figure_10 rfl ?_
    refine bs_getI dX12_figure_11 fX12_252 (HM.s 0 rfl rfl rfl) ?_
    obtain ⟨v3, mu2, k1, h⟩ := fg_b2E h
    refine fg_callV dX12_figure_14 qX12_246 (wX12_readFigure HM hR k1) rfl (HM.s 0 rfl rfl rfl) rfl (Nat.le_of_ble_eq_true rfl) (fg_cr (by first | decide | omega) (by decide)) (fun hR => ?_)
    refine bs_iconst (v := (-1)) dX12_figure_17 (by decide) ?_
    refine bs_icmp_eq (tgt := 23) dX12_figure_18 (by decide) (fun c => ?_) (fun c => ?_)
    · replace h := fg_ip c h
      refine bs_aload_n dX12_figure_23 rfl ?_
      refine bs_iconst (v := (nI 0)) dX12_figure_24 (by decide) ?_
      refine fg_putI dX12_figure_25 pX12_132 (HM.s 0 rfl rfl rfl) (HM.n 0 7 rfl rfl rfl) hR h (fun mu4 hR h => ?_)
      refine bs_aload_n dX12_figure_28 rfl ?_
      refine bs_dup dX12_figure_29 rfl ?_
      refine bs_getI dX12_figure_30 fX12_252 (HM.s 0 rfl rfl rfl) ?_
      refine bs_iconst (v := (nI 1)) dX12_figure_33 (by decide) ?_
      refine bs_iadd dX12_figure_34 ?_
      refine fg_putI dX12_figure_35 pX12_252 (HM.s 0 rfl rfl rfl) (HM.n 0 20 rfl rfl rfl) hR h (fun mu5 hR h => ?_)
      refine bs_aload_n dX12_figure_38 rfl ?_
      refine bs_getI dX12_figure_39 fX12_252 (HM.s 0 rfl rfl rfl) ?_
      refine bs_iconst (v := (nI 1)) dX12_figure_42 (by decide) ?_
      refine bs_isub dX12_figure_43 ?_
      cases h
      exact bs_iret dX12_figure_44 rfl (Nat.zero_le _) (Nat.zero_le _) (kr _ rfl hR)
    · replace h := fg_iN c h
      refine bs_iconst (v := (-1)) dX12_figure_21 (by decide) ?_
      cases h
      exact bs_iret dX12_figure_22 rfl (Nat.zero_le _) (Nat.zero_le _) (kr _ rfl hR)
noncomputable def FX12_firstPart_b20_L8 (m : Nat) (mu : bs_Mm) (l1 : Int32) (l2 : Int32) (l4 : Int32) (s : Int32 × Int32) : Option ((Int32 × Int32) ⊕ (Int32)) :=
  fg_gd (fg_in l1 13) (
  if (bs_iv (mu (m + 8) l1.toNatClampNeg)) ≤ s.2 then (
    some (.inr s.1)
  ) else (
    if ((l2 >>> (s.2 &&& 31)) &&& (nI 1)) = (nI 1) then (
      fg_bd (FX12_meets m mu l1 s.2 s.1) (fun v3 => 
      if v3 = 0 then (
        some (.inl ((s.1 ||| (nI 0)), (s.2 + (nI 1))))
      ) else (
        some (.inl ((s.1 ||| ((nI 1) <<< (s.2 &&& 31))), (s.2 + (nI 1))))
      ))
    ) else (
      some (.inl ((s.1 ||| (nI 0)), (s.2 + (nI 1))))
    )
  ))
set_option maxHeartbeats 4000000 in
theorem wFX12_firstPart_b20_L8 {nx : Nat} {sh : bs_Sh} {R : Nat → Nat → Option Nat} {m : Nat} (HM : fg_S (bs_tM m) R m sh) {mu : bs_Mm} {l1 : Int32} {l2 : Int32} {l4 : Int32} {Ph : bs_Po} {s : Int32 × Int32} {r : (Int32 × Int32) ⊕ (Int32)} (ka : ∀ s, r = .inl s → bs_W Ph mX12_firstPart (bs_rm 1 0 0) 20 (bs_mk [(0, .ref m), (1, .int l1), (2, .int l2), (3, .int s.1), (4, .int l4), (5, .int s.2)]) [] 0 0 nx sh mu) (ke : ∀ s, r = .inr s → bs_W Ph mX12_firstPart (bs_rm 1 0 0) 69 (bs_mk [(0, .ref m), (1, .int l1), (2, .int l2), (3, .int s), (4, .int l4)]) [] 0 0 nx sh mu) (hR : fg_R R mu) (h : FX12_firstPart_b20_L8 m mu l1 l2 l4 s = some r) : bs_W Ph mX12_firstPart (bs_rm 1 0 0) 20 (bs_mk [(0, .ref m), (1, .int l1), (2, .int l2), (3, .int s.1), (4, .int l4), (5, .int s.2)]) [] 0 0 nx sh mu := by
  unfold FX12_firstPart_b20_L8 at h
  refine bs_iload dX12_firstPart_20 rfl ?_
  refine bs_aload_n dX12_firstPart_22 rfl ?_
  refine fg_getR (b := (m + 8)) dX12_firstPart_23 fX12_31 (HM.s 0 rfl rfl rfl) hR (HM.r 0 13 rfl rfl rfl) ?_
  refine bs_iload_n dX12_firstPart_26 rfl ?_
  obtain ⟨g1, h⟩ := fg_gdE h
  refine bs_iald dX12_firstPart_27 (HM.ss 8 rfl rfl) (fg_in_ix g1) ?_
  refine bs_icmp_ge (tgt := 69) dX12_firstPart_28 (by decide) (fun c => ?_) (fun c => ?_)
  · replace h := fg_ip c h
    cases h
    refine bs_W.mk [(0, .ref m), (1, .int l1), (2, .int l2), (3, .int s.1), (4, .int l4)] (by intro q hq; simp only [List.mem_cons, List.not_mem_nil, or_false] at hq; rcases hq with rfl | rfl | rfl | rfl | rfl <;> rfl) (ke _ rfl)
  · replace h := fg_iN c h
    refine bs_iload_n dX12_firstPart_31 rfl ?_
    refine bs_iload_n dX12_firstPart_32 rfl ?_
    refine bs_iload dX12_firstPart_33 rfl ?_
    refine bs_ishr dX12_firstPart_35 ?_
    refine bs_iconst (v := (nI 1)) dX12_firstPart_36 (by decide) ?_
    refine bs_iand dX12_firstPart_37 ?_
    refine bs_iconst (v := (nI 1)) dX12_firstPart_38 (by decide) ?_
    refine bs_icmp_ne (tgt := 60) dX12_firstPart_39 (by decide) (fun c => ?_) (fun c => ?_)
    · replace h := fg_iN c h
      refine bs_iconst (v := (nI 0)) dX12_firstPart_60 (by decide) ?_
      refine bs_ior dX12_firstPart_61 ?_
      refine bs_istore_n dX12_firstPart_62 rfl (by decide) ?_
      refine fg_iinc (m := (nI 1)) dX12_firstPart_63 rfl rfl (by decide) ?_
      refine bs_goto (tgt := 20) dX12_firstPart_66 (by decide) ?_
      cases h
      refine bs_W.mk [(0, .ref m), (1, .int l1), (2, .int l2), (3, .int (s.1 ||| (nI 0))), (4, .int l4), (5, .int (s.2 + (nI 1)))] (by intro q hq; simp only [List.mem_cons, List.not_mem_nil, or_false] at hq; rcases hq with rfl | rfl | rfl | rfl | rfl | rfl <;> rfl) (by have k := ka _ rfl; dsimp only at k; exact k)
    · replace h := fg_ip c h
      refine bs_aload_n dX12_firstPart_42 rfl ?_
      refine bs_iload_n dX12_firstPart_43 rfl ?_
      refine bs_iload dX12_firstPart_44 rfl ?_
      refine bs_iload_n dX12_firstPart_46 rfl ?_
      obtain ⟨v3, k2, h⟩ := fg_bdE h
      refine fg_callV dX12_firstPart_47 qX12_330 (wX12_meets HM hR k2) rfl (HM.s 0 rfl rfl rfl) rfl (Nat.le_of_ble_eq_true rfl) (fg_cr (by first | decide | omega) (by decide)) (fun hR => ?_)
      refine bs_if_eq (tgt := 60) dX12_firstPart_50 (by decide) (fun c => ?_) (fun c => ?_)
      · replace h := fg_ip c h
        refine bs_iconst (v := (nI 0)) dX12_firstPart_60 (by decide) ?_
        refine bs_ior dX12_firstPart_61 ?_
        refine bs_istore_n dX12_firstPart_62 rfl (by decide) ?_
        refine fg_iinc (m := (nI 1)) dX12_firstPart_63 rfl rfl (by decide) ?_
        refine bs_goto (tgt := 20) dX12_firstPart_66 (by decide) ?_
        cases h
        refine bs_W.mk [(0, .ref m), (1, .int l1), (2, .int l2), (3, .int (s.1 ||| (nI 0))), (4, .int l4), (5, .int (s.2 + (nI 1)))] (by intro q hq; simp only [List.mem_cons, List.not_mem_nil, or_false] at hq; rcases hq with rfl | rfl | rfl | rfl | rfl | rfl <;> rfl) (by have k := ka _ rfl; dsimp only at k; exact k)
      · replace h := fg_iN c h
        refine bs_iconst (v := (nI 1)) dX12_firstPart_53 (by decide) ?_
        refine bs_iload dX12_firstPart_54 rfl ?_
        refine bs_ishl dX12_firstPart_56 ?_
        refine bs_goto (tgt := 61) dX12_firstPart_57 (by decide) ?_
        refine bs_ior dX12_firstPart_61 ?_
        refine bs_istore_n dX12_firstPart_62 rfl (by decide) ?_
        refine fg_iinc (m := (nI 1)) dX12_firstPart_63 rfl rfl (by decide) ?_
        refine bs_goto (tgt := 20) dX12_firstPart_66 (by decide) ?_
        cases h
        refine bs_W.mk [(0, .ref m), (1, .int l1), (2, .int l2), (3, .int (s.1 ||| ((nI 1) <<< (s.2 &&& 31)))), (4, .int l4), (5, .int (s.2 + (nI 1)))] (by intro q hq; simp only [List.mem_cons, List.not_mem_nil, or_false] at hq; rcases hq with rfl | rfl | rfl | rfl | rfl | rfl <;> rfl) (by have k := ka _ rfl; dsimp only at k; exact k)
theorem wFX12_firstPart_l20_L8 {nx : Nat} {sh : bs_Sh} {R : Nat → Nat → Option Nat} {m : Nat} (HM : fg_S (bs_tM m) R m sh) {mu : bs_Mm} {l1 : Int32} {l2 : Int32} {l4 : Int32} {Ph : bs_Po} {t : Int32} : ∀ n (y0 : Int32) (y1 : Int32), fg_lp (FX12_firstPart_b20_L8 m mu l1 l2 l4) n (y0, y1) = some t → fg_R R mu → (ke : ∀ s, t = s → bs_W Ph mX12_firstPart (bs_rm 1 0 0) 69 (bs_mk [(0, .ref m), (1, .int l1), (2, .int l2), (3, .int s), (4, .int l4)]) [] 0 0 nx sh mu) → bs_W Ph mX12_firstPart (bs_rm 1 0 0) 20 (bs_mk [(0, .ref m), (1, .int l1), (2, .int l2), (3, .int y0), (4, .int l4), (5, .int y1)]) [] 0 0 nx sh mu := by
  intro n
  induction n with
  | zero => intro y0 y1 h; exact absurd h (fun z => fg_lp0 z)
  | succ n ih =>
    intro y0 y1 h hR ke
    obtain ⟨r, hb, h1, h2⟩ := fg_lpE h
    exact wFX12_firstPart_b20_L8 (s := (y0, y1)) HM (fun s' e => ih s'.1 s'.2 (h1 s' e) hR ke) (fun s' e => ke s' (h2 _ e).symm) hR hb
noncomputable def FX12_firstPart_b8 (m : Nat) (mu : bs_Mm) (l1 : Int32) (l2 : Int32) (s : Int32 × Int32) : Option ((Int32 × Int32) ⊕ (Int32)) :=
  if s.2 = s.1 then (
    some (.inr s.1)
  ) else (
    fg_bd (fg_lp (FX12_firstPart_b20_L8 m mu l1 l2 s.1) fg_fu (s.1, (nI 0))) (fun t4 => 
      some (.inl (t4, s.1))
    )
  )
set_option maxHeartbeats 4000000 in
theorem wFX12_firstPart_b8 {nx : Nat} {sh : bs_Sh} {R : Nat → Nat → Option Nat} {m : Nat} (HM : fg_S (bs_tM m) R m sh) {mu : bs_Mm} {l1 : Int32} {l2 : Int32} {Ph : bs_Po} {s : Int32 × Int32} {r : (Int32 × Int32) ⊕ (Int32)} (ka : ∀ s, r = .inl s → bs_W Ph mX12_firstPart (bs_rm 1 0 0) 8 (bs_mk [(0, .ref m), (1, .int l1), (2, .int l2), (3, .int s.1), (4, .int s.2)]) [] 0 0 nx sh mu) (ke : ∀ s, r = .inr s → bs_W Ph mX12_firstPart (bs_rm 1 0 0) 72 (bs_mk [(0, .ref m), (1, .int l1), (2, .int l2), (3, .int s)]) [] 0 0 nx sh mu) (hR : fg_R R mu) (h : FX12_firstPart_b8 m mu l1 l2 s = some r) : bs_W Ph mX12_firstPart (bs_rm 1 0 0) 8 (bs_mk [(0, .ref m), (1, .int l1), (2, .int l2), (3, .int s.1), (4, .int s.2)]) [] 0 0 nx sh mu := by
  unfold FX12_firstPart_b8 at h
  refine bs_iload dX12_firstPart_8 rfl ?_
  refine bs_iload_n dX12_firstPart_10 rfl ?_
  refine bs_icmp_eq (tgt := 72) dX12_firstPart_11 (by decide) (fun c => ?_) (fun c => ?_)
  · replace h := fg_ip c h
    cases h
    refine bs_W.mk [(0, .ref m), (1, .int l1), (2, .int l2), (3, .int s.1)] (by intro q hq; simp only [List.mem_cons, List.not_mem_nil, or_false] at hq; rcases hq with rfl | rfl | rfl | rfl <;> rfl) (ke _ rfl)
  · replace h := fg_iN c h
    refine bs_iload_n dX12_firstPart_14 rfl ?_
    refine bs_istore dX12_firstPart_15 rfl (by decide) ?_
    refine bs_iconst (v := (nI 0)) dX12_firstPart_17 (by decide) ?_
    refine bs_istore dX12_firstPart_18 rfl (by decide) ?_
    obtain ⟨t4, k5, h⟩ := fg_bdE h
    refine bs_W.mk [(0, .ref m), (1, .int l1), (2, .int l2), (3, .int s.1), (4, .int s.1), (5, .int (nI 0))] (by intro q hq; simp only [List.mem_cons, List.not_mem_nil, or_false] at hq; rcases hq with rfl | rfl | rfl | rfl | rfl | rfl <;> rfl) ?_
    refine wFX12_firstPart_l20_L8 HM _ _ _ k5 hR ?_
    intro s e
    subst e
    refine bs_goto (tgt := 8) dX12_firstPart_69 (by decide) ?_
    cases h
    refine bs_W.mk [(0, .ref m), (1, .int l1), (2, .int l2), (3, .int t4), (4, .int s.1)] (by intro q hq; simp only [List.mem_cons, List.not_mem_nil, or_false] at hq; rcases hq with rfl | rfl | rfl | rfl | rfl <;> rfl) (ka _ rfl)
theorem wFX12_firstPart_l8 {nx : Nat} {sh : bs_Sh} {R : Nat → Nat → Option Nat} {m : Nat} (HM : fg_S (bs_tM m) R m sh) {mu : bs_Mm} {l1 : Int32} {l2 : Int32} {Ph : bs_Po} {t : Int32} : ∀ n (y0 : Int32) (y1 : Int32), fg_lp (FX12_firstPart_b8 m mu l1 l2) n (y0, y1) = some t → fg_R R mu → (ke : ∀ s, t = s → bs_W Ph mX12_firstPart (bs_rm 1 0 0) 72 (bs_mk [(0, .ref m), (1, .int l1), (2, .int l2), (3, .int s)]) [] 0 0 nx sh mu) → bs_W Ph mX12_firstPart (bs_rm 1 0 0) 8 (bs_mk [(0, .ref m), (1, .int l1), (2, .int l2), (3, .int y0), (4, .int y1)]) [] 0 0 nx sh mu := by
  intro n
  induction n with
  | zero => intro y0 y1 h; exact absurd h (fun z => fg_lp0 z)
  | succ n ih =>
    intro y0 y1 h hR ke
    obtain ⟨r, hb, h1, h2⟩ := fg_lpE h
    exact wFX12_firstPart_b8 (s := (y0, y1)) HM (fun s' e => ih s'.1 s'.2 (h1 s' e) hR ke) (fun s' e => ke s' (h2 _ e).symm) hR hb
noncomputable def FX12_firstPart (m : Nat) (mu : bs_Mm) (p1 : Int32) (p2 : Int32) : Option (Int32) :=
  fg_bd (fg_lp (FX12_firstPart_b8 m mu p1 p2) fg_fu ((p2 &&& (-p2)), (nI 0))) (fun t6 => 
    some (t6)
  )
set_option maxHeartbeats 4000000 in
theorem wX12_firstPart {nx : Nat} {sh : bs_Sh} {R : Nat → Nat → Option Nat} {m : Nat} (HM : fg_S (bs_tM m) R m sh) {mu : bs_Mm} (hR : fg_R R mu) {p1 : Int32} {p2 : Int32} {r : Int32} (h : FX12_firstPart m mu p1 p2 = some r) : bs_C mX12_firstPart (bs_rm 1 0 0) [.ref m, .int p1, .int p2] nx sh mu (fg_po R nx sh (some (.int r)) mu) := by
  refine bs_ct (by decide +kernel) (Nat.le_of_ble_eq_true rfl) ?_
  have kr : ∀ q, r = q → fg_R R mu → (fg_po R nx sh (some (.int r)) mu) (some (.int q)) nx sh mu := fun q e hq => by subst e; exact ⟨rfl, rfl, rfl, rfl, hq⟩
  unfold FX12_firstPart at h
  refine bs_iload_n dX12_firstPart_0 rfl ?_
  refine bs_iload_n dX12_firstPart_1 rfl ?_
  refine bs_ineg dX12_firstPart_2 ?_
  refine bs_iand dX12_firstPart_3 ?_
  refine bs_istore_n dX12_firstPart_4 rfl (by decide) ?_
  refine bs_iconst (v := (nI 0)) dX12_firstPart_5 (by decide) ?_
  refine bs_istore dX12_firstPart_6 rfl (by decide) ?_
  obtain ⟨t6, k7, h⟩ := fg_bdE h
  refine bs_W.mk [(0, .ref m), (1, .int p1), (2, .int p2), (3, .int (p2 &&& (-p2))), (4, .int (nI 0))] (by intro q hq; simp only [List.mem_cons, List.not_mem_nil, or_false] at hq; rcases hq with rfl | rfl | rfl | rfl | rfl <;> rfl) ?_
  refine wFX12_firstPart_l8 HM _ _ _ k7 hR ?_
  intro s e
  subst e
  refine bs_iload_n dX12_firstPart_72 rfl ?_
  cases h
  exact bs_iret dX12_firstPart_73 rfl (Nat.zero_le _) (Nat.zero_le _) (kr _ rfl hR)
noncomputable def FX12_odd_b5 (m : Nat) (mu : bs_Mm) (l1 : Int32) (l2 : Int32) (s : Int32 × Int32) : Option ((Int32 × Int32) ⊕ (Int32)) :=
  fg_gd (fg_in l1 13) (
  if (bs_iv (mu (m + 9) l1.toNatClampNeg)) ≤ s.2 then (
    some (.inr s.1)
  ) else (
    fg_bd (FX12_endsIn m mu l1 s.2 l2) (fun v3 => 
    some (.inl ((s.1 + (v3 - v3 / (nI 2) * (nI 2))), (s.2 + (nI 1)))))
  ))
set_option maxHeartbeats 4000000 in
theorem wFX12_odd_b5 {nx : Nat} {sh : bs_Sh} {R : Nat → Nat → Option Nat} {m : Nat} (HM : fg_S (bs_tM m) R m sh) {mu : bs_Mm} {l1 : Int32} {l2 : Int32} {Ph : bs_Po} {s : Int32 × Int32} {r : (Int32 × Int32) ⊕ (Int32)} (ka : ∀ s, r = .inl s → bs_W Ph mX12_odd (bs_rm 1 0 0) 5 (bs_mk [(0, .ref m), (1, .int l1), (2, .int l2), (3, .int s.1), (4, .int s.2)]) [] 0 0 nx sh mu) (ke : ∀ s, r = .inr s → bs_W Ph mX12_odd (bs_rm 1 0 0) 35 (bs_mk [(0, .ref m), (1, .int l1), (2, .int l2), (3, .int s)]) [] 0 0 nx sh mu) (hR : fg_R R mu) (h : FX12_odd_b5 m mu l1 l2 s = some r) : bs_W Ph mX12_odd (bs_rm 1 0 0) 5 (bs_mk [(0, .ref m), (1, .int l1), (2, .int l2), (3, .int s.1), (4, .int s.2)]) [] 0 0 nx sh mu := by
  unfold FX12_odd_b5 at h
  refine bs_iload dX12_odd_5 rfl ?_
  refine bs_aload_n dX12_odd_7 rfl ?_
  refine fg_getR (b := (m + 9)) dX12_odd_8 fX12_34 (HM.s 0 rfl rfl rfl) hR (HM.r 0 14 rfl rfl rfl) ?_
  refine bs_iload_n dX12_odd_11 rfl ?_
  obtain ⟨g1, h⟩ := fg_gdE h
  refine bs_iald dX12_odd_12 (HM.ss 9 rfl rfl) (fg_in_ix g1) ?_
  refine bs_icmp_ge (tgt := 35) dX12_odd_13 (by decide) (fun c => ?_) (fun c => ?_)
  · replace h := fg_ip c h
    cases h
    refine bs_W.mk [(0, .ref m), (1, .int l1), (2, .int l2), (3, .int s.1)] (by intro q hq; simp only [List.mem_cons, List.not_mem_nil, or_false] at hq; rcases hq with rfl | rfl | rfl | rfl <;> rfl) (ke _ rfl)
  · replace h := fg_iN c h
    refine bs_iload_n dX12_odd_16 rfl ?_
    refine bs_aload_n dX12_odd_17 rfl ?_
    refine bs_iload_n dX12_odd_18 rfl ?_
    refine bs_iload dX12_odd_19 rfl ?_
    refine bs_iload_n dX12_odd_21 rfl ?_
    obtain ⟨v3, k2, h⟩ := fg_bdE h
    refine fg_callV dX12_odd_22 qX12_290 (wX12_endsIn HM hR k2) rfl (HM.s 0 rfl rfl rfl) rfl (Nat.le_of_ble_eq_true rfl) (fg_cr (by first | decide | omega) (by decide)) (fun hR => ?_)
    refine bs_iconst (v := (nI 2)) dX12_odd_25 (by decide) ?_
    refine bs_irem dX12_odd_26 (by decide) ?_
    refine bs_iadd dX12_odd_27 ?_
    refine bs_istore_n dX12_odd_28 rfl (by decide) ?_
    refine fg_iinc (m := (nI 1)) dX12_odd_29 rfl rfl (by decide) ?_
    refine bs_goto (tgt := 5) dX12_odd_32 (by decide) ?_
    cases h
    refine bs_W.mk [(0, .ref m), (1, .int l1), (2, .int l2), (3, .int (s.1 + (v3 - v3 / (nI 2) * (nI 2)))), (4, .int (s.2 + (nI 1)))] (by intro q hq; simp only [List.mem_cons, List.not_mem_nil, or_false] at hq; rcases hq with rfl | rfl | rfl | rfl | rfl <;> rfl) (by have k := ka _ rfl; dsimp only at k; exact k)
theorem wFX12_odd_l5 {nx : Nat} {sh : bs_Sh} {R : Nat → Nat → Option Nat} {m : Nat} (HM : fg_S (bs_tM m) R m sh) {mu : bs_Mm} {l1 : Int32} {l2 : Int32} {Ph : bs_Po} {t : Int32} : ∀ n (y0 : Int32) (y1 : Int32), fg_lp (FX12_odd_b5 m mu l1 l2) n (y0, y1) = some t → fg_R R mu → (ke : ∀ s, t = s → bs_W Ph mX12_odd (bs_rm 1 0 0) 35 (bs_mk [(0, .ref m), (1, .int l1), (2, .int l2), (3, .int s)]) [] 0 0 nx sh mu) → bs_W Ph mX12_odd (bs_rm 1 0 0) 5 (bs_mk [(0, .ref m), (1, .int l1), (2, .int l2), (3, .int y0), (4, .int y1)]) [] 0 0 nx sh mu := by
  intro n
  induction n with
  | zero => intro y0 y1 h; exact absurd h (fun z => fg_lp0 z)
  | succ n ih =>
    intro y0 y1 h hR ke
    obtain ⟨r, hb, h1, h2⟩ := fg_lpE h
    exact wFX12_odd_b5 (s := (y0, y1)) HM (fun s' e => ih s'.1 s'.2 (h1 s' e) hR ke) (fun s' e => ke s' (h2 _ e).symm) hR hb
noncomputable def FX12_odd (m : Nat) (mu : bs_Mm) (p1 : Int32) (p2 : Int32) : Option (Int32) :=
  fg_bd (fg_lp (FX12_odd_b5 m mu p1 p2) fg_fu ((nI 0), (nI 0))) (fun t4 => 
    some (t4)
  )
set_option maxHeartbeats 4000000 in
theorem wX12_odd {nx : Nat} {sh : bs_Sh} {R : Nat → Nat → Option Nat} {m : Nat} (HM : fg_S (bs_tM m) R m sh) {mu : bs_Mm} (hR : fg_R R mu) {p1 : Int32} {p2 : Int32} {r : Int32} (h : FX12_odd m mu p1 p2 = some r) : bs_C mX12_odd (bs_rm 1 0 0) [.ref m, .int p1, .int p2] nx sh mu (fg_po R nx sh (some (.int r)) mu) := by
  refine bs_ct (by decide +kernel) (Nat.le_of_ble_eq_true rfl) ?_
  have kr : ∀ q, r = q → fg_R R mu → (fg_po R nx sh (some (.int r)) mu) (some (.int q)) nx sh mu := fun q e hq => by subst e; exact ⟨rfl, rfl, rfl, rfl, hq⟩
  unfold FX12_odd at h
  refine bs_iconst (v := (nI 0)) dX12_odd_0 (by decide) ?_
  refine bs_istore_n dX12_odd_1 rfl (by decide) ?_
  refine bs_iconst (v := (nI 0)) dX12_odd_2 (by decide) ?_
  refine bs_istore dX12_odd_3 rfl (by decide) ?_
  obtain ⟨t4, k5, h⟩ := fg_bdE h
  refine bs_W.mk [(0, .ref m), (1, .int p1), (2, .int p2), (3, .int (nI 0)), (4, .int (nI 0))] (by intro q hq; simp only [List.mem_cons, List.not_mem_nil, or_false] at hq; rcases hq with rfl | rfl | rfl | rfl | rfl <;> rfl) ?_
  refine wFX12_odd_l5 HM _ _ _ k5 hR ?_
  intro s e
  subst e
  refine bs_iload_n dX12_odd_35 rfl ?_
  cases h
  exact bs_iret dX12_odd_36 rfl (Nat.zero_le _) (Nat.zero_le _) (kr _ rfl hR)
noncomputable def FX12_isOneWay_b18 (m : Nat) (mu : bs_Mm) (l1 : Int32) (l2 : Int32) (l3 : Int32) (s : Int32 × Int32) : Option ((Int32 × Int32) ⊕ (Int32)) :=
  fg_gd (fg_in l1 13) (
  if (bs_iv (mu (m + 8) l1.toNatClampNeg)) ≤ s.2 then (
    some (.inr s.1)
  ) else (
    if ((l3 >>> (s.2 &&& 31)) &&& (nI 1)) = (nI 1) then (
      fg_gd (fg_in (((nI 24) * l1) + s.2) 312) (
      some (.inl ((s.1 + (bs_iv (mu (m + 10) (((nI 24) * l1) + s.2).toNatClampNeg))), (s.2 + (nI 1)))))
    ) else (
      some (.inl ((s.1 + (nI 0)), (s.2 + (nI 1))))
    )
  ))
set_option maxHeartbeats 4000000 in
theorem wFX12_isOneWay_b18 {nx : Nat} {sh : bs_Sh} {R : Nat → Nat → Option Nat} {m : Nat} (HM : fg_S (bs_tM m) R m sh) {mu : bs_Mm} {l1 : Int32} {l2 : Int32} {l3 : Int32} {Ph : bs_Po} {s : Int32 × Int32} {r : (Int32 × Int32) ⊕ (Int32)} (ka : ∀ s, r = .inl s → bs_W Ph mX12_isOneWay (bs_rm 2 0 0) 18 (bs_mk [(0, .ref m), (1, .int l1), (2, .int l2), (3, .int l3), (4, .int s.1), (5, .int s.2)]) [] 0 0 nx sh mu) (ke : ∀ s, r = .inr s → bs_W Ph mX12_isOneWay (bs_rm 2 0 0) 66 (bs_mk [(0, .ref m), (1, .int l1), (2, .int l2), (3, .int l3), (4, .int s)]) [] 0 0 nx sh mu) (hR : fg_R R mu) (h : FX12_isOneWay_b18 m mu l1 l2 l3 s = some r) : bs_W Ph mX12_isOneWay (bs_rm 2 0 0) 18 (bs_mk [(0, .ref m), (1, .int l1), (2, .int l2), (3, .int l3), (4, .int s.1), (5, .int s.2)]) [] 0 0 nx sh mu := by
  unfold FX12_isOneWay_b18 at h
  refine bs_iload dX12_isOneWay_18 rfl ?_
  refine bs_aload_n dX12_isOneWay_20 rfl ?_
  refine fg_getR (b := (m + 8)) dX12_isOneWay_21 fX12_31 (HM.s 0 rfl rfl rfl) hR (HM.r 0 13 rfl rfl rfl) ?_
  refine bs_iload_n dX12_isOneWay_24 rfl ?_
  obtain ⟨g4, h⟩ := fg_gdE h
  refine bs_iald dX12_isOneWay_25 (HM.ss 8 rfl rfl) (fg_in_ix g4) ?_
  refine bs_icmp_ge (tgt := 66) dX12_isOneWay_26 (by decide) (fun c => ?_) (fun c => ?_)
  · replace h := fg_ip c h
    cases h
    refine bs_W.mk [(0, .ref m), (1, .int l1), (2, .int l2), (3, .int l3), (4, .int s.1)] (by intro q hq; simp only [List.mem_cons, List.not_mem_nil, or_false] at hq; rcases hq with rfl | rfl | rfl | rfl | rfl <;> rfl) (ke _ rfl)
  · replace h := fg_iN c h
    refine bs_iload dX12_isOneWay_29 rfl ?_
    refine bs_iload_n dX12_isOneWay_31 rfl ?_
    refine bs_iload dX12_isOneWay_32 rfl ?_
    refine bs_ishr dX12_isOneWay_34 ?_
    refine bs_iconst (v := (nI 1)) dX12_isOneWay_35 (by decide) ?_
    refine bs_iand dX12_isOneWay_36 ?_
    refine bs_iconst (v := (nI 1)) dX12_isOneWay_37 (by decide) ?_
    refine bs_icmp_ne (tgt := 56) dX12_isOneWay_38 (by decide) (fun c => ?_) (fun c => ?_)
    · replace h := fg_iN c h
      refine bs_iconst (v := (nI 0)) dX12_isOneWay_56 (by decide) ?_
      refine bs_iadd dX12_isOneWay_57 ?_
      refine bs_istore dX12_isOneWay_58 rfl (by decide) ?_
      refine fg_iinc (m := (nI 1)) dX12_isOneWay_60 rfl rfl (by decide) ?_
      refine bs_goto (tgt := 18) dX12_isOneWay_63 (by decide) ?_
      cases h
      refine bs_W.mk [(0, .ref m), (1, .int l1), (2, .int l2), (3, .int l3), (4, .int (s.1 + (nI 0))), (5, .int (s.2 + (nI 1)))] (by intro q hq; simp only [List.mem_cons, List.not_mem_nil, or_false] at hq; rcases hq with rfl | rfl | rfl | rfl | rfl | rfl <;> rfl) (by have k := ka _ rfl; dsimp only at k; exact k)
    · replace h := fg_ip c h
      refine bs_aload_n dX12_isOneWay_41 rfl ?_
      refine fg_getR (b := (m + 10)) dX12_isOneWay_42 fX12_37 (HM.s 0 rfl rfl rfl) hR (HM.r 0 15 rfl rfl rfl) ?_
      refine bs_bipush (v := (nI 24)) dX12_isOneWay_45 (by decide) ?_
      refine bs_iload_n dX12_isOneWay_47 rfl ?_
      refine bs_imul dX12_isOneWay_48 ?_
      refine bs_iload dX12_isOneWay_49 rfl ?_
      refine bs_iadd dX12_isOneWay_51 ?_
      obtain ⟨g5, h⟩ := fg_gdE h
      refine bs_iald dX12_isOneWay_52 (HM.ss 10 rfl rfl) (fg_in_ix g5) ?_
      refine bs_goto (tgt := 57) dX12_isOneWay_53 (by decide) ?_
      refine bs_iadd dX12_isOneWay_57 ?_
      refine bs_istore dX12_isOneWay_58 rfl (by decide) ?_
      refine fg_iinc (m := (nI 1)) dX12_isOneWay_60 rfl rfl (by decide) ?_
      refine bs_goto (tgt := 18) dX12_isOneWay_63 (by decide) ?_
      cases h
      refine bs_W.mk [(0, .ref m), (1, .int l1), (2, .int l2), (3, .int l3), (4, .int (s.1 + (bs_iv (mu (m + 10) (((nI 24) * l1) + s.2).toNatClampNeg)))), (5, .int (s.2 + (nI 1)))] (by intro q hq; simp only [List.mem_cons, List.not_mem_nil, or_false] at hq; rcases hq with rfl | rfl | rfl | rfl | rfl | rfl <;> rfl) (by have k := ka _ rfl; dsimp only at k; exact k)
theorem wFX12_isOneWay_l18 {nx : Nat} {sh : bs_Sh} {R : Nat → Nat → Option Nat} {m : Nat} (HM : fg_S (bs_tM m) R m sh) {mu : bs_Mm} {l1 : Int32} {l2 : Int32} {l3 : Int32} {Ph : bs_Po} {t : Int32} : ∀ n (y0 : Int32) (y1 : Int32), fg_lp (FX12_isOneWay_b18 m mu l1 l2 l3) n (y0, y1) = some t → fg_R R mu → (ke : ∀ s, t = s → bs_W Ph mX12_isOneWay (bs_rm 2 0 0) 66 (bs_mk [(0, .ref m), (1, .int l1), (2, .int l2), (3, .int l3), (4, .int s)]) [] 0 0 nx sh mu) → bs_W Ph mX12_isOneWay (bs_rm 2 0 0) 18 (bs_mk [(0, .ref m), (1, .int l1), (2, .int l2), (3, .int l3), (4, .int y0), (5, .int y1)]) [] 0 0 nx sh mu := by
  intro n
  induction n with
  | zero => intro y0 y1 h; exact absurd h (fun z => fg_lp0 z)
  | succ n ih =>
    intro y0 y1 h hR ke
    obtain ⟨r, hb, h1, h2⟩ := fg_lpE h
    exact wFX12_isOneWay_b18 (s := (y0, y1)) HM (fun s' e => ih s'.1 s'.2 (h1 s' e) hR ke) (fun s' e => ke s' (h2 _ e).symm) hR hb
noncomputable def FX12_isOneWay (m : Nat) (mu : bs_Mm) (p1 : Int32) (p2 : Int32) (p3 : Int32) : Option (Int32) :=
  fg_gd (fg_in p2 6) (
  fg_bd (FJ6_bitCount_0f7a4  mu p3) (fun v3 => 
  fg_bd (fg_lp (FX12_isOneWay_b18 m mu p1 p2 p3) fg_fu (((bs_iv (mu (m + 2) p2.toNatClampNeg)) * (v3 - (nI 1))), (nI 0))) (fun t6 => 
    fg_gd (fg_in p2 6) (
    if (bs_iv (mu (m + 1) p2.toNatClampNeg)) < t6 then (
      some ((nI 0))
    ) else (
      fg_bd (FX12_firstPart m mu p1 p3) (fun v10 => 
      if v10 = p3 then (
        fg_bd (FX12_odd m mu p1 p3) (fun v12 => 
        if (nI 2) < v12 then (
          some ((nI 0))
        ) else (
          some ((nI 1))
        ))
      ) else (
        some ((nI 0))
      ))
    ))
  )))
set_option maxHeartbeats 4000000 in
theorem wX12_isOneWay {nx : Nat} {sh : bs_Sh} {R : Nat → Nat → Option Nat} {m : Nat} (HM : fg_S (bs_tM m) R m sh) {mu : bs_Mm} (hR : fg_R R mu) {p1 : Int32} {p2 : Int32} {p3 : Int32} {r : Int32} (h : FX12_isOneWay m mu p1 p2 p3 = some r) : bs_C mX12_isOneWay (bs_rm 2 0 0) [.ref m, .int p1, .int p2, .int p3] nx sh mu (fg_po R nx sh (some (.int r)) mu) := by
  refine bs_ct (by decide +kernel) (Nat.le_of_ble_eq_true rfl) ?_
  have kr : ∀ q, r = q → fg_R R mu → (fg_po R nx sh (some (.int r)) mu) (some (.int q)) nx sh mu := fun q e hq => by subst e; exact ⟨rfl, rfl, rfl, rfl, hq⟩
  unfold FX12_isOneWay at h
  refine bs_aload_n dX12_isOneWay_0 rfl ?_
  refine fg_getR (b := (m + 2)) dX12_isOneWay_1 fX12_13 (HM.s 0 rfl rfl rfl) hR (HM.r 0 2 rfl rfl rfl) ?_
  refine bs_iload_n dX12_isOneWay_4 rfl ?_
  obtain ⟨g1, h⟩ := fg_gdE h
  refine bs_iald dX12_isOneWay_5 (HM.ss 2 rfl rfl) (fg_in_ix g1) ?_
  refine bs_iload_n dX12_isOneWay_6 rfl ?_
  obtain ⟨v3, k2, h⟩ := fg_bdE h
  refine fg_callS dX12_isOneWay_7 qX12_336 (wJ6_bitCount_0f7a4  hR k2) rfl rfl (Nat.le_of_ble_eq_true rfl) (fg_cr (by first | decide | omega) (by decide)) (fun hR => ?_)
  refine bs_iconst (v := (nI 1)) dX12_isOneWay_10 (by decide) ?_
  refine bs_isub dX12_isOneWay_11 ?_
  refine bs_imul dX12_isOneWay_12 ?_
  refine bs_istore dX12_isOneWay_13 rfl (by decide) ?_
  refine bs_iconst (v := (nI 0)) dX12_isOneWay_15 (by decide) ?_
  refine bs_istore dX12_isOneWay_16 rfl (by decide) ?_
  obtain ⟨t6, k7, h⟩ := fg_bdE h
  refine bs_W.mk [(0, .ref m), (1, .int p1), (2, .int p2), (3, .int p3), (4, .int ((bs_iv (mu (m + 2) p2.toNatClampNeg)) * (v3 - (nI 1)))), (5, .int (nI 0))] (by intro q hq; simp only [List.mem_cons, List.not_mem_nil, or_false] at hq; rcases hq with rfl | rfl | rfl | rfl | rfl | rfl <;> rfl) ?_
  refine wFX12_isOneWay_l18 HM _ _ _ k7 hR ?_
  intro s e
  subst e
  refine bs_iload dX12_isOneWay_66 rfl ?_
  refine bs_aload_n dX12_isOneWay_68 rfl ?_
  refine fg_getR (b := (m + 1)) dX12_isOneWay_69 fX12_9 (HM.s 0 rfl rfl rfl) hR (HM.r 0 1 rfl rfl rfl) ?_
  refine bs_iload_n dX12_isOneWay_72 rfl ?_
  obtain ⟨g8, h⟩ := fg_gdE h
  refine bs_iald dX12_isOneWay_73 (HM.ss 1 rfl rfl) (fg_in_ix g8) ?_
  refine bs_icmp_gt (tgt := 101) dX12_isOneWay_74 (by decide) (fun c => ?_) (fun c => ?_)
  · replace h := fg_ip c h
    refine bs_iconst (v := (nI 0)) dX12_isOneWay_101 (by decide) ?_
    cases h
    exact bs_zret dX12_isOneWay_102 rfl (Or.inl rfl) (Nat.zero_le _) (Nat.zero_le _) (kr _ rfl hR)
  · replace h := fg_iN c h
    refine bs_aload_n dX12_isOneWay_77 rfl ?_
    refine bs_iload_n dX12_isOneWay_78 rfl ?_
    refine bs_iload_n dX12_isOneWay_79 rfl ?_
    obtain ⟨v10, k9, h⟩ := fg_bdE h
    refine fg_callV dX12_isOneWay_80 qX12_369 (wX12_firstPart HM hR k9) rfl (HM.s 0 rfl rfl rfl) rfl (Nat.le_of_ble_eq_true rfl) (fg_cr (by first | decide | omega) (by decide)) (fun hR => ?_)
    refine bs_iload_n dX12_isOneWay_83 rfl ?_
    refine bs_icmp_ne (tgt := 101) dX12_isOneWay_84 (by decide) (fun c => ?_) (fun c => ?_)
    · replace h := fg_iN c h
      refine bs_iconst (v := (nI 0)) dX12_isOneWay_101 (by decide) ?_
      cases h
      exact bs_zret dX12_isOneWay_102 rfl (Or.inl rfl) (Nat.zero_le _) (Nat.zero_le _) (kr _ rfl hR)
    · replace h := fg_ip c h
      refine bs_aload_n dX12_isOneWay_87 rfl ?_
      refine bs_iload_n dX12_isOneWay_88 rfl ?_
      refine bs_iload_n dX12_isOneWay_89 rfl ?_
      obtain ⟨v12, k11, h⟩ := fg_bdE h
      refine fg_callV dX12_isOneWay_90 qX12_301 (wX12_odd HM hR k11) rfl (HM.s 0 rfl rfl rfl) rfl (Nat.le_of_ble_eq_true rfl) (fg_cr (by first | decide | omega) (by decide)) (fun hR => ?_)
      refine bs_iconst (v := (nI 2)) dX12_isOneWay_93 (by decide) ?_
      refine bs_icmp_gt (tgt := 101) dX12_isOneWay_94 (by decide) (fun c => ?_) (fun c => ?_)
      · replace h := fg_ip c h
        refine bs_iconst (v := (nI 0)) dX12_isOneWay_101 (by decide) ?_
        cases h
        exact bs_zret dX12_isOneWay_102 rfl (Or.inl rfl) (Nat.zero_le _) (Nat.zero_le _) (kr _ rfl hR)
      · replace h := fg_iN c h
        refine bs_iconst (v := (nI 1)) dX12_isOneWay_97 (by decide) ?_
        refine bs_goto (tgt := 102) dX12_isOneWay_98 (by decide) ?_
        cases h
        exact bs_zret dX12_isOneWay_102 rfl (Or.inr rfl) (Nat.zero_le _) (Nat.zero_le _) (kr _ rfl hR)
