noncomputable def FX12_bubble__j24 (m : Nat) (mu : bs_Mm) (l1 : Int32) (l2 : Int32) (l3 : Int32) (t1 : Int32) : Option (Int32 × bs_Mm) :=
  fg_wr mu m 0 (.int t1) (fun mu3 => 
  if (bs_iv (mu3 m 0)) = (nI 1) then (
    some ((nI 0), mu3)
  ) else (
    if l3 = 0 then (
      fg_gd (fg_in (((nI 24) * l1) + l2) 312) (
      some ((bs_iv (mu3 (m + 10) (((nI 24) * l1) + l2).toNatClampNeg)), mu3))
    ) else (
      if l3 = (nI 1) then (
        fg_gd (fg_in (((nI 24) * l1) + l2) 312) (
        some ((bs_iv (mu3 (m + 11) (((nI 24) * l1) + l2).toNatClampNeg)), mu3))
      ) else (
        if l3 = (nI 2) then (
          fg_gd (fg_in (((nI 24) * l1) + l2) 312) (
          some ((bs_iv (mu3 (m + 12) (((nI 24) * l1) + l2).toNatClampNeg)), mu3))
        ) else (
          if l3 = (nI 3) then (
            fg_gd (fg_in (((nI 24) * l1) + l2) 312) (
            some ((bs_iv (mu3 (m + 13) (((nI 24) * l1) + l2).toNatClampNeg)), mu3))
          ) else (
            fg_gd (fg_in (((nI 24) * l1) + l2) 312) (
            fg_gd (fg_in (((nI 6) * l1) + (bs_iv (mu3 (m + 13) (((nI 24) * l1) + l2).toNatClampNeg))) 78) (
            some ((bs_iv (mu3 (m + 7) (((nI 6) * l1) + (bs_iv (mu3 (m + 13) (((nI 24) * l1) + l2).toNatClampNeg))).toNatClampNeg)), mu3)))
          )
        )
      )
    )
  ))
set_option maxHeartbeats 4000000 in
theorem wFX12_bubble__j24 {nx : Nat} {sh : bs_Sh} {R : Nat → Nat → Option Nat} {m : Nat} (HM : fg_S (bs_tM m) R m sh) {mu : bs_Mm} {l1 : Int32} {l2 : Int32} {l3 : Int32} {t1 : Int32} {Ph : bs_Po} {r : Int32 × bs_Mm} (kr : ∀ q, r = q → fg_R R q.2 → Ph (some (.int q.1)) nx sh q.2) (hR : fg_R R mu) (h : FX12_bubble__j24 m mu l1 l2 l3 t1 = some r) : bs_W Ph mX12_bubble_ (bs_rm 3 0 0) 24 (bs_mk [(0, .ref m), (1, .int l1), (2, .int l2), (3, .int l3)]) [.int t1, .ref m] 0 0 nx sh mu := by
  unfold FX12_bubble__j24 at h
  refine fg_putI dX12_bubble__24 pX12_118 (HM.s 0 rfl rfl rfl) (HM.n 0 0 rfl rfl rfl) hR h (fun mu3 hR h => ?_)
  refine bs_aload_n dX12_bubble__27 rfl ?_
  refine bs_getI dX12_bubble__28 fX12_118 (HM.s 0 rfl rfl rfl) ?_
  refine bs_iconst (v := (nI 1)) dX12_bubble__31 (by decide) ?_
  refine bs_icmp_ne (tgt := 37) dX12_bubble__32 (by decide) (fun c => ?_) (fun c => ?_)
  · replace h := fg_iN c h
    refine bs_bipush (v := (nI 24)) dX12_bubble__37 (by decide) ?_
    refine bs_iload_n dX12_bubble__39 rfl ?_
    refine bs_imul dX12_bubble__40 ?_
    refine bs_iload_n dX12_bubble__41 rfl ?_
    refine bs_iadd dX12_bubble__42 ?_
    refine bs_istore dX12_bubble__43 rfl (by decide) ?_
    refine bs_iload_n dX12_bubble__45 rfl ?_
    refine bs_if_ne (tgt := 59) dX12_bubble__46 (by decide) (fun c => ?_) (fun c => ?_)
    · replace h := fg_iN c h
      refine bs_iload_n dX12_bubble__59 rfl ?_
      refine bs_iconst (v := (nI 1)) dX12_bubble__60 (by decide) ?_
      refine bs_icmp_ne (tgt := 74) dX12_bubble__61 (by decide) (fun c => ?_) (fun c => ?_)
      · replace h := fg_iN c h
        refine bs_iload_n dX12_bubble__74 rfl ?_
        refine bs_iconst (v := (nI 2)) dX12_bubble__75 (by decide) ?_
        refine bs_icmp_ne (tgt := 89) dX12_bubble__76 (by decide) (fun c => ?_) (fun c => ?_)
        · replace h := fg_iN c h
          refine bs_iload_n dX12_bubble__89 rfl ?_
          refine bs_iconst (v := (nI 3)) dX12_bubble__90 (by decide) ?_
          refine bs_icmp_ne (tgt := 104) dX12_bubble__91 (by decide) (fun c => ?_) (fun c => ?_)
          · replace h := fg_iN c h
            refine bs_aload_n dX12_bubble__104 rfl ?_
            refine fg_getR (b := (m + 7)) dX12_bubble__105 fX12_28 (HM.s 0 rfl rfl rfl) hR (HM.r 0 12 rfl rfl rfl) ?_
            refine bs_bipush (v := (nI 6)) dX12_bubble__108 (by decide) ?_
            refine bs_iload_n dX12_bubble__110 rfl ?_
            refine bs_imul dX12_bubble__111 ?_
            refine bs_aload_n dX12_bubble__112 rfl ?_
            refine fg_getR (b := (m + 13)) dX12_bubble__113 fX12_46 (HM.s 0 rfl rfl rfl) hR (HM.r 0 18 rfl rfl rfl) ?_
            refine bs_iload dX12_bubble__116 rfl ?_
            obtain ⟨g4, h⟩ := fg_gdE h
            refine bs_iald dX12_bubble__118 (HM.ss 13 rfl rfl) (fg_in_ix g4) ?_
            refine bs_iadd dX12_bubble__119 ?_
            obtain ⟨g5, h⟩ := fg_gdE h
            refine bs_iald dX12_bubble__120 (HM.ss 7 rfl rfl) (fg_in_ix g5) ?_
            cases h
            exact bs_iret dX12_bubble__121 rfl (Nat.zero_le _) (Nat.zero_le _) (kr _ rfl hR)
          · replace h := fg_ip c h
            refine bs_aload_n dX12_bubble__94 rfl ?_
            refine fg_getR (b := (m + 13)) dX12_bubble__95 fX12_46 (HM.s 0 rfl rfl rfl) hR (HM.r 0 18 rfl rfl rfl) ?_
            refine bs_iload dX12_bubble__98 rfl ?_
            obtain ⟨g6, h⟩ := fg_gdE h
            refine bs_iald dX12_bubble__100 (HM.ss 13 rfl rfl) (fg_in_ix g6) ?_
            refine bs_goto (tgt := 121) dX12_bubble__101 (by decide) ?_
            cases h
            exact bs_iret dX12_bubble__121 rfl (Nat.zero_le _) (Nat.zero_le _) (kr _ rfl hR)
        · replace h := fg_ip c h
          refine bs_aload_n dX12_bubble__79 rfl ?_
          refine fg_getR (b := (m + 12)) dX12_bubble__80 fX12_43 (HM.s 0 rfl rfl rfl) hR (HM.r 0 17 rfl rfl rfl) ?_
          refine bs_iload dX12_bubble__83 rfl ?_
          obtain ⟨g7, h⟩ := fg_gdE h
          refine bs_iald dX12_bubble__85 (HM.ss 12 rfl rfl) (fg_in_ix g7) ?_
          refine bs_goto (tgt := 121) dX12_bubble__86 (by decide) ?_
          cases h
          exact bs_iret dX12_bubble__121 rfl (Nat.zero_le _) (Nat.zero_le _) (kr _ rfl hR)
      · replace h := fg_ip c h
        refine bs_aload_n dX12_bubble__64 rfl ?_
        refine fg_getR (b := (m + 11)) dX12_bubble__65 fX12_40 (HM.s 0 rfl rfl rfl) hR (HM.r 0 16 rfl rfl rfl) ?_
        refine bs_iload dX12_bubble__68 rfl ?_
        obtain ⟨g8, h⟩ := fg_gdE h
        refine bs_iald dX12_bubble__70 (HM.ss 11 rfl rfl) (fg_in_ix g8) ?_
        refine bs_goto (tgt := 121) dX12_bubble__71 (by decide) ?_
        cases h
        exact bs_iret dX12_bubble__121 rfl (Nat.zero_le _) (Nat.zero_le _) (kr _ rfl hR)
    · replace h := fg_ip c h
      refine bs_aload_n dX12_bubble__49 rfl ?_
      refine fg_getR (b := (m + 10)) dX12_bubble__50 fX12_37 (HM.s 0 rfl rfl rfl) hR (HM.r 0 15 rfl rfl rfl) ?_
      refine bs_iload dX12_bubble__53 rfl ?_
      obtain ⟨g9, h⟩ := fg_gdE h
      refine bs_iald dX12_bubble__55 (HM.ss 10 rfl rfl) (fg_in_ix g9) ?_
      refine bs_goto (tgt := 121) dX12_bubble__56 (by decide) ?_
      cases h
      exact bs_iret dX12_bubble__121 rfl (Nat.zero_le _) (Nat.zero_le _) (kr _ rfl hR)
  · replace h := fg_ip c h
    refine bs_iconst (v := (nI 0)) dX12_bubble__35 (by decide) ?_
    cases h
    exact bs_iret dX12_bubble__36 rfl (Nat.zero_le _) (Nat.zero_le _) (kr _ rfl hR)
noncomputable def FX12_bubble__j23 (m : Nat) (mu : bs_Mm) (l1 : Int32) (l2 : Int32) (l3 : Int32) : Option (Int32 × bs_Mm) :=
  FX12_bubble__j24 m mu l1 l2 l3 (nI 1)
set_option maxHeartbeats 4000000 in
theorem wFX12_bubble__j23 {nx : Nat} {sh : bs_Sh} {R : Nat → Nat → Option Nat} {m : Nat} (HM : fg_S (bs_tM m) R m sh) {mu : bs_Mm} {l1 : Int32} {l2 : Int32} {l3 : Int32} {Ph : bs_Po} {r : Int32 × bs_Mm} (kr : ∀ q, r = q → fg_R R q.2 → Ph (some (.int q.1)) nx sh q.2) (hR : fg_R R mu) (h : FX12_bubble__j23 m mu l1 l2 l3 = some r) : bs_W Ph mX12_bubble_ (bs_rm 3 0 0) 23 (bs_mk [(0, .ref m), (1, .int l1), (2, .int l2), (3, .int l3)]) [.ref m] 0 0 nx sh mu := by
  unfold FX12_bubble__j23 at h
  refine bs_iconst (v := (nI 1)) dX12_bubble__23 (by decide) ?_
  refine bs_W.mk [(0, .ref m), (1, .int l1), (2, .int l2), (3, .int l3)] (by intro q hq; simp only [List.mem_cons, List.not_mem_nil, or_false] at hq; rcases hq with rfl | rfl | rfl | rfl <;> rfl) ?_
  exact wFX12_bubble__j24 HM kr hR h
noncomputable def FX12_bubble_ (m : Nat) (mu : bs_Mm) (p1 : Int32) (p2 : Int32) (p3 : Int32) : Option (Int32 × bs_Mm) :=
  fg_bd (FX12_isBubble m mu p1 p2) (fun v2 => 
  if v2 = 0 then (
    FX12_bubble__j23 m mu p1 p2 p3
  ) else (
    fg_bd (FX12_in m mu p3 (nI 0) (nI 4)) (fun v11 => 
    if v11 = 0 then (
      FX12_bubble__j23 m mu p1 p2 p3
    ) else (
      FX12_bubble__j24 m mu p1 p2 p3 (nI 0)
    ))
  ))
set_option maxHeartbeats 4000000 in
theorem wX12_bubble_ {nx : Nat} {sh : bs_Sh} {R : Nat → Nat → Option Nat} {m : Nat} (HM : fg_S (bs_tM m) R m sh) {mu : bs_Mm} (hR : fg_R R mu) {p1 : Int32} {p2 : Int32} {p3 : Int32} {r : Int32 × bs_Mm} (h : FX12_bubble_ m mu p1 p2 p3 = some r) : bs_C mX12_bubble_ (bs_rm 3 0 0) [.ref m, .int p1, .int p2, .int p3] nx sh mu (fg_po R nx sh (some (.int r.1)) r.2) := by
  refine bs_ct (by decide +kernel) (Nat.le_of_ble_eq_true rfl) ?_
  have kr : ∀ q, r = q → fg_R R q.2 → (fg_po R nx sh (some (.int r.1)) r.2) (some (.int q.1)) nx sh q.2 := fun q e hq => by subst e; exact ⟨rfl, rfl, rfl, rfl, hq⟩
  unfold FX12_bubble_ at h
  refine bs_aload_n dX12_bubble__0 rfl ?_
  refine bs_aload_n dX12_bubble__1 rfl ?_
  refine bs_iload_n dX12_bubble__2 rfl ?_
  refine bs_iload_n dX12_bubble__3 rfl ?_
  obtain ⟨v2, k1, h⟩ := fg_bdE h
  refine fg_callV dX12_bubble__4 qX12_304 (wX12_isBubble HM hR k1) rfl (HM.s 0 rfl rfl rfl) rfl (Nat.le_of_ble_eq_true rfl) (fg_cr (by first | decide | omega) (by decide)) (fun hR => ?_)
  refine bs_if_eq (tgt := 23) dX12_bubble__7 (by decide) (fun c => ?_) (fun c => ?_)
  · replace h := fg_ip c h
    refine bs_W.mk [(0, .ref m), (1, .int p1), (2, .int p2), (3, .int p3)] (by intro q hq; simp only [List.mem_cons, List.not_mem_nil, or_false] at hq; rcases hq with rfl | rfl | rfl | rfl <;> rfl) ?_
    exact wFX12_bubble__j23 HM kr hR h
  · replace h := fg_iN c h
    refine bs_iload_n dX12_bubble__10 rfl ?_
    refine bs_iconst (v := (nI 0)) dX12_bubble__11 (by decide) ?_
    refine bs_iconst (v := (nI 4)) dX12_bubble__12 (by decide) ?_
    obtain ⟨v11, k10, h⟩ := fg_bdE h
    refine fg_callS dX12_bubble__13 qX12_121 (wX12_in HM hR k10) rfl rfl (Nat.le_of_ble_eq_true rfl) (fg_cr (by first | decide | omega) (by decide)) (fun hR => ?_)
    refine bs_if_eq (tgt := 23) dX12_bubble__16 (by decide) (fun c => ?_) (fun c => ?_)
    · replace h := fg_ip c h
      refine bs_W.mk [(0, .ref m), (1, .int p1), (2, .int p2), (3, .int p3)] (by intro q hq; simp only [List.mem_cons, List.not_mem_nil, or_false] at hq; rcases hq with rfl | rfl | rfl | rfl <;> rfl) ?_
      exact wFX12_bubble__j23 HM kr hR h
    · replace h := fg_iN c h
      refine bs_iconst (v := (nI 0)) dX12_bubble__19 (by decide) ?_
      refine bs_goto (tgt := 24) dX12_bubble__20 (by decide) ?_
      refine bs_W.mk [(0, .ref m), (1, .int p1), (2, .int p2), (3, .int p3)] (by intro q hq; simp only [List.mem_cons, List.not_mem_nil, or_false] at hq; rcases hq with rfl | rfl | rfl | rfl <;> rfl) ?_
      exact wFX12_bubble__j24 HM kr hR h
noncomputable def FX12_isBalloon (m : Nat) (mu : bs_Mm) (p1 : Int32) (p2 : Int32) : Option (Int32) :=
  fg_bd (FX12_isFigure m mu p1) (fun v2 => 
  if v2 = 0 then (
    some ((nI 0))
  ) else (
    fg_gd (fg_in p1 13) (
    fg_bd (FX12_in m mu p2 (nI 0) ((bs_iv (mu (m + 6) p1.toNatClampNeg)) - (nI 1))) (fun v5 => 
    if v5 = 0 then (
      some ((nI 0))
    ) else (
      some ((nI 1))
    )))
  ))
set_option maxHeartbeats 4000000 in
theorem wX12_isBalloon {nx : Nat} {sh : bs_Sh} {R : Nat → Nat → Option Nat} {m : Nat} (HM : fg_S (bs_tM m) R m sh) {mu : bs_Mm} (hR : fg_R R mu) {p1 : Int32} {p2 : Int32} {r : Int32} (h : FX12_isBalloon m mu p1 p2 = some r) : bs_C mX12_isBalloon (bs_rm 2 0 0) [.ref m, .int p1, .int p2] nx sh mu (fg_po R nx sh (some (.int r)) mu) := by
  refine bs_ct (by decide +kernel) (Nat.le_of_ble_eq_true rfl) ?_
  have kr : ∀ q, r = q → fg_R R mu → (fg_po R nx sh (some (.int r)) mu) (some (.int q)) nx sh mu := fun q e hq => by subst e; exact ⟨rfl, rfl, rfl, rfl, hq⟩
  unfold FX12_isBalloon at h
  refine bs_aload_n dX12_isBalloon_0 rfl ?_
  refine bs_iload_n dX12_isBalloon_1 rfl ?_
  obtain ⟨v2, k1, h⟩ := fg_bdE h
  refine fg_callV dX12_isBalloon_2 qX12_284 (wX12_isFigure HM hR k1) rfl (HM.s 0 rfl rfl rfl) rfl (Nat.le_of_ble_eq_true rfl) (fg_cr (by first | decide | omega) (by decide)) (fun hR => ?_)
  refine bs_if_eq (tgt := 28) dX12_isBalloon_5 (by decide) (fun c => ?_) (fun c => ?_)
  · replace h := fg_ip c h
    refine bs_iconst (v := (nI 0)) dX12_isBalloon_28 (by decide) ?_
    cases h
    exact bs_zret dX12_isBalloon_29 rfl (Or.inl rfl) (Nat.zero_le _) (Nat.zero_le _) (kr _ rfl hR)
  · replace h := fg_iN c h
    refine bs_iload_n dX12_isBalloon_8 rfl ?_
    refine bs_iconst (v := (nI 0)) dX12_isBalloon_9 (by decide) ?_
    refine bs_aload_n dX12_isBalloon_10 rfl ?_
    refine fg_getR (b := (m + 6)) dX12_isBalloon_11 fX12_25 (HM.s 0 rfl rfl rfl) hR (HM.r 0 11 rfl rfl rfl) ?_
    refine bs_iload_n dX12_isBalloon_14 rfl ?_
    obtain ⟨g3, h⟩ := fg_gdE h
    refine bs_iald dX12_isBalloon_15 (HM.ss 6 rfl rfl) (fg_in_ix g3) ?_
    refine bs_iconst (v := (nI 1)) dX12_isBalloon_16 (by decide) ?_
    refine bs_isub dX12_isBalloon_17 ?_
    obtain ⟨v5, k4, h⟩ := fg_bdE h
    refine fg_callS dX12_isBalloon_18 qX12_121 (wX12_in HM hR k4) rfl rfl (Nat.le_of_ble_eq_true rfl) (fg_cr (by first | decide | omega) (by decide)) (fun hR => ?_)
    refine bs_if_eq (tgt := 28) dX12_isBalloon_21 (by decide) (fun c => ?_) (fun c => ?_)
    · replace h := fg_ip c h
      refine bs_iconst (v := (nI 0)) dX12_isBalloon_28 (by decide) ?_
      cases h
      exact bs_zret dX12_isBalloon_29 rfl (Or.inl rfl) (Nat.zero_le _) (Nat.zero_le _) (kr _ rfl hR)
    · replace h := fg_iN c h
      refine bs_iconst (v := (nI 1)) dX12_isBalloon_24 (by decide) ?_
      refine bs_goto (tgt := 29) dX12_isBalloon_25 (by decide) ?_
      cases h
      exact bs_zret dX12_isBalloon_29 rfl (Or.inr rfl) (Nat.zero_le _) (Nat.zero_le _) (kr _ rfl hR)
noncomputable def FX12_bursts_b35 (m : Nat) (mu : bs_Mm) (l1 : Int32) (l2 : Int32) (l3 : Int32) (s : Int32 × Int32) : Option ((Int32 × Int32) ⊕ ((Unit) ⊕ (Int32))) :=
  fg_gd (fg_in l1 13) (
  if (bs_iv (mu (m + 8) l1.toNatClampNeg)) ≤ s.2 then (
    some (.inr (.inl ()))
  ) else (
    fg_gd (fg_in (((nI 24) * l1) + s.2) 312) (
    if (bs_iv (mu (m + 13) (((nI 24) * l1) + s.2).toNatClampNeg)) = l2 then (
      fg_gd (fg_in l3 6) (
      fg_gd (fg_in (((nI 24) * l1) + s.2) 312) (
      fg_gd (fg_in l3 6) (
      if (s.1 + ((bs_iv (mu (m + 2) l3.toNatClampNeg)) + (bs_iv (mu (m + 10) (((nI 24) * l1) + s.2).toNatClampNeg)))) ≤ (bs_iv (mu (m + 1) l3.toNatClampNeg)) then (
        some (.inl ((s.1 + ((bs_iv (mu (m + 2) l3.toNatClampNeg)) + (bs_iv (mu (m + 10) (((nI 24) * l1) + s.2).toNatClampNeg)))), (s.2 + (nI 1))))
      ) else (
        some (.inr (.inr (s.2)))
      ))))
    ) else (
      some (.inl (s.1, (s.2 + (nI 1))))
    ))
  ))
set_option maxHeartbeats 4000000 in
theorem wFX12_bursts_b35 {nx : Nat} {sh : bs_Sh} {R : Nat → Nat → Option Nat} {m : Nat} (HM : fg_S (bs_tM m) R m sh) {mu : bs_Mm} {l1 : Int32} {l2 : Int32} {l3 : Int32} {Ph : bs_Po} {s : Int32 × Int32} {r : (Int32 × Int32) ⊕ ((Unit) ⊕ (Int32))} (ka : ∀ s, r = .inl s → bs_W Ph mX12_bursts (bs_rm 3 0 0) 35 (bs_mk [(0, .ref m), (1, .int l1), (2, .int l2), (3, .int l3), (4, .int s.1), (5, .int s.2)]) [] 0 0 nx sh mu) (ke : ∀ s, r = .inr (.inl s) → bs_W Ph mX12_bursts (bs_rm 3 0 0) 106 (bs_mk [(0, .ref m), (1, .int l1), (2, .int l2), (3, .int l3)]) [] 0 0 nx sh mu) (kr : ∀ q, r = .inr (.inr q) → fg_R R mu → Ph (some (.int q)) nx sh mu) (hR : fg_R R mu) (h : FX12_bursts_b35 m mu l1 l2 l3 s = some r) : bs_W Ph mX12_bursts (bs_rm 3 0 0) 35 (bs_mk [(0, .ref m), (1, .int l1), (2, .int l2), (3, .int l3), (4, .int s.1), (5, .int s.2)]) [] 0 0 nx sh mu := by
  unfold FX12_bursts_b35 at h
  refine bs_iload dX12_bursts_35 rfl ?_
  refine bs_aload_n dX12_bursts_37 rfl ?_
  refine fg_getR (b := (m + 8)) dX12_bursts_38 fX12_31 (HM.s 0 rfl rfl rfl) hR (HM.r 0 13 rfl rfl rfl) ?_
  refine bs_iload_n dX12_bursts_41 rfl ?_
  obtain ⟨g5, h⟩ := fg_gdE h
  refine bs_iald dX12_bursts_42 (HM.ss 8 rfl rfl) (fg_in_ix g5) ?_
  refine bs_icmp_ge (tgt := 106) dX12_bursts_43 (by decide) (fun c => ?_) (fun c => ?_)
  · replace h := fg_ip c h
    cases h
    refine bs_W.mk [(0, .ref m), (1, .int l1), (2, .int l2), (3, .int l3)] (by intro q hq; simp only [List.mem_cons, List.not_mem_nil, or_false] at hq; rcases hq with rfl | rfl | rfl | rfl <;> rfl) (ke _ rfl)
  · replace h := fg_iN c h
    refine bs_aload_n dX12_bursts_46 rfl ?_
    refine fg_getR (b := (m + 13)) dX12_bursts_47 fX12_46 (HM.s 0 rfl rfl rfl) hR (HM.r 0 18 rfl rfl rfl) ?_
    refine bs_bipush (v := (nI 24)) dX12_bursts_50 (by decide) ?_
    refine bs_iload_n dX12_bursts_52 rfl ?_
    refine bs_imul dX12_bursts_53 ?_
    refine bs_iload dX12_bursts_54 rfl ?_
    refine bs_iadd dX12_bursts_56 ?_
    obtain ⟨g6, h⟩ := fg_gdE h
    refine bs_iald dX12_bursts_57 (HM.ss 13 rfl rfl) (fg_in_ix g6) ?_
    refine bs_iload_n dX12_bursts_58 rfl ?_
    refine bs_icmp_ne (tgt := 100) dX12_bursts_59 (by decide) (fun c => ?_) (fun c => ?_)
    · replace h := fg_iN c h
      refine fg_iinc (m := (nI 1)) dX12_bursts_100 rfl rfl (by decide) ?_
      refine bs_goto (tgt := 35) dX12_bursts_103 (by decide) ?_
      cases h
      refine bs_W.mk [(0, .ref m), (1, .int l1), (2, .int l2), (3, .int l3), (4, .int s.1), (5, .int (s.2 + (nI 1)))] (by intro q hq; simp only [List.mem_cons, List.not_mem_nil, or_false] at hq; rcases hq with rfl | rfl | rfl | rfl | rfl | rfl <;> rfl) (by have k := ka _ rfl; dsimp only at k; exact k)
    · replace h := fg_ip c h
      refine bs_iload dX12_bursts_62 rfl ?_
      refine bs_aload_n dX12_bursts_64 rfl ?_
      refine fg_getR (b := (m + 2)) dX12_bursts_65 fX12_13 (HM.s 0 rfl rfl rfl) hR (HM.r 0 2 rfl rfl rfl) ?_
      refine bs_iload_n dX12_bursts_68 rfl ?_
      obtain ⟨g7, h⟩ := fg_gdE h
      refine bs_iald dX12_bursts_69 (HM.ss 2 rfl rfl) (fg_in_ix g7) ?_
      refine bs_aload_n dX12_bursts_70 rfl ?_
      refine fg_getR (b := (m + 10)) dX12_bursts_71 fX12_37 (HM.s 0 rfl rfl rfl) hR (HM.r 0 15 rfl rfl rfl) ?_
      refine bs_bipush (v := (nI 24)) dX12_bursts_74 (by decide) ?_
      refine bs_iload_n dX12_bursts_76 rfl ?_
      refine bs_imul dX12_bursts_77 ?_
      refine bs_iload dX12_bursts_78 rfl ?_
      refine bs_iadd dX12_bursts_80 ?_
      obtain ⟨g8, h⟩ := fg_gdE h
      refine bs_iald dX12_bursts_81 (HM.ss 10 rfl rfl) (fg_in_ix g8) ?_
      refine bs_iadd dX12_bursts_82 ?_
      refine bs_iadd dX12_bursts_83 ?_
      refine bs_istore dX12_bursts_84 rfl (by decide) ?_
      refine bs_iload dX12_bursts_86 rfl ?_
      refine bs_aload_n dX12_bursts_88 rfl ?_
      refine fg_getR (b := (m + 1)) dX12_bursts_89 fX12_9 (HM.s 0 rfl rfl rfl) hR (HM.r 0 1 rfl rfl rfl) ?_
      refine bs_iload_n dX12_bursts_92 rfl ?_
      obtain ⟨g9, h⟩ := fg_gdE h
      refine bs_iald dX12_bursts_93 (HM.ss 1 rfl rfl) (fg_in_ix g9) ?_
      refine bs_icmp_le (tgt := 100) dX12_bursts_94 (by decide) (fun c => ?_) (fun c => ?_)
      · replace h := fg_ip c h
        refine fg_iinc (m := (nI 1)) dX12_bursts_100 rfl rfl (by decide) ?_
        refine bs_goto (tgt := 35) dX12_bursts_103 (by decide) ?_
        cases h
        refine bs_W.mk [(0, .ref m), (1, .int l1), (2, .int l2), (3, .int l3), (4, .int (s.1 + ((bs_iv (mu (m + 2) l3.toNatClampNeg)) + (bs_iv (mu (m + 10) (((nI 24) * l1) + s.2).toNatClampNeg))))), (5, .int (s.2 + (nI 1)))] (by intro q hq; simp only [List.mem_cons, List.not_mem_nil, or_false] at hq; rcases hq with rfl | rfl | rfl | rfl | rfl | rfl <;> rfl) (by have k := ka _ rfl; dsimp only at k; exact k)
      · replace h := fg_iN c h
        refine bs_iload dX12_bursts_97 rfl ?_
        cases h
        exact bs_iret dX12_bursts_99 rfl (Nat.zero_le _) (Nat.zero_le _) (kr _ rfl hR)
theorem wFX12_lursts_l35 {nx : Nat} {sh : bs_Sh} {R : Nat → Nat → Option Nat} {m : Nat} (HM : fg_S (bs_tM m) R m sh) {mu : bs_Mm} {l1 : Int32} {l2 : Int32} {l3 : Int32} {Ph : bs_Po} {t : (Unit) ⊕ (Int32)} : ∀ n (y0 : Int32) (y1 : Int32), fg_lp (FX12_bursts_b35 m mu l1 l2 l3) n (y0, y1) = some t → fg_R R mu → (ke : ∀ s, t = .inl s → bs_W Ph mX12_bursts (bs_rm 3 0 0) 106 (bs_mk [(0, .ref m), (1, .int l1), (2, .int l2), (3, .int l3)]) [] 0 0 nx sh mu) → (kr : ∀ q, t = .inr q → fg_R R mu → Ph (some (.int q)) nx sh mu) → bs_W Ph mX12_bursts (bs_rm 3 0 0) 35 (bs_mk [(0, .ref m), (1, .int l1), (2, .int l2), (3, .int l3), (4, .int y0), (5, .int y1)]) [] 0 0 nx sh mu := by
  intro n
  induction n with
  | zero => intro y0 y1 h; exact absurd h (fun z => fg_lp0 z)
  | succ n ih =>
    intro y0 y1 h hR ke kr
    obtain ⟨r, hb, h1, h2⟩ := fg_lpE h
    exact wFX12_bursts_b35 (s := (y0, y1)) HM (fun s' e => ih s'.1 s'.2 (h1 s' e) hR ke kr) (fun s' e => ke s' (h2 _ e).symm) (fun q e => kr q (h2 _ e).symm) hR hb
noncomputable def FX12_bursts (m : Nat) (mu : bs_Mm) (p1 : Int32) (p2 : Int32) : Option (Int32) :=
  fg_bd (FX12_isBalloon m mu p1 p2) (fun v2 => 
  if v2 = 0 then (
    some ((-1))
  ) else (
    fg_gd (fg_in (((nI 6) * p1) + p2) 78) (
    fg_gd (fg_in (bs_iv (mu (m + 7) (((nI 6) * p1) + p2).toNatClampNeg)) 6) (
    fg_l3 (fg_lp (FX12_bursts_b35 m mu p1 p2 (bs_iv (mu (m + 7) (((nI 6) * p1) + p2).toNatClampNeg))) fg_fu ((-(bs_iv (mu (m + 2) (bs_iv (mu (m + 7) (((nI 6) * p1) + p2).toNatClampNeg)).toNatClampNeg))), (nI 0))) (fun t10 => 
      some ((-1))
    ) (fun q12 => some q12)))
  ))
set_option maxHeartbeats 4000000 in
theorem wX12_bursts {nx : Nat} {sh : bs_Sh} {R : Nat → Nat → Option Nat} {m : Nat} (HM : fg_S (bs_tM m) R m sh) {mu : bs_Mm} (hR : fg_R R mu) {p1 : Int32} {p2 : Int32} {r : Int32} (h : FX12_bursts m mu p1 p2 = some r) : bs_C mX12_bursts (bs_rm 3 0 0) [.ref m, .int p1, .int p2] nx sh mu (fg_po R nx sh (some (.int r)) mu) := by
  refine bs_ct (by decide +kernel) (Nat.le_of_ble_eq_true rfl) ?_
  have kr : ∀ q, r = q → fg_R R mu → (fg_po R nx sh (some (.int r)) mu) (some (.int q)) nx sh mu := fun q e hq => by subst e; exact ⟨rfl, rfl, rfl, rfl, hq⟩
  unfold FX12_bursts at h
  refine bs_aload_n dX12_bursts_0 rfl ?_
  refine bs_iload_n dX12_bursts_1 rfl ?_
  refine bs_iload_n dX12_bursts_2 rfl ?_
  obtain ⟨v2, k1, h⟩ := fg_bdE h
  refine fg_callV dX12_bursts_3 qX12_310 (wX12_isBalloon HM hR k1) rfl (HM.s 0 rfl rfl rfl) rfl (Nat.le_of_ble_eq_true rfl) (fg_cr (by first | decide | omega) (by decide)) (fun hR => ?_)
  refine bs_if_ne (tgt := 11) dX12_bursts_6 (by decide) (fun c => ?_) (fun c => ?_)
  · replace h := fg_iN c h
    refine bs_aload_n dX12_bursts_11 rfl ?_
    refine fg_getR (b := (m + 7)) dX12_bursts_12 fX12_28 (HM.s 0 rfl rfl rfl) hR (HM.r 0 12 rfl rfl rfl) ?_
    refine bs_bipush (v := (nI 6)) dX12_bursts_15 (by decide) ?_
    refine bs_iload_n dX12_bursts_17 rfl ?_
    refine bs_imul dX12_bursts_18 ?_
    refine bs_iload_n dX12_bursts_19 rfl ?_
    refine bs_iadd dX12_bursts_20 ?_
    obtain ⟨g3, h⟩ := fg_gdE h
    refine bs_iald dX12_bursts_21 (HM.ss 7 rfl rfl) (fg_in_ix g3) ?_
    refine bs_istore_n dX12_bursts_22 rfl (by decide) ?_
    refine bs_aload_n dX12_bursts_23 rfl ?_
    refine fg_getR (b := (m + 2)) dX12_bursts_24 fX12_13 (HM.s 0 rfl rfl rfl) hR (HM.r 0 2 rfl rfl rfl) ?_
    refine bs_iload_n dX12_bursts_27 rfl ?_
    obtain ⟨g4, h⟩ := fg_gdE h
    refine bs_iald dX12_bursts_28 (HM.ss 2 rfl rfl) (fg_in_ix g4) ?_
    refine bs_ineg dX12_bursts_29 ?_
    refine bs_istore dX12_bursts_30 rfl (by decide) ?_
    refine bs_iconst (v := (nI 0)) dX12_bursts_32 (by decide) ?_
    refine bs_istore dX12_bursts_33 rfl (by decide) ?_
    obtain ⟨t100, k11, h1, h2⟩ := fg_l3E h
    refine bs_W.mk [(0, .ref m), (1, .int p1), (2, .int p2), (3, .int (bs_iv (mu (m + 7) (((nI 6) * p1) + p2).toNatClampNeg))), (4, .int (-(bs_iv (mu (m + 2) (bs_iv (mu (m + 7) (((nI 6) * p1) + p2).toNatClampNeg)).toNatClampNeg)))), (5, .int (nI 0))] (by intro q hq; simp only [List.mem_cons, List.not_mem_nil, or_false] at hq; rcases hq with rfl | rfl | rfl | rfl | rfl | rfl <;> rfl) ?_
    refine wFX12_lursts_l35 HM _ _ _ k11 hR ?_ ?_
    · intro t10 e
      replace h := h1 t10 e
      refine bs_iconst (v := (-1)) dX12_bursts_106 (by decide) ?_
      cases h
      exact bs_iret dX12_bursts_107 rfl (Nat.zero_le _) (Nat.zero_le _) (kr _ rfl hR)
    · intro q12 e hR
      replace h := h2 q12 e
      cases h
      exact kr _ rfl hR
  · replace h := fg_ip c h
    refine bs_iconst (v := (-1)) dX12_bursts_9 (by decide) ?_
    cases h
    exact bs_iret dX12_bursts_10 rfl (Nat.zero_le _) (Nat.zero_le _) (kr _ rfl hR)
noncomputable def FX12_byteOf_j45 (m : Nat) (mu : bs_Mm) (l5 : Int32) (t0 : Int32) : Option (Int32) :=
  some (((t0 >>> (((nI 24) - ((nI 8) * (l5 - l5 / (nI 4) * (nI 4)))) &&& 31)) &&& (nI 255)))
set_option maxHeartbeats 4000000 in
theorem wFX12_byteOf_j45 {nx : Nat} {sh : bs_Sh} {R : Nat → Nat → Option Nat} {m : Nat} (HM : fg_S (bs_tM m) R m sh) {mu : bs_Mm} {l5 : Int32} {t0 : Int32} {Ph : bs_Po} {r : Int32} (kr : ∀ q, r = q → fg_R R mu → Ph (some (.int q)) nx sh mu) (hR : fg_R R mu) (h : FX12_byteOf_j45 m mu l5 t0 = some r) : bs_W Ph mX12_byteOf (bs_rm 0 0 0) 45 (bs_mk [(5, .int l5)]) [.int t0] 0 0 nx sh mu := by
  unfold FX12_byteOf_j45 at h
  refine bs_istore dX12_byteOf_45 rfl (by decide) ?_
  refine bs_iload dX12_byteOf_47 rfl ?_
  refine bs_bipush (v := (nI 24)) dX12_byteOf_49 (by decide) ?_
  refine bs_bipush (v := (nI 8)) dX12_byteOf_51 (by decide) ?_
  refine bs_iload dX12_byteOf_53 rfl ?_
  refine bs_iconst (v := (nI 4)) dX12_byteOf_55 (by decide) ?_
  refine bs_irem dX12_byteOf_56 (by decide) ?_
  refine bs_imul dX12_byteOf_57 ?_
  refine bs_isub dX12_byteOf_58 ?_
  refine bs_ishr dX12_byteOf_59 ?_
  refine bs_sipush (v := (nI 255)) dX12_byteOf_60 (by decide) ?_
  refine bs_iand dX12_byteOf_63 ?_
  cases h
  exact bs_iret dX12_byteOf_64 rfl (Nat.zero_le _) (Nat.zero_le _) (kr _ rfl hR)
noncomputable def FX12_byteOf (m : Nat) (mu : bs_Mm) (p0 : Int32) (p1 : Int32) (p2 : Int32) (p3 : Int32) (p4 : Int32) (p5 : Int32) : Option (Int32) :=
  if (nI 4) ≤ p5 then (
    if (nI 8) ≤ p5 then (
      if (nI 12) ≤ p5 then (
        if (nI 16) ≤ p5 then (
          FX12_byteOf_j45 m mu p5 p4
        ) else (
          FX12_byteOf_j45 m mu p5 p3
        )
      ) else (
        FX12_byteOf_j45 m mu p5 p2
      )
    ) else (
      FX12_byteOf_j45 m mu p5 p1
    )
  ) else (
    FX12_byteOf_j45 m mu p5 p0
  )
set_option maxHeartbeats 4000000 in
theorem wX12_byteOf {nx : Nat} {sh : bs_Sh} {R : Nat → Nat → Option Nat} {m : Nat} (HM : fg_S (bs_tM m) R m sh) {mu : bs_Mm} (hR : fg_R R mu) {p0 : Int32} {p1 : Int32} {p2 : Int32} {p3 : Int32} {p4 : Int32} {p5 : Int32} {r : Int32} (h : FX12_byteOf m mu p0 p1 p2 p3 p4 p5 = some r) : bs_C mX12_byteOf (bs_rm 0 0 0) [.int p0, .int p1, .int p2, .int p3, .int p4, .int p5] nx sh mu (fg_po R nx sh (some (.int r)) mu) := by
  refine bs_ct (by decide +kernel) (Nat.le_of_ble_eq_true rfl) ?_
  have kr : ∀ q, r = q → fg_R R mu → (fg_po R nx sh (some (.int r)) mu) (some (.int q)) nx sh mu := fun q e hq => by subst e; exact ⟨rfl, rfl, rfl, rfl, hq⟩
  unfold FX12_byteOf at h
  refine bs_iload dX12_byteOf_0 rfl ?_
  refine bs_iconst (v := (nI 4)) dX12_byteOf_2 (by decide) ?_
  refine bs_icmp_ge (tgt := 10) dX12_byteOf_3 (by decide) (fun c => ?_) (fun c => ?_)
  · replace h := fg_ip c h
    refine bs_iload dX12_byteOf_10 rfl ?_
    refine bs_bipush (v := (nI 8)) dX12_byteOf_12 (by decide) ?_
    refine bs_icmp_ge (tgt := 21) dX12_byteOf_14 (by decide) (fun c => ?_) (fun c => ?_)
    · replace h := fg_ip c h
      refine bs_iload dX12_byteOf_21 rfl ?_
      refine bs_bipush (v := (nI 12)) dX12_byteOf_23 (by decide) ?_
      refine bs_icmp_ge (tgt := 32) dX12_byteOf_25 (by decide) (fun c => ?_) (fun c => ?_)
      · replace h := fg_ip c h
        refine bs_iload dX12_byteOf_32 rfl ?_
        refine bs_bipush (v := (nI 16)) dX12_byteOf_34 (by decide) ?_
        refine bs_icmp_ge (tgt := 43) dX12_byteOf_36 (by decide) (fun c => ?_) (fun c => ?_)
        · replace h := fg_ip c h
          refine bs_iload dX12_byteOf_43 rfl ?_
          refine bs_W.mk [(5, .int p5)] (by intro q hq; simp only [List.mem_cons, List.not_mem_nil, or_false] at hq; rcases hq with rfl; rfl) ?_
          exact wFX12_byteOf_j45 HM kr hR h
        · replace h := fg_iN c h
          refine bs_iload_n dX12_byteOf_39 rfl ?_
          refine bs_goto (tgt := 45) dX12_byteOf_40 (by decide) ?_
          refine bs_W.mk [(5, .int p5)] (by intro q hq; simp only [List.mem_cons, List.not_mem_nil, or_false] at hq; rcases hq with rfl; rfl) ?_
          exact wFX12_byteOf_j45 HM kr hR h
      · replace h := fg_iN c h
        refine bs_iload_n dX12_byteOf_28 rfl ?_
        refine bs_goto (tgt := 45) dX12_byteOf_29 (by decide) ?_
        refine bs_W.mk [(5, .int p5)] (by intro q hq; simp only [List.mem_cons, List.not_mem_nil, or_false] at hq; rcases hq with rfl; rfl) ?_
        exact wFX12_byteOf_j45 HM kr hR h
    · replace h := fg_iN c h
      refine bs_iload_n dX12_byteOf_17 rfl ?_
      refine bs_goto (tgt := 45) dX12_byteOf_18 (by decide) ?_
      refine bs_W.mk [(5, .int p5)] (by intro q hq; simp only [List.mem_cons, List.not_mem_nil, or_false] at hq; rcases hq with rfl; rfl) ?_
      exact wFX12_byteOf_j45 HM kr hR h
  · replace h := fg_iN c h
    refine bs_iload_n dX12_byteOf_6 rfl ?_
    refine bs_goto (tgt := 45) dX12_byteOf_7 (by decide) ?_
    refine bs_W.mk [(5, .int p5)] (by intro q hq; simp only [List.mem_cons, List.not_mem_nil, or_false] at hq; rcases hq with rfl; rfl) ?_
    exact wFX12_byteOf_j45 HM kr hR h
noncomputable def FX12_truth_b5 (m : Nat) (rU : bs_Mm → Int32 → Option (bs_Mm))  (l1 : Int32) (s : bs_Mm) : Option ((bs_Mm) ⊕ (bs_Mm)) :=
  if (bs_iv (s m 9)) = (-1) then (
    fg_b2 (FX12_look m s) (fun v5 mu4 => 
    if v5 = (nI 38) then (
      fg_wr mu4 m 8 (.int ((bs_iv (mu4 m 8)) + (nI 1))) (fun mu6 => 
      fg_bd (rU mu6 (nI 0)) (fun mu8 => 
      fg_bd (FX12_say m mu8 (nI 38)) (fun mu10 => 
      some (.inl mu10))))
    ) else (
      some (.inr mu4)
    ))
  ) else (
    some (.inr s)
  )
set_option maxHeartbeats 4000000 in
theorem wFX12_truth_b5 {nx : Nat} {sh : bs_Sh} {R : Nat → Nat → Option Nat} {m : Nat} (HM : fg_S (bs_tM m) R m sh) {rU : bs_Mm → Int32 → Option (bs_Mm)} {d_rU : Nat} (h_rU : ∀ {mu : bs_Mm} {a0 : Int32} {q : bs_Mm}, fg_R R mu → rU mu a0 = some q → bs_C mX12_unit (bs_rm d_rU 0 0) [.ref m, .int a0] nx sh mu (fg_po R nx sh none q)) {l1 : Int32} {Ph : bs_Po} {s : bs_Mm} {r : (bs_Mm) ⊕ (bs_Mm)} (ka : ∀ s, r = .inl s → fg_R R s → bs_W Ph mX12_truth (bs_rm (d_rU + 2) 0 0) 5 (bs_mk [(0, .ref m), (1, .int l1)]) [] 0 0 nx sh s) (ke : ∀ s, r = .inr s → fg_R R s → bs_W Ph mX12_truth (bs_rm (d_rU + 2) 0 0) 46 (bs_mk [(0, .ref m), (1, .int l1)]) [] 0 0 nx sh s) (hR : fg_R R s) (h : FX12_truth_b5 m rU l1 s = some r) : bs_W Ph mX12_truth (bs_rm (d_rU + 2) 0 0) 5 (bs_mk [(0, .ref m), (1, .int l1)]) [] 0 0 nx sh s := by
  unfold FX12_truth_b5 at h
  refine bs_aload_n dX12_truth_5 rfl ?_
  refine bs_getI dX12_truth_6 fX12_142 (HM.s 0 rfl rfl rfl) ?_
  refine bs_iconst (v := (-1)) dX12_truth_9 (by decide) ?_
  refine bs_icmp_ne (tgt := 46) dX12_truth_10 (by decide) (fun c => ?_) (fun c => ?_)
  · replace h := fg_iN c h
    cases h
    refine bs_W.mk [(0, .ref m), (1, .int l1)] (by intro q hq; simp only [List.mem_cons, List.not_mem_nil, or_false] at hq; rcases hq with rfl | rfl <;> rfl) (ke _ rfl hR)
  · replace h := fg_ip c h
    refine bs_aload_n dX12_truth_13 rfl ?_
    obtain ⟨v5, mu4, k3, h⟩ := fg_b2E h
    refine fg_callV dX12_truth_14 qX12_180 (wX12_look HM hR k3) rfl (HM.s 0 rfl rfl rfl) rfl (Nat.le_of_ble_eq_true rfl) (fg_cr (by first | decide | omega) (by decide)) (fun hR => ?_)
    refine bs_bipush (v := (nI 38)) dX12_truth_17 (by decide) ?_
    refine bs_icmp_ne (tgt := 46) dX12_truth_19 (by decide) (fun c => ?_) (fun c => ?_)
    · replace h := fg_iN c h
      cases h
      refine bs_W.mk [(0, .ref m), (1, .int l1)] (by intro q hq; simp only [List.mem_cons, List.not_mem_nil, or_false] at hq; rcases hq with rfl | rfl <;> rfl) (ke _ rfl hR)
    · replace h := fg_ip c h
      refine bs_aload_n dX12_truth_22 rfl ?_
      refine bs_dup dX12_truth_23 rfl ?_
      refine bs_getI dX12_truth_24 fX12_135 (HM.s 0 rfl rfl rfl) ?_
      refine bs_iconst (v := (nI 1)) dX12_truth_27 (by decide) ?_
      refine bs_iadd dX12_truth_28 ?_
      refine fg_putI dX12_truth_29 pX12_135 (HM.s 0 rfl rfl rfl) (HM.n 0 8 rfl rfl rfl) hR h (fun mu6 hR h => ?_)
      refine bs_aload_n dX12_truth_32 rfl ?_
      refine bs_iconst (v := (nI 0)) dX12_truth_33 (by decide) ?_
      obtain ⟨mu8, k7, h⟩ := fg_bdE h
      refine fg_callVv dX12_truth_34 qX12_233 (h_rU hR k7) rfl (HM.s 0 rfl rfl rfl) rfl (Nat.le_of_ble_eq_true rfl) (fg_cr (by first | decide | omega) (by decide)) (fun hR => ?_)
      refine bs_aload_n dX12_truth_37 rfl ?_
      refine bs_bipush (v := (nI 38)) dX12_truth_38 (by decide) ?_
      obtain ⟨mu10, k9, h⟩ := fg_bdE h
      refine fg_callVv dX12_truth_40 qX12_211 (wX12_say HM hR k9) rfl (HM.s 0 rfl rfl rfl) rfl (Nat.le_of_ble_eq_true rfl) (fg_cr (by first | decide | omega) (by decide)) (fun hR => ?_)
      refine bs_goto (tgt := 5) dX12_truth_43 (by decide) ?_
      cases h
      refine bs_W.mk [(0, .ref m), (1, .int l1)] (by intro q hq; simp only [List.mem_cons, List.not_mem_nil, or_false] at hq; rcases hq with rfl | rfl <;> rfl) (ka _ rfl hR)
theorem wFX12_truth_l5 {nx : Nat} {sh : bs_Sh} {R : Nat → Nat → Option Nat} {m : Nat} (HM : fg_S (bs_tM m) R m sh) {rU : bs_Mm → Int32 → Option (bs_Mm)} {d_rU : Nat} (h_rU : ∀ {mu : bs_Mm} {a0 : Int32} {q : bs_Mm}, fg_R R mu → rU mu a0 = some q → bs_C mX12_unit (bs_rm d_rU 0 0) [.ref m, .int a0] nx sh mu (fg_po R nx sh none q)) {l1 : Int32} {Ph : bs_Po} {t : bs_Mm} : ∀ n (mu1 : bs_Mm), fg_lp (FX12_truth_b5 m rU l1) n mu1 = some t → fg_R R mu1 → (ke : ∀ s, t = s → fg_R R s → bs_W Ph mX12_truth (bs_rm (d_rU + 2) 0 0) 46 (bs_mk [(0, .ref m), (1, .int l1)]) [] 0 0 nx sh s) → bs_W Ph mX12_truth (bs_rm (d_rU + 2) 0 0) 5 (bs_mk [(0, .ref m), (1, .int l1)]) [] 0 0 nx sh mu1 := by
  intro n
  induction n with
  | zero => intro mu1 h; exact absurd h (fun z => fg_lp0 z)
  | succ n ih =>
    intro mu1 h hR ke
    obtain ⟨r, hb, h1, h2⟩ := fg_lpE h
    exact wFX12_truth_b5 (s := mu1) HM h_rU (fun s' e hR' => ih s' (h1 s' e) hR' ke) (fun s' e => ke s' (h2 _ e).symm) hR hb
noncomputable def FX12_truth (m : Nat) (rU : bs_Mm → Int32 → Option (bs_Mm)) (mu : bs_Mm) (p1 : Int32) : Option (bs_Mm) :=
  fg_bd (rU mu p1) (fun mu2 => 
  fg_bd (fg_lp (FX12_truth_b5 m rU p1) fg_fu mu2) (fun t11 => 
    some t11
  ))
set_option maxHeartbeats 4000000 in
theorem wX12_truth {nx : Nat} {sh : bs_Sh} {R : Nat → Nat → Option Nat} {m : Nat} (HM : fg_S (bs_tM m) R m sh) {rU : bs_Mm → Int32 → Option (bs_Mm)} {d_rU : Nat} (h_rU : ∀ {mu : bs_Mm} {a0 : Int32} {q : bs_Mm}, fg_R R mu → rU mu a0 = some q → bs_C mX12_unit (bs_rm d_rU 0 0) [.ref m, .int a0] nx sh mu (fg_po R nx sh none q)) {mu : bs_Mm} (hR : fg_R R mu) {p1 : Int32} {r : bs_Mm} (h : FX12_truth m rU mu p1 = some r) : bs_C mX12_truth (bs_rm (d_rU + 2) 0 0) [.ref m, .int p1] nx sh mu (fg_po R nx sh none r) := by
  refine bs_ct (by decide +kernel) (Nat.le_of_ble_eq_true rfl) ?_
  have kr : ∀ q, r = q → fg_R R q → (fg_po R nx sh none r) none nx sh q := fun q e hq => by subst e; exact ⟨rfl, rfl, rfl, rfl, hq⟩
  unfold FX12_truth at h
  refine bs_aload_n dX12_truth_0 rfl ?_
  refine bs_iload_n dX12_truth_1 rfl ?_
  obtain ⟨mu2, k1, h⟩ := fg_bdE h
  refine fg_callVv dX12_truth_2 qX12_233 (h_rU hR k1) rfl (HM.s 0 rfl rfl rfl) rfl (Nat.le_of_ble_eq_true rfl) (fg_cr (by first | decide | omega) (by decide)) (fun hR => ?_)
  obtain ⟨t11, k12, h⟩ := fg_bdE h
  refine bs_W.mk [(0, .ref m), (1, .int p1)] (by intro q hq; simp only [List.mem_cons, List.not_mem_nil, or_false] at hq; rcases hq with rfl | rfl <;> rfl) ?_
  refine wFX12_truth_l5 HM h_rU _ _ k12 hR ?_
  intro s e hR
  subst e
  cases h
  exact bs_vret dX12_truth_46 rfl (Nat.zero_le _) (Nat.zero_le _) (kr _ rfl hR)
noncomputable def FX12_condition_b5 (m : Nat) (rU : bs_Mm → Int32 → Option (bs_Mm))  (l1 : Int32) (s : bs_Mm) : Option ((bs_Mm) ⊕ (bs_Mm)) :=
  if (bs_iv (s m 9)) = (-1) then (
    fg_b2 (FX12_look m s) (fun v5 mu4 => 
    if v5 = (nI 124) then (
      fg_wr mu4 m 8 (.int ((bs_iv (mu4 m 8)) + (nI 1))) (fun mu6 => 
      fg_bd (FX12_truth m rU mu6 (nI 0)) (fun mu8 => 
      fg_bd (FX12_say m mu8 (nI 124)) (fun mu10 => 
      some (.inl mu10))))
    ) else (
      some (.inr mu4)
    ))
  ) else (
    some (.inr s)
  )
set_option maxHeartbeats 4000000 in
theorem wFX12_condition_b5 {nx : Nat} {sh : bs_Sh} {R : Nat → Nat → Option Nat} {m : Nat} (HM : fg_S (bs_tM m) R m sh) {rU : bs_Mm → Int32 → Option (bs_Mm)} {d_rU : Nat} (h_rU : ∀ {mu : bs_Mm} {a0 : Int32} {q : bs_Mm}, fg_R R mu → rU mu a0 = some q → bs_C mX12_unit (bs_rm d_rU 0 0) [.ref m, .int a0] nx sh mu (fg_po R nx sh none q)) {l1 : Int32} {Ph : bs_Po} {s : bs_Mm} {r : (bs_Mm) ⊕ (bs_Mm)} (ka : ∀ s, r = .inl s → fg_R R s → bs_W Ph mX12_condition (bs_rm (d_rU + 3) 0 0) 5 (bs_mk [(0, .ref m), (1, .int l1)]) [] 0 0 nx sh s) (ke : ∀ s, r = .inr s → fg_R R s → bs_W Ph mX12_condition (bs_rm (d_rU + 3) 0 0) 46 (bs_mk [(0, .ref m), (1, .int l1)]) [] 0 0 nx sh s) (hR : fg_R R s) (h : FX12_condition_b5 m rU l1 s = some r) : bs_W Ph mX12_condition (bs_rm (d_rU + 3) 0 0) 5 (bs_mk [(0, .ref m), (1, .int l1)]) [] 0 0 nx sh s := by
  unfold FX12_condition_b5 at h
  refine bs_aload_n dX12_condition_5 rfl ?_
  refine bs_getI dX12_condition_6 fX12_142 (HM.s 0 rfl rfl rfl) ?_
  refine bs_iconst (v := (-1)) dX12_condition_9 (by decide) ?_
  refine bs_icmp_ne (tgt := 46) dX12_condition_10 (by decide) (fun c => ?_) (fun c => ?_)
  · replace h := fg_iN c h
    cases h
    refine bs_W.mk [(0, .ref m), (1, .int l1)] (by intro q hq; simp only [List.mem_cons, List.not_mem_nil, or_false] at hq; rcases hq with rfl | rfl <;> rfl) (ke _ rfl hR)
  · replace h := fg_ip c h
    refine bs_aload_n dX12_condition_13 rfl ?_
    obtain ⟨v5, mu4, k3, h⟩ := fg_b2E h
    refine fg_callV dX12_condition_14 qX12_180 (wX12_look HM hR k3) rfl (HM.s 0 rfl rfl rfl) rfl (Nat.le_of_ble_eq_true rfl) (fg_cr (by first | decide | omega) (by decide)) (fun hR => ?_)
    refine bs_bipush (v := (nI 124)) dX12_condition_17 (by decide) ?_
    refine bs_icmp_ne (tgt := 46) dX12_condition_19 (by decide) (fun c => ?_) (fun c => ?_)
    · replace h := fg_iN c h
      cases h
      refine bs_W.mk [(0, .ref m), (1, .int l1)] (by intro q hq; simp only [List.mem_cons, List.not_mem_nil, or_false] at hq; rcases hq with rfl | rfl <;> rfl) (ke _ rfl hR)
    · replace h := fg_ip c h
      refine bs_aload_n dX12_condition_22 rfl ?_
      refine bs_dup dX12_condition_23 rfl ?_
      refine bs_getI dX12_condition_24 fX12_135 (HM.s 0 rfl rfl rfl) ?_
      refine bs_iconst (v := (nI 1)) dX12_condition_27 (by decide) ?_
      refine bs_iadd dX12_condition_28 ?_
      refine fg_putI dX12_condition_29 pX12_135 (HM.s 0 rfl rfl rfl) (HM.n 0 8 rfl rfl rfl) hR h (fun mu6 hR h => ?_)
      refine bs_aload_n dX12_condition_32 rfl ?_
      refine bs_iconst (v := (nI 0)) dX12_condition_33 (by decide) ?_
      obtain ⟨mu8, k7, h⟩ := fg_bdE h
      refine fg_callVv dX12_condition_34 qX12_240 (wX12_truth HM h_rU hR k7) rfl (HM.s 0 rfl rfl rfl) rfl (Nat.le_of_ble_eq_true rfl) (fg_cr (by first | decide | omega) (by decide)) (fun hR => ?_)
      refine bs_aload_n dX12_condition_37 rfl ?_
      refine bs_bipush (v := (nI 124)) dX12_condition_38 (by decide) ?_
      obtain ⟨mu10, k9, h⟩ := fg_bdE h
      refine fg_callVv dX12_condition_40 qX12_211 (wX12_say HM hR k9) rfl (HM.s 0 rfl rfl rfl) rfl (Nat.le_of_ble_eq_true rfl) (fg_cr (by first | decide | omega) (by decide)) (fun hR => ?_)
      refine bs_goto (tgt := 5) dX12_condition_43 (by decide) ?_
      cases h
      refine bs_W.mk [(0, .ref m), (1, .int l1)] (by intro q hq; simp only [List.mem_cons, List.not_mem_nil, or_false] at hq; rcases hq with rfl | rfl <;> rfl) (ka _ rfl hR)
theorem wFX12_condition_l5 {nx : Nat} {sh : bs_Sh} {R : Nat → Nat → Option Nat} {m : Nat} (HM : fg_S (bs_tM m) R m sh) {rU : bs_Mm → Int32 → Option (bs_Mm)} {d_rU : Nat} (h_rU : ∀ {mu : bs_Mm} {a0 : Int32} {q : bs_Mm}, fg_R R mu → rU mu a0 = some q → bs_C mX12_unit (bs_rm d_rU 0 0) [.ref m, .int a0] nx sh mu (fg_po R nx sh none q)) {l1 : Int32} {Ph : bs_Po} {t : bs_Mm} : ∀ n (mu1 : bs_Mm), fg_lp (FX12_condition_b5 m rU l1) n mu1 = some t → fg_R R mu1 → (ke : ∀ s, t = s → fg_R R s → bs_W Ph mX12_condition (bs_rm (d_rU + 3) 0 0) 46 (bs_mk [(0, .ref m), (1, .int l1)]) [] 0 0 nx sh s) → bs_W Ph mX12_condition (bs_rm (d_rU + 3) 0 0) 5 (bs_mk [(0, .ref m), (1, .int l1)]) [] 0 0 nx sh mu1 := by
  intro n
  induction n with
  | zero => intro mu1 h; exact absurd h (fun z => fg_lp0 z)
  | succ n ih =>
    intro mu1 h hR ke
    obtain ⟨r, hb, h1, h2⟩ := fg_lpE h
    exact wFX12_condition_b5 (s := mu1) HM h_rU (fun s' e hR' => ih s' (h1 s' e) hR' ke) (fun s' e => ke s' (h2 _ e).symm) hR hb
noncomputable def FX12_condition (m : Nat) (rU : bs_Mm → Int32 → Option (bs_Mm)) (mu : bs_Mm) (p1 : Int32) : Option (bs_Mm) :=
  fg_bd (FX12_truth m rU mu p1) (fun mu2 => 
  fg_bd (fg_lp (FX12_condition_b5 m rU p1) fg_fu mu2) (fun t11 => 
    some t11
  ))
set_option maxHeartbeats 4000000 in
theorem wX12_condition {nx : Nat} {sh : bs_Sh} {R : Nat → Nat → Option Nat} {m : Nat} (HM : fg_S (bs_tM m) R m sh) {rU : bs_Mm → Int32 → Option (bs_Mm)} {d_rU : Nat} (h_rU : ∀ {mu : bs_Mm} {a0 : Int32} {q : bs_Mm}, fg_R R mu → rU mu a0 = some q → bs_C mX12_unit (bs_rm d_rU 0 0) [.ref m, .int a0] nx sh mu (fg_po R nx sh none q)) {mu : bs_Mm} (hR : fg_R R mu) {p1 : Int32} {r : bs_Mm} (h : FX12_condition m rU mu p1 = some r) : bs_C mX12_condition (bs_rm (d_rU + 3) 0 0) [.ref m, .int p1] nx sh mu (fg_po R nx sh none r) := by
  refine bs_ct (by decide +kernel) (Nat.le_of_ble_eq_true rfl) ?_
  have kr : ∀ q, r = q → fg_R R q → (fg_po R nx sh none r) none nx sh q := fun q e hq => by subst e; exact ⟨rfl, rfl, rfl, rfl, hq⟩
  unfold FX12_condition at h
  refine bs_aload_n dX12_condition_0 rfl ?_
  refine bs_iload_n dX12_condition_1 rfl ?_
  obtain ⟨mu2, k1, h⟩ := fg_bdE h
  refine fg_callVv dX12_condition_2 qX12_240 (wX12_truth HM h_rU hR k1) rfl (HM.s 0 rfl rfl rfl) rfl (Nat.le_of_ble_eq_true rfl) (fg_cr (by first | decide | omega) (by decide)) (fun hR => ?_)
  obtain ⟨t11, k12, h⟩ := fg_bdE h
  refine bs_W.mk [(0, .ref m), (1, .int p1)] (by intro q hq; simp only [List.mem_cons, List.not_mem_nil, or_false] at hq; rcases hq with rfl | rfl <;> rfl) ?_
  refine wFX12_condition_l5 HM h_rU _ _ k12 hR ?_
  intro s e hR
  subst e
  cases h
  exact bs_vret dX12_condition_46 rfl (Nat.zero_le _) (Nat.zero_le _) (kr _ rfl hR)
noncomputable def FX12_term_j30_L4 (m : Nat) (rS : bs_Mm → Option (bs_Mm)) (mu : bs_Mm) : Option ((bs_Mm) ⊕ (bs_Mm)) :=
  fg_b2 (FX12_look m mu) (fun v8 mu7 => 
  fg_wr mu7 m 8 (.int ((bs_iv (mu7 m 8)) + (nI 1))) (fun mu9 => 
  fg_bd (FX12_atom m rS mu9) (fun mu11 => 
  fg_bd (FX12_say m mu11 v8) (fun mu13 => 
  some (.inl mu13)))))
set_option maxHeartbeats 4000000 in
theorem wFX12_term_j30_L4 {nx : Nat} {sh : bs_Sh} {R : Nat → Nat → Option Nat} {m : Nat} (HM : fg_S (bs_tM m) R m sh) {rS : bs_Mm → Option (bs_Mm)} {d_rS : Nat} (h_rS : ∀ {mu : bs_Mm} {q : bs_Mm}, fg_R R mu → rS mu = some q → bs_C mX12_sum (bs_rm d_rS 0 0) [.ref m] nx sh mu (fg_po R nx sh none q)) {mu : bs_Mm} {Ph : bs_Po} {r : (bs_Mm) ⊕ (bs_Mm)} (ka : ∀ s, r = .inl s → fg_R R s → bs_W Ph mX12_term (bs_rm (d_rS + 4) 0 0) 4 (bs_mk [(0, .ref m)]) [] 0 0 nx sh s) (ke : ∀ s, r = .inr s → fg_R R s → bs_W Ph mX12_term (bs_rm (d_rS + 4) 0 0) 57 (bs_mk [(0, .ref m)]) [] 0 0 nx sh s) (hR : fg_R R mu) (h : FX12_term_j30_L4 m rS mu = some r) : bs_W Ph mX12_term (bs_rm (d_rS + 4) 0 0) 30 (bs_mk [(0, .ref m)]) [] 0 0 nx sh mu := by
  unfold FX12_term_j30_L4 at h
  refine bs_aload_n dX12_term_30 rfl ?_
  obtain ⟨v8, mu7, k6, h⟩ := fg_b2E h
  refine fg_callV dX12_term_31 qX12_180 (wX12_look HM hR k6) rfl (HM.s 0 rfl rfl rfl) rfl (Nat.le_of_ble_eq_true rfl) (fg_cr (by first | decide | omega) (by decide)) (fun hR => ?_)
  refine bs_istore_n dX12_term_34 rfl (by decide) ?_
  refine bs_aload_n dX12_term_35 rfl ?_
  refine bs_dup dX12_term_36 rfl ?_
  refine bs_getI dX12_term_37 fX12_135 (HM.s 0 rfl rfl rfl) ?_
  refine bs_iconst (v := (nI 1)) dX12_term_40 (by decide) ?_
  refine bs_iadd dX12_term_41 ?_
  refine fg_putI dX12_term_42 pX12_135 (HM.s 0 rfl rfl rfl) (HM.n 0 8 rfl rfl rfl) hR h (fun mu9 hR h => ?_)
  refine bs_aload_n dX12_term_45 rfl ?_
  obtain ⟨mu11, k10, h⟩ := fg_bdE h
  refine fg_callVv dX12_term_46 qX12_227 (wX12_atom HM h_rS hR k10) rfl (HM.s 0 rfl rfl rfl) rfl (Nat.le_of_ble_eq_true rfl) (fg_cr (by first | decide | omega) (by decide)) (fun hR => ?_)
  refine bs_aload_n dX12_term_49 rfl ?_
  refine bs_iload_n dX12_term_50 rfl ?_
  obtain ⟨mu13, k12, h⟩ := fg_bdE h
  refine fg_callVv dX12_term_51 qX12_211 (wX12_say HM hR k12) rfl (HM.s 0 rfl rfl rfl) rfl (Nat.le_of_ble_eq_true rfl) (fg_cr (by first | decide | omega) (by decide)) (fun hR => ?_)
  refine bs_goto (tgt := 4) dX12_term_54 (by decide) ?_
  cases h
  refine bs_W.mk [(0, .ref m)] (by intro q hq; simp only [List.mem_cons, List.not_mem_nil, or_false] at hq; rcases hq with rfl; rfl) (ka _ rfl hR)
noncomputable def FX12_term_b4 (m : Nat) (rS : bs_Mm → Option (bs_Mm))  (s : bs_Mm) : Option ((bs_Mm) ⊕ (bs_Mm)) :=
  if (bs_iv (s m 9)) = (-1) then (
    fg_b2 (FX12_look m s) (fun v5 mu4 => 
    if v5 = (nI 42) then (
      FX12_term_j30_L4 m rS mu4
    ) else (
      fg_b2 (FX12_look m mu4) (fun v16 mu15 => 
      if v16 = (nI 47) then (
        FX12_term_j30_L4 m rS mu15
      ) else (
        some (.inr mu15)
      ))
    ))
  ) else (
    some (.inr s)
  )
set_option maxHeartbeats 4000000 in
theorem wFX12_term_b4 {nx : Nat} {sh : bs_Sh} {R : Nat → Nat → Option Nat} {m : Nat} (HM : fg_S (bs_tM m) R m sh) {rS : bs_Mm → Option (bs_Mm)} {d_rS : Nat} (h_rS : ∀ {mu : bs_Mm} {q : bs_Mm}, fg_R R mu → rS mu = some q → bs_C mX12_sum (bs_rm d_rS 0 0) [.ref m] nx sh mu (fg_po R nx sh none q)) {Ph : bs_Po} {s : bs_Mm} {r : (bs_Mm) ⊕ (bs_Mm)} (ka : ∀ s, r = .inl s → fg_R R s → bs_W Ph mX12_term (bs_rm (d_rS + 4) 0 0) 4 (bs_mk [(0, .ref m)]) [] 0 0 nx sh s) (ke : ∀ s, r = .inr s → fg_R R s → bs_W Ph mX12_term (bs_rm (d_rS + 4) 0 0) 57 (bs_mk [(0, .ref m)]) [] 0 0 nx sh s) (hR : fg_R R s) (h : FX12_term_b4 m rS s = some r) : bs_W Ph mX12_term (bs_rm (d_rS + 4) 0 0) 4 (bs_mk [(0, .ref m)]) [] 0 0 nx sh s := by
  unfold FX12_term_b4 at h
  refine bs_aload_n dX12_term_4 rfl ?_
  refine bs_getI dX12_term_5 fX12_142 (HM.s 0 rfl rfl rfl) ?_
  refine bs_iconst (v := (-1)) dX12_term_8 (by decide) ?_
  refine bs_icmp_ne (tgt := 57) dX12_term_9 (by decide) (fun c => ?_) (fun c => ?_)
  · replace h := fg_iN c h
    cases h
    refine bs_W.mk [(0, .ref m)] (by intro q hq; simp only [List.mem_cons, List.not_mem_nil, or_false] at hq; rcases hq with rfl; rfl) (ke _ rfl hR)
  · replace h := fg_ip c h
    refine bs_aload_n dX12_term_12 rfl ?_
    obtain ⟨v5, mu4, k3, h⟩ := fg_b2E h
    refine fg_callV dX12_term_13 qX12_180 (wX12_look HM hR k3) rfl (HM.s 0 rfl rfl rfl) rfl (Nat.le_of_ble_eq_true rfl) (fg_cr (by first | decide | omega) (by decide)) (fun hR => ?_)
    refine bs_bipush (v := (nI 42)) dX12_term_16 (by decide) ?_
    refine bs_icmp_eq (tgt := 30) dX12_term_18 (by decide) (fun c => ?_) (fun c => ?_)
    · replace h := fg_ip c h
      refine bs_W.mk [(0, .ref m)] (by intro q hq; simp only [List.mem_cons, List.not_mem_nil, or_false] at hq; rcases hq with rfl; rfl) ?_
      exact wFX12_term_j30_L4 HM h_rS ka ke hR h
    · replace h := fg_iN c h
      refine bs_aload_n dX12_term_21 rfl ?_
      obtain ⟨v16, mu15, k14, h⟩ := fg_b2E h
      refine fg_callV dX12_term_22 qX12_180 (wX12_look HM hR k14) rfl (HM.s 0 rfl rfl rfl) rfl (Nat.le_of_ble_eq_true rfl) (fg_cr (by first | decide | omega) (by decide)) (fun hR => ?_)
      refine bs_bipush (v := (nI 47)) dX12_term_25 (by decide) ?_
      refine bs_icmp_ne (tgt := 57) dX12_term_27 (by decide) (fun c => ?_) (fun c => ?_)
      · replace h := fg_iN c h
        cases h
        refine bs_W.mk [(0, .ref m)] (by intro q hq; simp only [List.mem_cons, List.not_mem_nil, or_false] at hq; rcases hq with rfl; rfl) (ke _ rfl hR)
      · replace h := fg_ip c h
        refine bs_W.mk [(0, .ref m)] (by intro q hq; simp only [List.mem_cons, List.not_mem_nil, or_false] at hq; rcases hq with rfl; rfl) ?_
        exact wFX12_term_j30_L4 HM h_rS ka ke hR h
theorem wFX12_term_l4 {nx : Nat} {sh : bs_Sh} {R : Nat → Nat → Option Nat} {m : Nat} (HM : fg_S (bs_tM m) R m sh) {rS : bs_Mm → Option (bs_Mm)} {d_rS : Nat} (h_rS : ∀ {mu : bs_Mm} {q : bs_Mm}, fg_R R mu → rS mu = some q → bs_C mX12_sum (bs_rm d_rS 0 0) [.ref m] nx sh mu (fg_po R nx sh none q)) {Ph : bs_Po} {t : bs_Mm} : ∀ n (mu1 : bs_Mm), fg_lp (FX12_term_b4 m rS) n mu1 = some t → fg_R R mu1 → (ke : ∀ s, t = s → fg_R R s → bs_W Ph mX12_term (bs_rm (d_rS + 4) 0 0) 57 (bs_mk [(0, .ref m)]) [] 0 0 nx sh s) → bs_W Ph mX12_term (bs_rm (d_rS + 4) 0 0) 4 (bs_mk [(0, .ref m)]) [] 0 0 nx sh mu1 := by
  intro n
  induction n with
  | zero => intro mu1 h; exact absurd h (fun z => fg_lp0 z)
  | succ n ih =>
    intro mu1 h hR ke
    obtain ⟨r, hb, h1, h2⟩ := fg_lpE h
    exact wFX12_term_b4 (s := mu1) HM h_rS (fun s' e hR' => ih s' (h1 s' e) hR' ke) (fun s' e => ke s' (h2 _ e).symm) hR hb
noncomputable def FX12_term (m : Nat) (rS : bs_Mm → Option (bs_Mm)) (mu : bs_Mm) : Option (bs_Mm) :=
  fg_bd (FX12_atom m rS mu) (fun mu2 => 
  fg_bd (fg_lp (FX12_term_b4 m rS) fg_fu mu2) (fun t17 => 
    some t17
  ))
set_option maxHeartbeats 4000000 in
theorem wX12_term {nx : Nat} {sh : bs_Sh} {R : Nat → Nat → Option Nat} {m : Nat} (HM : fg_S (bs_tM m) R m sh) {rS : bs_Mm → Option (bs_Mm)} {d_rS : Nat} (h_rS : ∀ {mu : bs_Mm} {q : bs_Mm}, fg_R R mu → rS mu = some q → bs_C mX12_sum (bs_rm d_rS 0 0) [.ref m] nx sh mu (fg_po R nx sh none q)) {mu : bs_Mm} (hR : fg_R R mu) {r : bs_Mm} (h : FX12_term m rS mu = some r) : bs_C mX12_term (bs_rm (d_rS + 4) 0 0) [.ref m] nx sh mu (fg_po R nx sh none r) := by
  refine bs_ct (by decide +kernel) (Nat.le_of_ble_eq_true rfl) ?_
  have kr : ∀ q, r = q → fg_R R q → (fg_po R nx sh none r) none nx sh q := fun q e hq => by subst e; exact ⟨rfl, rfl, rfl, rfl, hq⟩
  unfold FX12_term at h
  refine bs_aload_n dX12_term_0 rfl ?_
  obtain ⟨mu2, k1, h⟩ := fg_bdE h
  refine fg_callVv dX12_term_1 qX12_227 (wX12_atom HM h_rS hR k1) rfl (HM.s 0 rfl rfl rfl) rfl (Nat.le_of_ble_eq_true rfl) (fg_cr (by first | decide | omega) (by decide)) (fun hR => ?_)
  obtain ⟨t17, k18, h⟩ := fg_bdE h
  refine bs_W.mk [(0, .ref m)] (by intro q hq; simp only [List.mem_cons, List.not_mem_nil, or_false] at hq; rcases hq with rfl; rfl) ?_
  refine wFX12_term_l4 HM h_rS _ _ k18 hR ?_
  intro s e hR
  subst e
  cases h
  exact bs_vret dX12_term_57 rfl (Nat.zero_le _) (Nat.zero_le _) (kr _ rfl hR)
noncomputable def FX12_sum_j30_L4 (m : Nat) (rS : bs_Mm → Option (bs_Mm)) (mu : bs_Mm) : Option ((bs_Mm) ⊕ (bs_Mm)) :=
  fg_b2 (FX12_look m mu) (fun v8 mu7 => 
  fg_wr mu7 m 8 (.int ((bs_iv (mu7 m 8)) + (nI 1))) (fun mu9 => 
  fg_bd (FX12_term m rS mu9) (fun mu11 => 
  fg_bd (FX12_say m mu11 v8) (fun mu13 => 
  some (.inl mu13)))))
set_option maxHeartbeats 4000000 in
theorem wFX12_sum_j30_L4 {nx : Nat} {sh : bs_Sh} {R : Nat → Nat → Option Nat} {m : Nat} (HM : fg_S (bs_tM m) R m sh) {rS : bs_Mm → Option (bs_Mm)} {d_rS : Nat} (h_rS : ∀ {mu : bs_Mm} {q : bs_Mm}, fg_R R mu → rS mu = some q → bs_C mX12_sum (bs_rm d_rS 0 0) [.ref m] nx sh mu (fg_po R nx sh none q)) {mu : bs_Mm} {Ph : bs_Po} {r : (bs_Mm) ⊕ (bs_Mm)} (ka : ∀ s, r = .inl s → fg_R R s → bs_W Ph mX12_sum (bs_rm (d_rS + 5) 0 0) 4 (bs_mk [(0, .ref m)]) [] 0 0 nx sh s) (ke : ∀ s, r = .inr s → fg_R R s → bs_W Ph mX12_sum (bs_rm (d_rS + 5) 0 0) 57 (bs_mk [(0, .ref m)]) [] 0 0 nx sh s) (hR : fg_R R mu) (h : FX12_sum_j30_L4 m rS mu = some r) : bs_W Ph mX12_sum (bs_rm (d_rS + 5) 0 0) 30 (bs_mk [(0, .ref m)]) [] 0 0 nx sh mu := by
  unfold FX12_sum_j30_L4 at h
  refine bs_aload_n dX12_sum_30 rfl ?_
  obtain ⟨v8, mu7, k6, h⟩ := fg_b2E h
  refine fg_callV dX12_sum_31 qX12_180 (wX12_look HM hR k6) rfl (HM.s 0 rfl rfl rfl) rfl (Nat.le_of_ble_eq_true rfl) (fg_cr (by first | decide | omega) (by decide)) (fun hR => ?_)
  refine bs_istore_n dX12_sum_34 rfl (by decide) ?_
  refine bs_aload_n dX12_sum_35 rfl ?_
  refine bs_dup dX12_sum_36 rfl ?_
  refine bs_getI dX12_sum_37 fX12_135 (HM.s 0 rfl rfl rfl) ?_
  refine bs_iconst (v := (nI 1)) dX12_sum_40 (by decide) ?_
  refine bs_iadd dX12_sum_41 ?_
  refine fg_putI dX12_sum_42 pX12_135 (HM.s 0 rfl rfl rfl) (HM.n 0 8 rfl rfl rfl) hR h (fun mu9 hR h => ?_)
  refine bs_aload_n dX12_sum_45 rfl ?_
  obtain ⟨mu11, k10, h⟩ := fg_bdE h
  refine fg_callVv dX12_sum_46 qX12_230 (wX12_term HM h_rS hR k10) rfl (HM.s 0 rfl rfl rfl) rfl (Nat.le_of_ble_eq_true rfl) (fg_cr (by first | decide | omega) (by decide)) (fun hR => ?_)
  refine bs_aload_n dX12_sum_49 rfl ?_
  refine bs_iload_n dX12_sum_50 rfl ?_
  obtain ⟨mu13, k12, h⟩ := fg_bdE h
  refine fg_callVv dX12_sum_51 qX12_211 (wX12_say HM hR k12) rfl (HM.s 0 rfl rfl rfl) rfl (Nat.le_of_ble_eq_true rfl) (fg_cr (by first | decide | omega) (by decide)) (fun hR => ?_)
  refine bs_goto (tgt := 4) dX12_sum_54 (by decide) ?_
  cases h
  refine bs_W.mk [(0, .ref m)] (by intro q hq; simp only [List.mem_cons, List.not_mem_nil, or_false] at hq; rcases hq with rfl; rfl) (ka _ rfl hR)
noncomputable def FX12_sum_b4 (m : Nat) (rS : bs_Mm → Option (bs_Mm))  (s : bs_Mm) : Option ((bs_Mm) ⊕ (bs_Mm)) :=
  if (bs_iv (s m 9)) = (-1) then (
    fg_b2 (FX12_look m s) (fun v5 mu4 => 
    if v5 = (nI 43) then (
      FX12_sum_j30_L4 m rS mu4
    ) else (
      fg_b2 (FX12_look m mu4) (fun v16 mu15 => 
      if v16 = (nI 45) then (
        FX12_sum_j30_L4 m rS mu15
      ) else (
        some (.inr mu15)
      ))
    ))
  ) else (
    some (.inr s)
  )
set_option maxHeartbeats 4000000 in
theorem wFX12_sum_b4 {nx : Nat} {sh : bs_Sh} {R : Nat → Nat → Option Nat} {m : Nat} (HM : fg_S (bs_tM m) R m sh) {rS : bs_Mm → Option (bs_Mm)} {d_rS : Nat} (h_rS : ∀ {mu : bs_Mm} {q : bs_Mm}, fg_R R mu → rS mu = some q → bs_C mX12_sum (bs_rm d_rS 0 0) [.ref m] nx sh mu (fg_po R nx sh none q)) {Ph : bs_Po} {s : bs_Mm} {r : (bs_Mm) ⊕ (bs_Mm)} (ka : ∀ s, r = .inl s → fg_R R s → bs_W Ph mX12_sum (bs_rm (d_rS + 5) 0 0) 4 (bs_mk [(0, .ref m)]) [] 0 0 nx sh s) (ke : ∀ s, r = .inr s → fg_R R s → bs_W Ph mX12_sum (bs_rm (d_rS + 5) 0 0) 57 (bs_mk [(0, .ref m)]) [] 0 0 nx sh s) (hR : fg_R R s) (h : FX12_sum_b4 m rS s = some r) : bs_W Ph mX12_sum (bs_rm (d_rS + 5) 0 0) 4 (bs_mk [(0, .ref m)]) [] 0 0 nx sh s := by
  unfold FX12_sum_b4 at h
  refine bs_aload_n dX12_sum_4 rfl ?_
  refine bs_getI dX12_sum_5 fX12_142 (HM.s 0 rfl rfl rfl) ?_
  refine bs_iconst (v := (-1)) dX12_sum_8 (by decide) ?_
  refine bs_icmp_ne (tgt := 57) dX12_sum_9 (by decide) (fun c => ?_) (fun c => ?_)
  · replace h := fg_iN c h
    cases h
    refine bs_W.mk [(0, .ref m)] (by intro q hq; simp only [List.mem_cons, List.not_mem_nil, or_false] at hq; rcases hq with rfl; rfl) (ke _ rfl hR)
  · replace h := fg_ip c h
    refine bs_aload_n dX12_sum_12 rfl ?_
    obtain ⟨v5, mu4, k3, h⟩ := fg_b2E h
    refine fg_callV dX12_sum_13 qX12_180 (wX12_look HM hR k3) rfl (HM.s 0 rfl rfl rfl) rfl (Nat.le_of_ble_eq_true rfl) (fg_cr (by first | decide | omega) (by decide)) (fun hR => ?_)
    refine bs_bipush (v := (nI 43)) dX12_sum_16 (by decide) ?_
    refine bs_icmp_eq (tgt := 30) dX12_sum_18 (by decide) (fun c => ?_) (fun c => ?_)
    · replace h := fg_ip c h
      refine bs_W.mk [(0, .ref m)] (by intro q hq; simp only [List.mem_cons, List.not_mem_nil, or_false] at hq; rcases hq with rfl; rfl) ?_
      exact wFX12_sum_j30_L4 HM h_rS ka ke hR h
    · replace h := fg_iN c h
      refine bs_aload_n dX12_sum_21 rfl ?_
      obtain ⟨v16, mu15, k14, h⟩ := fg_b2E h
      refine fg_callV dX12_sum_22 qX12_180 (wX12_look HM hR k14) rfl (HM.s 0 rfl rfl rfl) rfl (Nat.le_of_ble_eq_true rfl) (fg_cr (by first | decide | omega) (by decide)) (fun hR => ?_)
      refine bs_bipush (v := (nI 45)) dX12_sum_25 (by decide) ?_
      refine bs_icmp_ne (tgt := 57) dX12_sum_27 (by decide) (fun c => ?_) (fun c => ?_)
      · replace h := fg_iN c h
        cases h
        refine bs_W.mk [(0, .ref m)] (by intro q hq; simp only [List.mem_cons, List.not_mem_nil, or_false] at hq; rcases hq with rfl; rfl) (ke _ rfl hR)
      · replace h := fg_ip c h
        refine bs_W.mk [(0, .ref m)] (by intro q hq; simp only [List.mem_cons, List.not_mem_nil, or_false] at hq; rcases hq with rfl; rfl) ?_
        exact wFX12_sum_j30_L4 HM h_rS ka ke hR h
theorem wFX12_sum_l4 {nx : Nat} {sh : bs_Sh} {R : Nat → Nat → Option Nat} {m : Nat} (HM : fg_S (bs_tM m) R m sh) {rS : bs_Mm → Option (bs_Mm)} {d_rS : Nat} (h_rS : ∀ {mu : bs_Mm} {q : bs_Mm}, fg_R R mu → rS mu = some q → bs_C mX12_sum (bs_rm d_rS 0 0) [.ref m] nx sh mu (fg_po R nx sh none q)) {Ph : bs_Po} {t : bs_Mm} : ∀ n (mu1 : bs_Mm), fg_lp (FX12_sum_b4 m rS) n mu1 = some t → fg_R R mu1 → (ke : ∀ s, t = s → fg_R R s → bs_W Ph mX12_sum (bs_rm (d_rS + 5) 0 0) 57 (bs_mk [(0, .ref m)]) [] 0 0 nx sh s) → bs_W Ph mX12_sum (bs_rm (d_rS + 5) 0 0) 4 (bs_mk [(0, .ref m)]) [] 0 0 nx sh mu1 := by
  intro n
  induction n with
  | zero => intro mu1 h; exact absurd h (fun z => fg_lp0 z)
  | succ n ih =>
    intro mu1 h hR ke
    obtain ⟨r, hb, h1, h2⟩ := fg_lpE h
    exact wFX12_sum_b4 (s := mu1) HM h_rS (fun s' e hR' => ih s' (h1 s' e) hR' ke) (fun s' e => ke s' (h2 _ e).symm) hR hb
noncomputable def FX12_sum (m : Nat) (rS : bs_Mm → Option (bs_Mm)) (mu : bs_Mm) : Option (bs_Mm) :=
  fg_bd (FX12_term m rS mu) (fun mu2 => 
  fg_bd (fg_lp (FX12_sum_b4 m rS) fg_fu mu2) (fun t17 => 
    some t17
  ))
set_option maxHeartbeats 4000000 in
theorem wX12_sum {nx : Nat} {sh : bs_Sh} {R : Nat → Nat → Option Nat} {m : Nat} (HM : fg_S (bs_tM m) R m sh) {rS : bs_Mm → Option (bs_Mm)} {d_rS : Nat} (h_rS : ∀ {mu : bs_Mm} {q : bs_Mm}, fg_R R mu → rS mu = some q → bs_C mX12_sum (bs_rm d_rS 0 0) [.ref m] nx sh mu (fg_po R nx sh none q)) {mu : bs_Mm} (hR : fg_R R mu) {r : bs_Mm} (h : FX12_sum m rS mu = some r) : bs_C mX12_sum (bs_rm (d_rS + 5) 0 0) [.ref m] nx sh mu (fg_po R nx sh none r) := by
  refine bs_ct (by decide +kernel) (Nat.le_of_ble_eq_true rfl) ?_
  have kr : ∀ q, r = q → fg_R R q → (fg_po R nx sh none r) none nx sh q := fun q e hq => by subst e; exact ⟨rfl, rfl, rfl, rfl, hq⟩
  unfold FX12_sum at h
  refine bs_aload_n dX12_sum_0 rfl ?_
  obtain ⟨mu2, k1, h⟩ := fg_bdE h
  refine fg_callVv dX12_sum_1 qX12_230 (wX12_term HM h_rS hR k1) rfl (HM.s 0 rfl rfl rfl) rfl (Nat.le_of_ble_eq_true rfl) (fg_cr (by first | decide | omega) (by decide)) (fun hR => ?_)
  obtain ⟨t17, k18, h⟩ := fg_bdE h
  refine bs_W.mk [(0, .ref m)] (by intro q hq; simp only [List.mem_cons, List.not_mem_nil, or_false] at hq; rcases hq with rfl; rfl) ?_
  refine wFX12_sum_l4 HM h_rS _ _ k18 hR ?_
  intro s e hR
  subst e
  cases h
  exact bs_vret dX12_sum_57 rfl (Nat.zero_le _) (Nat.zero_le _) (kr _ rfl hR)
noncomputable def fg_rS (m : Nat) : Nat → bs_Mm → Option (bs_Mm)
  | 0 => fun _ => none
  | n + 1 => FX12_sum m (fg_rS m n)
theorem wfg_rS {nx : Nat} {sh : bs_Sh} {R : Nat → Nat → Option Nat} {m : Nat} (HM : fg_S (bs_tM m) R m sh) : ∀ (n : Nat) {mu : bs_Mm} {q : bs_Mm}, fg_R R mu → fg_rS m n mu = some q → bs_C mX12_sum (bs_rm (5 * n) 0 0) [.ref m] nx sh mu (fg_po R nx sh none q) := by
  intro n
  induction n with
  | zero => intro mu q hR h; cases h
  | succ n ih =>
    intro mu q hR h
    exact wX12_sum HM ih hR h
noncomputable def FX12_unit_j136 (m : Nat) (rU : bs_Mm → Int32 → Option (bs_Mm)) (mu : bs_Mm) (l2 : Int32) : Option (bs_Mm) :=
  fg_wr mu m 8 (.int ((bs_iv (mu m 8)) + (nI 1))) (fun mu1 => 
  fg_bd (FX12_sum m (fg_rS m 8) mu1) (fun mu3 => 
  fg_bd (FX12_say m mu3 l2) (fun mu5 => 
  some mu5)))
set_option maxHeartbeats 4000000 in
theorem wFX12_unit_j136 {nx : Nat} {sh : bs_Sh} {R : Nat → Nat → Option Nat} {m : Nat} (HM : fg_S (bs_tM m) R m sh) {rU : bs_Mm → Int32 → Option (bs_Mm)} {d_rU : Nat} (h_rU : ∀ {mu : bs_Mm} {a0 : Int32} {q : bs_Mm}, fg_R R mu → rU mu a0 = some q → bs_C mX12_unit (bs_rm d_rU 0 0) [.ref m, .int a0] nx sh mu (fg_po R nx sh none q)) {mu : bs_Mm} {l2 : Int32} {Ph : bs_Po} {r : bs_Mm} (kr : ∀ q, r = q → fg_R R q → Ph none nx sh q) (hR : fg_R R mu) (h : FX12_unit_j136 m rU mu l2 = some r) : bs_W Ph mX12_unit (bs_rm (d_rU + 46) 0 0) 136 (bs_mk [(0, .ref m), (2, .int l2)]) [] 0 0 nx sh mu := by
  unfold FX12_unit_j136 at h
  refine bs_aload_n dX12_unit_136 rfl ?_
  refine bs_dup dX12_unit_137 rfl ?_
  refine bs_getI dX12_unit_138 fX12_135 (HM.s 0 rfl rfl rfl) ?_
  refine bs_iconst (v := (nI 1)) dX12_unit_141 (by decide) ?_
  refine bs_iadd dX12_unit_142 ?_
  refine fg_putI dX12_unit_143 pX12_135 (HM.s 0 rfl rfl rfl) (HM.n 0 8 rfl rfl rfl) hR h (fun mu1 hR h => ?_)
  refine bs_aload_n dX12_unit_146 rfl ?_
  obtain ⟨mu3, k2, h⟩ := fg_bdE h
  refine fg_callVv dX12_unit_147 qX12_221 (wX12_sum HM (wfg_rS HM 8) hR k2) rfl (HM.s 0 rfl rfl rfl) rfl (Nat.le_of_ble_eq_true rfl) (fg_cr (by first | decide | omega) (by decide)) (fun hR => ?_)
  refine bs_aload_n dX12_unit_150 rfl ?_
  refine bs_iload_n dX12_unit_151 rfl ?_
  obtain ⟨mu5, k4, h⟩ := fg_bdE h
  refine fg_callVv dX12_unit_152 qX12_211 (wX12_say HM hR k4) rfl (HM.s 0 rfl rfl rfl) rfl (Nat.le_of_ble_eq_true rfl) (fg_cr (by first | decide | omega) (by decide)) (fun hR => ?_)
  cases h
  exact bs_vret dX12_unit_155 rfl (Nat.zero_le _) (Nat.zero_le _) (kr _ rfl hR)
noncomputable def FX12_unit_j112 (m : Nat) (rU : bs_Mm → Int32 → Option (bs_Mm)) (mu : bs_Mm) (t0 : Int32) : Option (bs_Mm) :=
  if t0 = (nI 61) then (
    FX12_unit_j136 m rU mu t0
  ) else (
    if t0 = (nI 60) then (
      FX12_unit_j136 m rU mu t0
    ) else (
      if t0 = (nI 62) then (
        FX12_unit_j136 m rU mu t0
      ) else (
        fg_bd (FX12_bad m mu) (fun mu7 => 
        some mu7)
      )
    )
  )
set_option maxHeartbeats 4000000 in
theorem wFX12_unit_j112 {nx : Nat} {sh : bs_Sh} {R : Nat → Nat → Option Nat} {m : Nat} (HM : fg_S (bs_tM m) R m sh) {rU : bs_Mm → Int32 → Option (bs_Mm)} {d_rU : Nat} (h_rU : ∀ {mu : bs_Mm} {a0 : Int32} {q : bs_Mm}, fg_R R mu → rU mu a0 = some q → bs_C mX12_unit (bs_rm d_rU 0 0) [.ref m, .int a0] nx sh mu (fg_po R nx sh none q)) {mu : bs_Mm} {t0 : Int32} {Ph : bs_Po} {r : bs_Mm} (kr : ∀ q, r = q → fg_R R q → Ph none nx sh q) (hR : fg_R R mu) (h : FX12_unit_j112 m rU mu t0 = some r) : bs_W Ph mX12_unit (bs_rm (d_rU + 46) 0 0) 112 (bs_mk [(0, .ref m)]) [.int t0] 0 0 nx sh mu := by
  unfold FX12_unit_j112 at h
  refine bs_istore0_n (j := 1) dX12_unit_112 rfl rfl (by decide) ?_
  refine bs_iload_n dX12_unit_113 rfl ?_
  refine bs_bipush (v := (nI 61)) dX12_unit_114 (by decide) ?_
  refine bs_icmp_eq (tgt := 136) dX12_unit_116 (by decide) (fun c => ?_) (fun c => ?_)
  · replace h := fg_ip c h
    refine bs_W.mk [(0, .ref m), (2, .int t0)] (by intro q hq; simp only [List.mem_cons, List.not_mem_nil, or_false] at hq; rcases hq with rfl | rfl <;> rfl) ?_
    exact wFX12_unit_j136 HM h_rU kr hR h
  · replace h := fg_iN c h
    refine bs_iload_n dX12_unit_119 rfl ?_
    refine bs_bipush (v := (nI 60)) dX12_unit_120 (by decide) ?_
    refine bs_icmp_eq (tgt := 136) dX12_unit_122 (by decide) (fun c => ?_) (fun c => ?_)
    · replace h := fg_ip c h
      refine bs_W.mk [(0, .ref m), (2, .int t0)] (by intro q hq; simp only [List.mem_cons, List.not_mem_nil, or_false] at hq; rcases hq with rfl | rfl <;> rfl) ?_
      exact wFX12_unit_j136 HM h_rU kr hR h
    · replace h := fg_iN c h
      refine bs_iload_n dX12_unit_125 rfl ?_
      refine bs_bipush (v := (nI 62)) dX12_unit_126 (by decide) ?_
      refine bs_icmp_eq (tgt := 136) dX12_unit_128 (by decide) (fun c => ?_) (fun c => ?_)
      · replace h := fg_ip c h
        refine bs_W.mk [(0, .ref m), (2, .int t0)] (by intro q hq; simp only [List.mem_cons, List.not_mem_nil, or_false] at hq; rcases hq with rfl | rfl <;> rfl) ?_
        exact wFX12_unit_j136 HM h_rU kr hR h
      · replace h := fg_iN c h
        refine bs_aload_n dX12_unit_131 rfl ?_
        obtain ⟨mu7, k6, h⟩ := fg_bdE h
        refine fg_callVv dX12_unit_132 qX12_164 (wX12_bad HM hR k6) rfl (HM.s 0 rfl rfl rfl) rfl (Nat.le_of_ble_eq_true rfl) (fg_cr (by first | decide | omega) (by decide)) (fun hR => ?_)
        cases h
        exact bs_vret dX12_unit_135 rfl (Nat.zero_le _) (Nat.zero_le _) (kr _ rfl hR)
noncomputable def FX12_unit_j96 (m : Nat) (rU : bs_Mm → Int32 → Option (bs_Mm)) (mu : bs_Mm) : Option (bs_Mm) :=
  if (bs_iv (mu m 9)) = (-1) then (
    fg_b2 (FX12_look m mu) (fun v10 mu9 => 
    FX12_unit_j112 m rU mu9 v10)
  ) else (
    FX12_unit_j112 m rU mu (-1)
  )
set_option maxHeartbeats 4000000 in
theorem wFX12_unit_j96 {nx : Nat} {sh : bs_Sh} {R : Nat → Nat → Option Nat} {m : Nat} (HM : fg_S (bs_tM m) R m sh) {rU : bs_Mm → Int32 → Option (bs_Mm)} {d_rU : Nat} (h_rU : ∀ {mu : bs_Mm} {a0 : Int32} {q : bs_Mm}, fg_R R mu → rU mu a0 = some q → bs_C mX12_unit (bs_rm d_rU 0 0) [.ref m, .int a0] nx sh mu (fg_po R nx sh none q)) {mu : bs_Mm} {Ph : bs_Po} {r : bs_Mm} (kr : ∀ q, r = q → fg_R R q → Ph none nx sh q) (hR : fg_R R mu) (h : FX12_unit_j96 m rU mu = some r) : bs_W Ph mX12_unit (bs_rm (d_rU + 46) 0 0) 96 (bs_mk [(0, .ref m)]) [] 0 0 nx sh mu := by
  unfold FX12_unit_j96 at h
  refine bs_aload_n dX12_unit_96 rfl ?_
  refine bs_getI dX12_unit_97 fX12_142 (HM.s 0 rfl rfl rfl) ?_
  refine bs_iconst (v := (-1)) dX12_unit_100 (by decide) ?_
  refine bs_icmp_ne (tgt := 111) dX12_unit_101 (by decide) (fun c => ?_) (fun c => ?_)
  · replace h := fg_iN c h
    refine bs_iconst (v := (-1)) dX12_unit_111 (by decide) ?_
    refine bs_W.mk [(0, .ref m)] (by intro q hq; simp only [List.mem_cons, List.not_mem_nil, or_false] at hq; rcases hq with rfl; rfl) ?_
    exact wFX12_unit_j112 HM h_rU kr hR h
  · replace h := fg_ip c h
    refine bs_aload_n dX12_unit_104 rfl ?_
    obtain ⟨v10, mu9, k8, h⟩ := fg_b2E h
    refine fg_callV dX12_unit_105 qX12_180 (wX12_look HM hR k8) rfl (HM.s 0 rfl rfl rfl) rfl (Nat.le_of_ble_eq_true rfl) (fg_cr (by first | decide | omega) (by decide)) (fun hR => ?_)
    refine bs_goto (tgt := 112) dX12_unit_108 (by decide) ?_
    refine bs_W.mk [(0, .ref m)] (by intro q hq; simp only [List.mem_cons, List.not_mem_nil, or_false] at hq; rcases hq with rfl; rfl) ?_
    exact wFX12_unit_j112 HM h_rU kr hR h
noncomputable def FX12_unit_j88 (m : Nat) (rU : bs_Mm → Int32 → Option (bs_Mm)) (mu : bs_Mm) (l1 : Int32) : Option (bs_Mm) :=
  if l1 = 0 then (
    fg_bd (FX12_sum m (fg_rS m 8) mu) (fun mu12 => 
    FX12_unit_j96 m rU mu12)
  ) else (
    FX12_unit_j96 m rU mu
  )
set_option maxHeartbeats 4000000 in
theorem wFX12_unit_j88 {nx : Nat} {sh : bs_Sh} {R : Nat → Nat → Option Nat} {m : Nat} (HM : fg_S (bs_tM m) R m sh) {rU : bs_Mm → Int32 → Option (bs_Mm)} {d_rU : Nat} (h_rU : ∀ {mu : bs_Mm} {a0 : Int32} {q : bs_Mm}, fg_R R mu → rU mu a0 = some q → bs_C mX12_unit (bs_rm d_rU 0 0) [.ref m, .int a0] nx sh mu (fg_po R nx sh none q)) {mu : bs_Mm} {l1 : Int32} {Ph : bs_Po} {r : bs_Mm} (kr : ∀ q, r = q → fg_R R q → Ph none nx sh q) (hR : fg_R R mu) (h : FX12_unit_j88 m rU mu l1 = some r) : bs_W Ph mX12_unit (bs_rm (d_rU + 46) 0 0) 88 (bs_mk [(0, .ref m), (1, .int l1)]) [] 0 0 nx sh mu := by
  unfold FX12_unit_j88 at h
  refine bs_iload_n dX12_unit_88 rfl ?_
  refine bs_if_ne (tgt := 96) dX12_unit_89 (by decide) (fun c => ?_) (fun c => ?_)
  · replace h := fg_iN c h
    refine bs_W.mk [(0, .ref m)] (by intro q hq; simp only [List.mem_cons, List.not_mem_nil, or_false] at hq; rcases hq with rfl; rfl) ?_
    exact wFX12_unit_j96 HM h_rU kr hR h
  · replace h := fg_ip c h
    refine bs_aload_n dX12_unit_92 rfl ?_
    obtain ⟨mu12, k11, h⟩ := fg_bdE h
    refine fg_callVv dX12_unit_93 qX12_221 (wX12_sum HM (wfg_rS HM 8) hR k11) rfl (HM.s 0 rfl rfl rfl) rfl (Nat.le_of_ble_eq_true rfl) (fg_cr (by first | decide | omega) (by decide)) (fun hR => ?_)
    refine bs_W.mk [(0, .ref m)] (by intro q hq; simp only [List.mem_cons, List.not_mem_nil, or_false] at hq; rcases hq with rfl; rfl) ?_
    exact wFX12_unit_j96 HM h_rU kr hR h
noncomputable def FX12_unit_j33 (m : Nat) (rU : bs_Mm → Int32 → Option (bs_Mm)) (mu : bs_Mm) (l2 : Int32) : Option (bs_Mm) :=
  fg_bd (FX12_opens m mu) (fun mu14 => 
  if (bs_iv (mu14 m 9)) = (-1) then (
    if l2 = (nI 33) then (
      fg_bd (rU mu14 (nI 0)) (fun mu20 => 
      fg_wr mu20 m 10 (.int ((bs_iv (mu20 m 10)) - (nI 1))) (fun mu21 => 
      fg_bd (FX12_say m mu21 (nI 33)) (fun mu23 => 
      some mu23)))
    ) else (
      fg_bd (FX12_condition m rU mu14 (nI 0)) (fun mu16 => 
      fg_bd (FX12_sign m mu16 (nI 41)) (fun mu18 => 
      some mu18))
    )
  ) else (
    some mu14
  ))
set_option maxHeartbeats 4000000 in
theorem wFX12_unit_j33 {nx : Nat} {sh : bs_Sh} {R : Nat → Nat → Option Nat} {m : Nat} (HM : fg_S (bs_tM m) R m sh) {rU : bs_Mm → Int32 → Option (bs_Mm)} {d_rU : Nat} (h_rU : ∀ {mu : bs_Mm} {a0 : Int32} {q : bs_Mm}, fg_R R mu → rU mu a0 = some q → bs_C mX12_unit (bs_rm d_rU 0 0) [.ref m, .int a0] nx sh mu (fg_po R nx sh none q)) {mu : bs_Mm} {l2 : Int32} {Ph : bs_Po} {r : bs_Mm} (kr : ∀ q, r = q → fg_R R q → Ph none nx sh q) (hR : fg_R R mu) (h : FX12_unit_j33 m rU mu l2 = some r) : bs_W Ph mX12_unit (bs_rm (d_rU + 46) 0 0) 33 (bs_mk [(0, .ref m), (2, .int l2)]) [] 0 0 nx sh mu := by
  unfold FX12_unit_j33 at h
  refine bs_aload_n dX12_unit_33 rfl ?_
  obtain ⟨mu14, k13, h⟩ := fg_bdE h
  refine fg_callVv dX12_unit_34 qX12_218 (wX12_opens HM hR k13) rfl (HM.s 0 rfl rfl rfl) rfl (Nat.le_of_ble_eq_true rfl) (fg_cr (by first | decide | omega) (by decide)) (fun hR => ?_)
  refine bs_aload_n dX12_unit_37 rfl ?_
  refine bs_getI dX12_unit_38 fX12_142 (HM.s 0 rfl rfl rfl) ?_
  refine bs_iconst (v := (-1)) dX12_unit_41 (by decide) ?_
  refine bs_icmp_eq (tgt := 46) dX12_unit_42 (by decide) (fun c => ?_) (fun c => ?_)
  · replace h := fg_ip c h
    refine bs_iload_n dX12_unit_46 rfl ?_
    refine bs_bipush (v := (nI 33)) dX12_unit_47 (by decide) ?_
    refine bs_icmp_ne (tgt := 76) dX12_unit_49 (by decide) (fun c => ?_) (fun c => ?_)
    · replace h := fg_iN c h
      refine bs_aload_n dX12_unit_76 rfl ?_
      refine bs_iconst (v := (nI 0)) dX12_unit_77 (by decide) ?_
      obtain ⟨mu16, k15, h⟩ := fg_bdE h
      refine fg_callVv dX12_unit_78 qX12_237 (wX12_condition HM h_rU hR k15) rfl (HM.s 0 rfl rfl rfl) rfl (Nat.le_of_ble_eq_true rfl) (fg_cr (by first | decide | omega) (by decide)) (fun hR => ?_)
      refine bs_aload_n dX12_unit_81 rfl ?_
      refine bs_bipush (v := (nI 41)) dX12_unit_82 (by decide) ?_
      obtain ⟨mu18, k17, h⟩ := fg_bdE h
      refine fg_callVv dX12_unit_84 qX12_224 (wX12_sign HM hR k17) rfl (HM.s 0 rfl rfl rfl) rfl (Nat.le_of_ble_eq_true rfl) (fg_cr (by first | decide | omega) (by decide)) (fun hR => ?_)
      cases h
      exact bs_vret dX12_unit_87 rfl (Nat.zero_le _) (Nat.zero_le _) (kr _ rfl hR)
    · replace h := fg_ip c h
      refine bs_aload_n dX12_unit_52 rfl ?_
      refine bs_iconst (v := (nI 0)) dX12_unit_53 (by decide) ?_
      obtain ⟨mu20, k19, h⟩ := fg_bdE h
      refine fg_callVv dX12_unit_54 qX12_233 (h_rU hR k19) rfl (HM.s 0 rfl rfl rfl) rfl (Nat.le_of_ble_eq_true rfl) (fg_cr (by first | decide | omega) (by decide)) (fun hR => ?_)
      refine bs_aload_n dX12_unit_57 rfl ?_
      refine bs_dup dX12_unit_58 rfl ?_
      refine bs_getI dX12_unit_59 fX12_193 (HM.s 0 rfl rfl rfl) ?_
      refine bs_iconst (v := (nI 1)) dX12_unit_62 (by decide) ?_
      refine bs_isub dX12_unit_63 ?_
      refine fg_putI dX12_unit_64 pX12_193 (HM.s 0 rfl rfl rfl) (HM.n 0 10 rfl rfl rfl) hR h (fun mu21 hR h => ?_)
      refine bs_aload_n dX12_unit_67 rfl ?_
      refine bs_bipush (v := (nI 33)) dX12_unit_68 (by decide) ?_
      obtain ⟨mu23, k22, h⟩ := fg_bdE h
      refine fg_callVv dX12_unit_70 qX12_211 (wX12_say HM hR k22) rfl (HM.s 0 rfl rfl rfl) rfl (Nat.le_of_ble_eq_true rfl) (fg_cr (by first | decide | omega) (by decide)) (fun hR => ?_)
      refine bs_goto (tgt := 87) dX12_unit_73 (by decide) ?_
      cases h
      exact bs_vret dX12_unit_87 rfl (Nat.zero_le _) (Nat.zero_le _) (kr _ rfl hR)
  · replace h := fg_iN c h
    cases h
    exact bs_vret dX12_unit_45 rfl (Nat.zero_le _) (Nat.zero_le _) (kr _ rfl hR)
noncomputable def FX12_unit_j16 (m : Nat) (rU : bs_Mm → Int32 → Option (bs_Mm)) (mu : bs_Mm) (l1 : Int32) (t0 : Int32) : Option (bs_Mm) :=
  if l1 = 0 then (
    if t0 = (nI 33) then (
      FX12_unit_j33 m rU mu t0
    ) else (
      if t0 = (nI 40) then (
        FX12_unit_j33 m rU mu t0
      ) else (
        FX12_unit_j88 m rU mu l1
      )
    )
  ) else (
    FX12_unit_j88 m rU mu l1
  )
set_option maxHeartbeats 4000000 in
theorem wFX12_unit_j16 {nx : Nat} {sh : bs_Sh} {R : Nat → Nat → Option Nat} {m : Nat} (HM : fg_S (bs_tM m) R m sh) {rU : bs_Mm → Int32 → Option (bs_Mm)} {d_rU : Nat} (h_rU : ∀ {mu : bs_Mm} {a0 : Int32} {q : bs_Mm}, fg_R R mu → rU mu a0 = some q → bs_C mX12_unit (bs_rm d_rU 0 0) [.ref m, .int a0] nx sh mu (fg_po R nx sh none q)) {mu : bs_Mm} {l1 : Int32} {t0 : Int32} {Ph : bs_Po} {r : bs_Mm} (kr : ∀ q, r = q → fg_R R q → Ph none nx sh q) (hR : fg_R R mu) (h : FX12_unit_j16 m rU mu l1 t0 = some r) : bs_W Ph mX12_unit (bs_rm (d_rU + 46) 0 0) 16 (bs_mk [(0, .ref m), (1, .int l1)]) [.int t0] 0 0 nx sh mu := by
  unfold FX12_unit_j16 at h
  refine bs_istore_n dX12_unit_16 rfl (by decide) ?_
  refine bs_iload_n dX12_unit_17 rfl ?_
  refine bs_if_ne (tgt := 88) dX12_unit_18 (by decide) (fun c => ?_) (fun c => ?_)
  · replace h := fg_iN c h
    refine bs_W.mk [(0, .ref m), (1, .int l1)] (by intro q hq; simp only [List.mem_cons, List.not_mem_nil, or_false] at hq; rcases hq with rfl | rfl <;> rfl) ?_
    exact wFX12_unit_j88 HM h_rU kr hR h
  · replace h := fg_ip c h
    refine bs_iload_n dX12_unit_21 rfl ?_
    refine bs_bipush (v := (nI 33)) dX12_unit_22 (by decide) ?_
    refine bs_icmp_eq (tgt := 33) dX12_unit_24 (by decide) (fun c => ?_) (fun c => ?_)
    · replace h := fg_ip c h
      refine bs_W.mk [(0, .ref m), (2, .int t0)] (by intro q hq; simp only [List.mem_cons, List.not_mem_nil, or_false] at hq; rcases hq with rfl | rfl <;> rfl) ?_
      exact wFX12_unit_j33 HM h_rU kr hR h
    · replace h := fg_iN c h
      refine bs_iload_n dX12_unit_27 rfl ?_
      refine bs_bipush (v := (nI 40)) dX12_unit_28 (by decide) ?_
      refine bs_icmp_ne (tgt := 88) dX12_unit_30 (by decide) (fun c => ?_) (fun c => ?_)
      · replace h := fg_iN c h
        refine bs_W.mk [(0, .ref m), (1, .int l1)] (by intro q hq; simp only [List.mem_cons, List.not_mem_nil, or_false] at hq; rcases hq with rfl | rfl <;> rfl) ?_
        exact wFX12_unit_j88 HM h_rU kr hR h
      · replace h := fg_ip c h
        refine bs_W.mk [(0, .ref m), (2, .int t0)] (by intro q hq; simp only [List.mem_cons, List.not_mem_nil, or_false] at hq; rcases hq with rfl | rfl <;> rfl) ?_
        exact wFX12_unit_j33 HM h_rU kr hR h
noncomputable def FX12_unit (m : Nat) (rU : bs_Mm → Int32 → Option (bs_Mm)) (mu : bs_Mm) (p1 : Int32) : Option (bs_Mm) :=
  if (bs_iv (mu m 9)) = (-1) then (
    fg_b2 (FX12_look m mu) (fun v26 mu25 => 
    FX12_unit_j16 m rU mu25 p1 v26)
  ) else (
    FX12_unit_j16 m rU mu p1 (-1)
  )
set_option maxHeartbeats 4000000 in
theorem wX12_unit {nx : Nat} {sh : bs_Sh} {R : Nat → Nat → Option Nat} {m : Nat} (HM : fg_S (bs_tM m) R m sh) {rU : bs_Mm → Int32 → Option (bs_Mm)} {d_rU : Nat} (h_rU : ∀ {mu : bs_Mm} {a0 : Int32} {q : bs_Mm}, fg_R R mu → rU mu a0 = some q → bs_C mX12_unit (bs_rm d_rU 0 0) [.ref m, .int a0] nx sh mu (fg_po R nx sh none q)) {mu : bs_Mm} (hR : fg_R R mu) {p1 : Int32} {r : bs_Mm} (h : FX12_unit m rU mu p1 = some r) : bs_C mX12_unit (bs_rm (d_rU + 46) 0 0) [.ref m, .int p1] nx sh mu (fg_po R nx sh none r) := by
  refine bs_ct (by decide +kernel) (Nat.le_of_ble_eq_true rfl) ?_
  have kr : ∀ q, r = q → fg_R R q → (fg_po R nx sh none r) none nx sh q := fun q e hq => by subst e; exact ⟨rfl, rfl, rfl, rfl, hq⟩
  unfold FX12_unit at h
  refine bs_aload_n dX12_unit_0 rfl ?_
  refine bs_getI dX12_unit_1 fX12_142 (HM.s 0 rfl rfl rfl) ?_
  refine bs_iconst (v := (-1)) dX12_unit_4 (by decide) ?_
  refine bs_icmp_ne (tgt := 15) dX12_unit_5 (by decide) (fun c => ?_) (fun c => ?_)
  · replace h := fg_iN c h
    refine bs_iconst (v := (-1)) dX12_unit_15 (by decide) ?_
    refine bs_W.mk [(0, .ref m), (1, .int p1)] (by intro q hq; simp only [List.mem_cons, List.not_mem_nil, or_false] at hq; rcases hq with rfl | rfl <;> rfl) ?_
    exact wFX12_unit_j16 HM h_rU kr hR h
  · replace h := fg_ip c h
    refine bs_aload_n dX12_unit_8 rfl ?_
    obtain ⟨v26, mu25, k24, h⟩ := fg_b2E h
    refine fg_callV dX12_unit_9 qX12_180 (wX12_look HM hR k24) rfl (HM.s 0 rfl rfl rfl) rfl (Nat.le_of_ble_eq_true rfl) (fg_cr (by first | decide | omega) (by decide)) (fun hR => ?_)
    refine bs_goto (tgt := 16) dX12_unit_12 (by decide) ?_
    refine bs_W.mk [(0, .ref m), (1, .int p1)] (by intro q hq; simp only [List.mem_cons, List.not_mem_nil, or_false] at hq; rcases hq with rfl | rfl <;> rfl) ?_
    exact wFX12_unit_j16 HM h_rU kr hR h
noncomputable def fg_rU (m : Nat) : Nat → bs_Mm → Int32 → Option (bs_Mm)
  | 0 => fun _ _ => none
  | n + 1 => FX12_unit m (fg_rU m n)
theorem wfg_rU {nx : Nat} {sh : bs_Sh} {R : Nat → Nat → Option Nat} {m : Nat} (HM : fg_S (bs_tM m) R m sh) : ∀ (n : Nat) {mu : bs_Mm} {a0 : Int32} {q : bs_Mm}, fg_R R mu → fg_rU m n mu a0 = some q → bs_C mX12_unit (bs_rm (46 * n) 0 0) [.ref m, .int a0] nx sh mu (fg_po R nx sh none q) := by
  intro n
  induction n with
  | zero => intro mu a0 q hR h; cases h
  | succ n ih =>
    intro mu a0 q hR h
    exact wX12_unit HM ih hR h
noncomputable def FX12_clause_j178 (m : Nat) (mu : bs_Mm) (l1 : Int32) (l3 : Int32) : Option (bs_Mm) :=
  if (bs_iv (mu m 9)) = (-1) then (
    if l3 = 0 then (
      fg_gd (fg_in l1 448) (
      fg_wr mu (m + 21) l1.toNatClampNeg (.int (bs_iv (mu m 33))) (fun mu23 => 
      some mu23))
    ) else (
      fg_b2 (FX12_look m mu) (fun v26 mu25 => 
      if v26 = (nI 63) then (
        fg_wr mu25 m 8 (.int ((bs_iv (mu25 m 8)) + (nI 1))) (fun mu27 => 
        fg_gd (fg_in l1 448) (
        fg_wr mu27 (m + 20) l1.toNatClampNeg (.int (bs_iv (mu27 m 33))) (fun mu29 => 
        fg_bd (FX12_sum m (fg_rS m 8) mu29) (fun mu31 => 
        fg_gd (fg_in l1 448) (
        fg_wr mu31 (m + 21) l1.toNatClampNeg (.int (bs_iv (mu31 m 33))) (fun mu33 => 
        some mu33))))))
      ) else (
        fg_bd (FX12_bad m mu25) (fun mu35 => 
        some mu35)
      ))
    )
  ) else (
    fg_gd (fg_in l1 448) (
    fg_wr mu (m + 21) l1.toNatClampNeg (.int (bs_iv (mu m 33))) (fun mu21 => 
    some mu21))
  )
set_option maxHeartbeats 4000000 in
theorem wFX12_clause_j178 {nx : Nat} {sh : bs_Sh} {R : Nat → Nat → Option Nat} {m : Nat} (HM : fg_S (bs_tM m) R m sh) {mu : bs_Mm} {l1 : Int32} {l3 : Int32} {Ph : bs_Po} {r : bs_Mm} (kr : ∀ q, r = q → fg_R R q → Ph none nx sh q) (hR : fg_R R mu) (h : FX12_clause_j178 m mu l1 l3 = some r) : bs_W Ph mX12_clause (bs_rm 372 0 0) 178 (bs_mk [(0, .ref m), (1, .int l1), (3, .int l3)]) [] 0 0 nx sh mu := by
  unfold FX12_clause_j178 at h
  refine bs_aload_n dX12_clause_178 rfl ?_
  refine bs_getI dX12_clause_179 fX12_142 (HM.s 0 rfl rfl rfl) ?_
  refine bs_iconst (v := (-1)) dX12_clause_182 (by decide) ?_
  refine bs_icmp_ne (tgt := 228) dX12_clause_183 (by decide) (fun c => ?_) (fun c => ?_)
  · replace h := fg_iN c h
    refine bs_aload_n dX12_clause_228 rfl ?_
    refine fg_getR (b := (m + 21)) dX12_clause_229 fX12_70 (HM.s 0 rfl rfl rfl) hR (HM.r 0 30 rfl rfl rfl) ?_
    refine bs_iload_n dX12_clause_232 rfl ?_
    refine bs_aload_n dX12_clause_233 rfl ?_
    refine bs_getI dX12_clause_234 fX12_208 (HM.s 0 rfl rfl rfl) ?_
    obtain ⟨g20, h⟩ := fg_gdE h
    refine fg_iast dX12_clause_237 (HM.ss 21 rfl rfl) (fun j => HM.n 21 j rfl rfl rfl) g20 hR h (fun mu21 hR h => ?_)
    cases h
    exact bs_vret dX12_clause_238 rfl (Nat.zero_le _) (Nat.zero_le _) (kr _ rfl hR)
  · replace h := fg_ip c h
    refine bs_iload_n dX12_clause_186 rfl ?_
    refine bs_if_eq (tgt := 228) dX12_clause_187 (by decide) (fun c => ?_) (fun c => ?_)
    · replace h := fg_ip c h
      refine bs_aload_n dX12_clause_228 rfl ?_
      refine fg_getR (b := (m + 21)) dX12_clause_229 fX12_70 (HM.s 0 rfl rfl rfl) hR (HM.r 0 30 rfl rfl rfl) ?_
      refine bs_iload_n dX12_clause_232 rfl ?_
      refine bs_aload_n dX12_clause_233 rfl ?_
      refine bs_getI dX12_clause_234 fX12_208 (HM.s 0 rfl rfl rfl) ?_
      obtain ⟨g22, h⟩ := fg_gdE h
      refine fg_iast dX12_clause_237 (HM.ss 21 rfl rfl) (fun j => HM.n 21 j rfl rfl rfl) g22 hR h (fun mu23 hR h => ?_)
      cases h
      exact bs_vret dX12_clause_238 rfl (Nat.zero_le _) (Nat.zero_le _) (kr _ rfl hR)
    · replace h := fg_iN c h
      refine bs_aload_n dX12_clause_190 rfl ?_
      obtain ⟨v26, mu25, k24, h⟩ := fg_b2E h
      refine fg_callV dX12_clause_191 qX12_180 (wX12_look HM hR k24) rfl (HM.s 0 rfl rfl rfl) rfl (Nat.le_of_ble_eq_true rfl) (fg_cr (by first | decide | omega) (by decide)) (fun hR => ?_)
      refine bs_bipush (v := (nI 63)) dX12_clause_194 (by decide) ?_
      refine bs_icmp_eq (tgt := 204) dX12_clause_196 (by decide) (fun c => ?_) (fun c => ?_)
      · replace h := fg_ip c h
        refine bs_aload_n dX12_clause_204 rfl ?_
        refine bs_dup dX12_clause_205 rfl ?_
        refine bs_getI dX12_clause_206 fX12_135 (HM.s 0 rfl rfl rfl) ?_
        refine bs_iconst (v := (nI 1)) dX12_clause_209 (by decide) ?_
        refine bs_iadd dX12_clause_210 ?_
        refine fg_putI dX12_clause_211 pX12_135 (HM.s 0 rfl rfl rfl) (HM.n 0 8 rfl rfl rfl) hR h (fun mu27 hR h => ?_)
        refine bs_aload_n dX12_clause_214 rfl ?_
        refine fg_getR (b := (m + 20)) dX12_clause_215 fX12_67 (HM.s 0 rfl rfl rfl) hR (HM.r 0 29 rfl rfl rfl) ?_
        refine bs_iload_n dX12_clause_218 rfl ?_
        refine bs_aload_n dX12_clause_219 rfl ?_
        refine bs_getI dX12_clause_220 fX12_208 (HM.s 0 rfl rfl rfl) ?_
        obtain ⟨g28, h⟩ := fg_gdE h
        refine fg_iast dX12_clause_223 (HM.ss 20 rfl rfl) (fun j => HM.n 20 j rfl rfl rfl) g28 hR h (fun mu29 hR h => ?_)
        refine bs_aload_n dX12_clause_224 rfl ?_
        obtain ⟨mu31, k30, h⟩ := fg_bdE h
        refine fg_callVv dX12_clause_225 qX12_221 (wX12_sum HM (wfg_rS HM 8) hR k30) rfl (HM.s 0 rfl rfl rfl) rfl (Nat.le_of_ble_eq_true rfl) (fg_cr (by first | decide | omega) (by decide)) (fun hR => ?_)
        refine bs_aload_n dX12_clause_228 rfl ?_
        refine fg_getR (b := (m + 21)) dX12_clause_229 fX12_70 (HM.s 0 rfl rfl rfl) hR (HM.r 0 30 rfl rfl rfl) ?_
        refine bs_iload_n dX12_clause_232 rfl ?_
        refine bs_aload_n dX12_clause_233 rfl ?_
        refine bs_getI dX12_clause_234 fX12_208 (HM.s 0 rfl rfl rfl) ?_
        obtain ⟨g32, h⟩ := fg_gdE h
        refine fg_iast dX12_clause_237 (HM.ss 21 rfl rfl) (fun j => HM.n 21 j rfl rfl rfl) g32 hR h (fun mu33 hR h => ?_)
        cases h
        exact bs_vret dX12_clause_238 rfl (Nat.zero_le _) (Nat.zero_le _) (kr _ rfl hR)
      · replace h := fg_iN c h
        refine bs_aload_n dX12_clause_199 rfl ?_
        obtain ⟨mu35, k34, h⟩ := fg_bdE h
        refine fg_callVv dX12_clause_200 qX12_164 (wX12_bad HM hR k34) rfl (HM.s 0 rfl rfl rfl) rfl (Nat.le_of_ble_eq_true rfl) (fg_cr (by first | decide | omega) (by decide)) (fun hR => ?_)
        cases h
        exact bs_vret dX12_clause_203 rfl (Nat.zero_le _) (Nat.zero_le _) (kr _ rfl hR)
noncomputable def FX12_clause_j168 (m : Nat) (mu : bs_Mm) (l1 : Int32) (t0 : Int32) : Option (bs_Mm) :=
  if t0 = 0 then (
    FX12_clause_j178 m mu l1 t0
  ) else (
    fg_bd (FX12_condition m (fg_rU m 8) mu (nI 1)) (fun mu37 => 
    FX12_clause_j178 m mu37 l1 t0)
  )
set_option maxHeartbeats 4000000 in
theorem wFX12_clause_j168 {nx : Nat} {sh : bs_Sh} {R : Nat → Nat → Option Nat} {m : Nat} (HM : fg_S (bs_tM m) R m sh) {mu : bs_Mm} {l1 : Int32} {t0 : Int32} {Ph : bs_Po} {r : bs_Mm} (kr : ∀ q, r = q → fg_R R q → Ph none nx sh q) (hR : fg_R R mu) (h : FX12_clause_j168 m mu l1 t0 = some r) : bs_W Ph mX12_clause (bs_rm 372 0 0) 168 (bs_mk [(0, .ref m), (1, .int l1)]) [.int t0] 0 0 nx sh mu := by
  unfold FX12_clause_j168 at h
  refine bs_istore0_n (j := 2) dX12_clause_168 rfl rfl (by decide) ?_
  refine bs_iload_n dX12_clause_169 rfl ?_
  refine bs_if_eq (tgt := 178) dX12_clause_170 (by decide) (fun c => ?_) (fun c => ?_)
  · replace h := fg_ip c h
    refine bs_W.mk [(0, .ref m), (1, .int l1), (3, .int t0)] (by intro q hq; simp only [List.mem_cons, List.not_mem_nil, or_false] at hq; rcases hq with rfl | rfl | rfl <;> rfl) ?_
    exact wFX12_clause_j178 HM kr hR h
  · replace h := fg_iN c h
    refine bs_aload_n dX12_clause_173 rfl ?_
    refine bs_iconst (v := (nI 1)) dX12_clause_174 (by decide) ?_
    obtain ⟨mu37, k36, h⟩ := fg_bdE h
    refine fg_callVv dX12_clause_175 qX12_237 (wX12_condition HM (wfg_rU HM 8) hR k36) rfl (HM.s 0 rfl rfl rfl) rfl (Nat.le_of_ble_eq_true rfl) (fg_cr (by first | decide | omega) (by decide)) (fun hR => ?_)
    refine bs_W.mk [(0, .ref m), (1, .int l1), (3, .int t0)] (by intro q hq; simp only [List.mem_cons, List.not_mem_nil, or_false] at hq; rcases hq with rfl | rfl | rfl <;> rfl) ?_
    exact wFX12_clause_j178 HM kr hR h
noncomputable def FX12_clause_j163 (m : Nat) (mu : bs_Mm) (l1 : Int32) : Option (bs_Mm) :=
  FX12_clause_j168 m mu l1 (nI 1)
set_option maxHeartbeats 4000000 in
theorem wFX12_clause_j163 {nx : Nat} {sh : bs_Sh} {R : Nat → Nat → Option Nat} {m : Nat} (HM : fg_S (bs_tM m) R m sh) {mu : bs_Mm} {l1 : Int32} {Ph : bs_Po} {r : bs_Mm} (kr : ∀ q, r = q → fg_R R q → Ph none nx sh q) (hR : fg_R R mu) (h : FX12_clause_j163 m mu l1 = some r) : bs_W Ph mX12_clause (bs_rm 372 0 0) 163 (bs_mk [(0, .ref m), (1, .int l1)]) [] 0 0 nx sh mu := by
  unfold FX12_clause_j163 at h
  refine bs_iconst (v := (nI 1)) dX12_clause_163 (by decide) ?_
  refine bs_goto (tgt := 168) dX12_clause_164 (by decide) ?_
  refine bs_W.mk [(0, .ref m), (1, .int l1)] (by intro q hq; simp only [List.mem_cons, List.not_mem_nil, or_false] at hq; rcases hq with rfl | rfl <;> rfl) ?_
  exact wFX12_clause_j168 HM kr hR h
noncomputable def FX12_clause_j144 (m : Nat) (mu : bs_Mm) (l1 : Int32) (t0 : Int32) : Option (bs_Mm) :=
  if t0 = (nI 61) then (
    FX12_clause_j163 m mu l1
  ) else (
    if t0 = (nI 60) then (
      FX12_clause_j163 m mu l1
    ) else (
      if t0 = (nI 62) then (
        FX12_clause_j163 m mu l1
      ) else (
        FX12_clause_j168 m mu l1 (nI 0)
      )
    )
  )
set_option maxHeartbeats 4000000 in
theorem wFX12_clause_j144 {nx : Nat} {sh : bs_Sh} {R : Nat → Nat → Option Nat} {m : Nat} (HM : fg_S (bs_tM m) R m sh) {mu : bs_Mm} {l1 : Int32} {t0 : Int32} {Ph : bs_Po} {r : bs_Mm} (kr : ∀ q, r = q → fg_R R q → Ph none nx sh q) (hR : fg_R R mu) (h : FX12_clause_j144 m mu l1 t0 = some r) : bs_W Ph mX12_clause (bs_rm 372 0 0) 144 (bs_mk [(0, .ref m), (1, .int l1)]) [.int t0] 0 0 nx sh mu := by
  unfold FX12_clause_j144 at h
  refine bs_istore_n dX12_clause_144 rfl (by decide) ?_
  refine bs_iload_n dX12_clause_145 rfl ?_
  refine bs_bipush (v := (nI 61)) dX12_clause_146 (by decide) ?_
  refine bs_icmp_eq (tgt := 163) dX12_clause_148 (by decide) (fun c => ?_) (fun c => ?_)
  · replace h := fg_ip c h
    refine bs_W.mk [(0, .ref m), (1, .int l1)] (by intro q hq; simp only [List.mem_cons, List.not_mem_nil, or_false] at hq; rcases hq with rfl | rfl <;> rfl) ?_
    exact wFX12_clause_j163 HM kr hR h
  · replace h := fg_iN c h
    refine bs_iload_n dX12_clause_151 rfl ?_
    refine bs_bipush (v := (nI 60)) dX12_clause_152 (by decide) ?_
    refine bs_icmp_eq (tgt := 163) dX12_clause_154 (by decide) (fun c => ?_) (fun c => ?_)
    · replace h := fg_ip c h
      refine bs_W.mk [(0, .ref m), (1, .int l1)] (by intro q hq; simp only [List.mem_cons, List.not_mem_nil, or_false] at hq; rcases hq with rfl | rfl <;> rfl) ?_
      exact wFX12_clause_j163 HM kr hR h
    · replace h := fg_iN c h
      refine bs_iload_n dX12_clause_157 rfl ?_
      refine bs_bipush (v := (nI 62)) dX12_clause_158 (by decide) ?_
      refine bs_icmp_ne (tgt := 167) dX12_clause_160 (by decide) (fun c => ?_) (fun c => ?_)
      · replace h := fg_iN c h
        refine bs_iconst (v := (nI 0)) dX12_clause_167 (by decide) ?_
        refine bs_W.mk [(0, .ref m), (1, .int l1)] (by intro q hq; simp only [List.mem_cons, List.not_mem_nil, or_false] at hq; rcases hq with rfl | rfl <;> rfl) ?_
        exact wFX12_clause_j168 HM kr hR h
      · replace h := fg_ip c h
        refine bs_W.mk [(0, .ref m), (1, .int l1)] (by intro q hq; simp only [List.mem_cons, List.not_mem_nil, or_false] at hq; rcases hq with rfl | rfl <;> rfl) ?_
        exact wFX12_clause_j163 HM kr hR h
noncomputable def FX12_clause_j111 (m : Nat) (mu : bs_Mm) (l1 : Int32) (t0 : Int32) : Option (bs_Mm) :=
  if t0 = 0 then (
    fg_bd (FX12_sum m (fg_rS m 8) mu) (fun mu19 => 
    if (bs_iv (mu19 m 9)) = (-1) then (
      fg_b2 (FX12_look m mu19) (fun v40 mu39 => 
      FX12_clause_j144 m mu39 l1 v40)
    ) else (
      FX12_clause_j144 m mu19 l1 (-1)
    ))
  ) else (
    fg_bd (FX12_condition m (fg_rU m 8) mu (nI 0)) (fun mu42 => 
    FX12_clause_j178 m mu42 l1 t0)
  )
set_option maxHeartbeats 4000000 in
theorem wFX12_clause_j111 {nx : Nat} {sh : bs_Sh} {R : Nat → Nat → Option Nat} {m : Nat} (HM : fg_S (bs_tM m) R m sh) {mu : bs_Mm} {l1 : Int32} {t0 : Int32} {Ph : bs_Po} {r : bs_Mm} (kr : ∀ q, r = q → fg_R R q → Ph none nx sh q) (hR : fg_R R mu) (h : FX12_clause_j111 m mu l1 t0 = some r) : bs_W Ph mX12_clause (bs_rm 372 0 0) 111 (bs_mk [(0, .ref m), (1, .int l1)]) [.int t0] 0 0 nx sh mu := by
  unfold FX12_clause_j111 at h
  refine bs_istore0_n (j := 2) dX12_clause_111 rfl rfl (by decide) ?_
  refine bs_iload_n dX12_clause_112 rfl ?_
  refine bs_if_eq (tgt := 124) dX12_clause_113 (by decide) (fun c => ?_) (fun c => ?_)
  · replace h := fg_ip c h
    refine bs_aload_n dX12_clause_124 rfl ?_
    obtain ⟨mu19, k18, h⟩ := fg_bdE h
    refine fg_callVv dX12_clause_125 qX12_221 (wX12_sum HM (wfg_rS HM 8) hR k18) rfl (HM.s 0 rfl rfl rfl) rfl (Nat.le_of_ble_eq_true rfl) (fg_cr (by first | decide | omega) (by decide)) (fun hR => ?_)
    refine bs_aload_n dX12_clause_128 rfl ?_
    refine bs_getI dX12_clause_129 fX12_142 (HM.s 0 rfl rfl rfl) ?_
    refine bs_iconst (v := (-1)) dX12_clause_132 (by decide) ?_
    refine bs_icmp_ne (tgt := 143) dX12_clause_133 (by decide) (fun c => ?_) (fun c => ?_)
    · replace h := fg_iN c h
      refine bs_iconst (v := (-1)) dX12_clause_143 (by decide) ?_
      refine bs_W.mk [(0, .ref m), (1, .int l1)] (by intro q hq; simp only [List.mem_cons, List.not_mem_nil, or_false] at hq; rcases hq with rfl | rfl <;> rfl) ?_
      exact wFX12_clause_j144 HM kr hR h
    · replace h := fg_ip c h
      refine bs_aload_n dX12_clause_136 rfl ?_
      obtain ⟨v40, mu39, k38, h⟩ := fg_b2E h
      refine fg_callV dX12_clause_137 qX12_180 (wX12_look HM hR k38) rfl (HM.s 0 rfl rfl rfl) rfl (Nat.le_of_ble_eq_true rfl) (fg_cr (by first | decide | omega) (by decide)) (fun hR => ?_)
      refine bs_goto (tgt := 144) dX12_clause_140 (by decide) ?_
      refine bs_W.mk [(0, .ref m), (1, .int l1)] (by intro q hq; simp only [List.mem_cons, List.not_mem_nil, or_false] at hq; rcases hq with rfl | rfl <;> rfl) ?_
      exact wFX12_clause_j144 HM kr hR h
  · replace h := fg_iN c h
    refine bs_aload_n dX12_clause_116 rfl ?_
    refine bs_iconst (v := (nI 0)) dX12_clause_117 (by decide) ?_
    obtain ⟨mu42, k41, h⟩ := fg_bdE h
    refine fg_callVv dX12_clause_118 qX12_237 (wX12_condition HM (wfg_rU HM 8) hR k41) rfl (HM.s 0 rfl rfl rfl) rfl (Nat.le_of_ble_eq_true rfl) (fg_cr (by first | decide | omega) (by decide)) (fun hR => ?_)
    refine bs_goto (tgt := 178) dX12_clause_121 (by decide) ?_
    refine bs_W.mk [(0, .ref m), (1, .int l1), (3, .int t0)] (by intro q hq; simp only [List.mem_cons, List.not_mem_nil, or_false] at hq; rcases hq with rfl | rfl | rfl <;> rfl) ?_
    exact wFX12_clause_j178 HM kr hR h
noncomputable def FX12_clause_j106 (m : Nat) (mu : bs_Mm) (l1 : Int32) : Option (bs_Mm) :=
  FX12_clause_j111 m mu l1 (nI 1)
set_option maxHeartbeats 4000000 in
theorem wFX12_clause_j106 {nx : Nat} {sh : bs_Sh} {R : Nat → Nat → Option Nat} {m : Nat} (HM : fg_S (bs_tM m) R m sh) {mu : bs_Mm} {l1 : Int32} {Ph : bs_Po} {r : bs_Mm} (kr : ∀ q, r = q → fg_R R q → Ph none nx sh q) (hR : fg_R R mu) (h : FX12_clause_j106 m mu l1 = some r) : bs_W Ph mX12_clause (bs_rm 372 0 0) 106 (bs_mk [(0, .ref m), (1, .int l1)]) [] 0 0 nx sh mu := by
  unfold FX12_clause_j106 at h
  refine bs_iconst (v := (nI 1)) dX12_clause_106 (by decide) ?_
  refine bs_goto (tgt := 111) dX12_clause_107 (by decide) ?_
  refine bs_W.mk [(0, .ref m), (1, .int l1)] (by intro q hq; simp only [List.mem_cons, List.not_mem_nil, or_false] at hq; rcases hq with rfl | rfl <;> rfl) ?_
  exact wFX12_clause_j111 HM kr hR h
noncomputable def FX12_clause (m : Nat) (mu : bs_Mm) : Option (bs_Mm) :=
  fg_gd (fg_in (bs_iv (mu m 32)) 7) (
  fg_b2 (FX12_look m mu) (fun v4 mu3 => 
  if v4 = (nI 119) then (
    fg_wr mu3 m 8 (.int ((bs_iv (mu3 m 8)) + (nI 1))) (fun mu5 => 
    fg_b2 (FX12_look m mu5) (fun v8 mu7 => 
    if v8 = (nI 58) then (
      fg_wr mu7 m 8 (.int ((bs_iv (mu7 m 8)) + (nI 1))) (fun mu9 => 
      fg_gd (fg_in (bs_iv (mu9 m 32)) 7) (
      fg_gd (fg_in (bs_iv (mu9 m 32)) 7) (
      fg_wr mu9 (m + 19) (bs_iv (mu9 m 32)).toNatClampNeg (.int ((bs_iv (mu9 (m + 19) (bs_iv (mu9 m 32)).toNatClampNeg)) + (nI 1))) (fun mu12 => 
      fg_gd (fg_in (((nI 64) * (bs_iv (mu m 32))) + (bs_iv (mu (m + 19) (bs_iv (mu m 32)).toNatClampNeg))) 448) (
      fg_wr mu12 (m + 20) (((nI 64) * (bs_iv (mu m 32))) + (bs_iv (mu (m + 19) (bs_iv (mu m 32)).toNatClampNeg))).toNatClampNeg (.int (bs_iv (mu12 m 33))) (fun mu14 => 
      fg_b2 (FX12_look m mu14) (fun v17 mu16 => 
      if v17 = (nI 33) then (
        FX12_clause_j106 m mu16 (((nI 64) * (bs_iv (mu m 32))) + (bs_iv (mu (m + 19) (bs_iv (mu m 32)).toNatClampNeg)))
      ) else (
        if v17 = (nI 40) then (
          FX12_clause_j106 m mu16 (((nI 64) * (bs_iv (mu m 32))) + (bs_iv (mu (m + 19) (bs_iv (mu m 32)).toNatClampNeg)))
        ) else (
          FX12_clause_j111 m mu16 (((nI 64) * (bs_iv (mu m 32))) + (bs_iv (mu (m + 19) (bs_iv (mu m 32)).toNatClampNeg))) (nI 0)
        )
      ))))))))
    ) else (
      fg_bd (FX12_bad m mu7) (fun mu44 => 
      some mu44)
    )))
  ) else (
    fg_bd (FX12_bad m mu3) (fun mu46 => 
    some mu46)
  )))
set_option maxHeartbeats 4000000 in
theorem wX12_clause {nx : Nat} {sh : bs_Sh} {R : Nat → Nat → Option Nat} {m : Nat} (HM : fg_S (bs_tM m) R m sh) {mu : bs_Mm} (hR : fg_R R mu) {r : bs_Mm} (h : FX12_clause m mu = some r) : bs_C mX12_clause (bs_rm 372 0 0) [.ref m] nx sh mu (fg_po R nx sh none r) := by
  refine bs_ct (by decide +kernel) (Nat.le_of_ble_eq_true rfl) ?_
  have kr : ∀ q, r = q → fg_R R q → (fg_po R nx sh none r) none nx sh q := fun q e hq => by subst e; exact ⟨rfl, rfl, rfl, rfl, hq⟩
  unfold FX12_clause at h
  refine bs_bipush (v := (nI 64)) dX12_clause_0 (by decide) ?_
  refine bs_aload_n dX12_clause_2 rfl ?_
  refine bs_getI dX12_clause_3 fX12_205 (HM.s 0 rfl rfl rfl) ?_
  refine bs_imul dX12_clause_6 ?_
  refine bs_aload_n dX12_clause_7 rfl ?_
  refine fg_getR (b := (m + 19)) dX12_clause_8 fX12_64 (HM.s 0 rfl rfl rfl) hR (HM.r 0 28 rfl rfl rfl) ?_
  refine bs_aload_n dX12_clause_11 rfl ?_
  refine bs_getI dX12_clause_12 fX12_205 (HM.s 0 rfl rfl rfl) ?_
  obtain ⟨g1, h⟩ := fg_gdE h
  refine bs_iald dX12_clause_15 (HM.ss 19 rfl rfl) (fg_in_ix g1) ?_
  refine bs_iadd dX12_clause_16 ?_
  refine bs_istore_n dX12_clause_17 rfl (by decide) ?_
  refine bs_aload_n dX12_clause_18 rfl ?_
  obtain ⟨v4, mu3, k2, h⟩ := fg_b2E h
  refine fg_callV dX12_clause_19 qX12_180 (wX12_look HM hR k2) rfl (HM.s 0 rfl rfl rfl) rfl (Nat.le_of_ble_eq_true rfl) (fg_cr (by first | decide | omega) (by decide)) (fun hR => ?_)
  refine bs_bipush (v := (nI 119)) dX12_clause_22 (by decide) ?_
  refine bs_icmp_eq (tgt := 32) dX12_clause_24 (by decide) (fun c => ?_) (fun c => ?_)
  · replace h := fg_ip c h
    refine bs_aload_n dX12_clause_32 rfl ?_
    refine bs_dup dX12_clause_33 rfl ?_
    refine bs_getI dX12_clause_34 fX12_135 (HM.s 0 rfl rfl rfl) ?_
    refine bs_iconst (v := (nI 1)) dX12_clause_37 (by decide) ?_
    refine bs_iadd dX12_clause_38 ?_
    refine fg_putI dX12_clause_39 pX12_135 (HM.s 0 rfl rfl rfl) (HM.n 0 8 rfl rfl rfl) hR h (fun mu5 hR h => ?_)
    refine bs_aload_n dX12_clause_42 rfl ?_
    obtain ⟨v8, mu7, k6, h⟩ := fg_b2E h
    refine fg_callV dX12_clause_43 qX12_180 (wX12_look HM hR k6) rfl (HM.s 0 rfl rfl rfl) rfl (Nat.le_of_ble_eq_true rfl) (fg_cr (by first | decide | omega) (by decide)) (fun hR => ?_)
    refine bs_bipush (v := (nI 58)) dX12_clause_46 (by decide) ?_
    refine bs_icmp_eq (tgt := 56) dX12_clause_48 (by decide) (fun c => ?_) (fun c => ?_)
    · replace h := fg_ip c h
      refine bs_aload_n dX12_clause_56 rfl ?_
      refine bs_dup dX12_clause_57 rfl ?_
      refine bs_getI dX12_clause_58 fX12_135 (HM.s 0 rfl rfl rfl) ?_
      refine bs_iconst (v := (nI 1)) dX12_clause_61 (by decide) ?_
      refine bs_iadd dX12_clause_62 ?_
      refine fg_putI dX12_clause_63 pX12_135 (HM.s 0 rfl rfl rfl) (HM.n 0 8 rfl rfl rfl) hR h (fun mu9 hR h => ?_)
      refine bs_aload_n dX12_clause_66 rfl ?_
      refine fg_getR (b := (m + 19)) dX12_clause_67 fX12_64 (HM.s 0 rfl rfl rfl) hR (HM.r 0 28 rfl rfl rfl) ?_
      refine bs_aload_n dX12_clause_70 rfl ?_
      refine bs_getI dX12_clause_71 fX12_205 (HM.s 0 rfl rfl rfl) ?_
      refine bs_dup2 dX12_clause_74 rfl rfl ?_
      obtain ⟨g10, h⟩ := fg_gdE h
      refine bs_iald dX12_clause_75 (HM.ss 19 rfl rfl) (fg_in_ix g10) ?_
      refine bs_iconst (v := (nI 1)) dX12_clause_76 (by decide) ?_
      refine bs_iadd dX12_clause_77 ?_
      obtain ⟨g11, h⟩ := fg_gdE h
      refine fg_iast dX12_clause_78 (HM.ss 19 rfl rfl) (fun j => HM.n 19 j rfl rfl rfl) g11 hR h (fun mu12 hR h => ?_)
      refine bs_aload_n dX12_clause_79 rfl ?_
      refine fg_getR (b := (m + 20)) dX12_clause_80 fX12_67 (HM.s 0 rfl rfl rfl) hR (HM.r 0 29 rfl rfl rfl) ?_
      refine bs_iload_n dX12_clause_83 rfl ?_
      refine bs_aload_n dX12_clause_84 rfl ?_
      refine bs_getI dX12_clause_85 fX12_208 (HM.s 0 rfl rfl rfl) ?_
      obtain ⟨g13, h⟩ := fg_gdE h
      refine fg_iast dX12_clause_88 (HM.ss 20 rfl rfl) (fun j => HM.n 20 j rfl rfl rfl) g13 hR h (fun mu14 hR h => ?_)
      refine bs_aload_n dX12_clause_89 rfl ?_
      obtain ⟨v17, mu16, k15, h⟩ := fg_b2E h
      refine fg_callV dX12_clause_90 qX12_180 (wX12_look HM hR k15) rfl (HM.s 0 rfl rfl rfl) rfl (Nat.le_of_ble_eq_true rfl) (fg_cr (by first | decide | omega) (by decide)) (fun hR => ?_)
      refine bs_istore_n dX12_clause_93 rfl (by decide) ?_
      refine bs_iload_n dX12_clause_94 rfl ?_
      refine bs_bipush (v := (nI 33)) dX12_clause_95 (by decide) ?_
      refine bs_icmp_eq (tgt := 106) dX12_clause_97 (by decide) (fun c => ?_) (fun c => ?_)
      · replace h := fg_ip c h
        refine bs_W.mk [(0, .ref m), (1, .int (((nI 64) * (bs_iv (mu m 32))) + (bs_iv (mu (m + 19) (bs_iv (mu m 32)).toNatClampNeg))))] (by intro q hq; simp only [List.mem_cons, List.not_mem_nil, or_false] at hq; rcases hq with rfl | rfl <;> rfl) ?_
        exact wFX12_clause_j106 HM kr hR h
      · replace h := fg_iN c h
        refine bs_iload_n dX12_clause_100 rfl ?_
        refine bs_bipush (v := (nI 40)) dX12_clause_101 (by decide) ?_
        refine bs_icmp_ne (tgt := 110) dX12_clause_103 (by decide) (fun c => ?_) (fun c => ?_)
        · replace h := fg_iN c h
          refine bs_iconst (v := (nI 0)) dX12_clause_110 (by decide) ?_
          refine bs_W.mk [(0, .ref m), (1, .int (((nI 64) * (bs_iv (mu m 32))) + (bs_iv (mu (m + 19) (bs_iv (mu m 32)).toNatClampNeg))))] (by intro q hq; simp only [List.mem_cons, List.not_mem_nil, or_false] at hq; rcases hq with rfl | rfl <;> rfl) ?_
          exact wFX12_clause_j111 HM kr hR h
        · replace h := fg_ip c h
          refine bs_W.mk [(0, .ref m), (1, .int (((nI 64) * (bs_iv (mu m 32))) + (bs_iv (mu (m + 19) (bs_iv (mu m 32)).toNatClampNeg))))] (by intro q hq; simp only [List.mem_cons, List.not_mem_nil, or_false] at hq; rcases hq with rfl | rfl <;> rfl) ?_
          exact wFX12_clause_j106 HM kr hR h
    · replace h := fg_iN c h
      refine bs_aload_n dX12_clause_51 rfl ?_
      obtain ⟨mu44, k43, h⟩ := fg_bdE h
      refine fg_callVv dX12_clause_52 qX12_164 (wX12_bad HM hR k43) rfl (HM.s 0 rfl rfl rfl) rfl (Nat.le_of_ble_eq_true rfl) (fg_cr (by first | decide | omega) (by decide)) (fun hR => ?_)
      cases h
      exact bs_vret dX12_clause_55 rfl (Nat.zero_le _) (Nat.zero_le _) (kr _ rfl hR)
  · replace h := fg_iN c h
    refine bs_aload_n dX12_clause_27 rfl ?_
    obtain ⟨mu46, k45, h⟩ := fg_bdE h
    refine fg_callVv dX12_clause_28 qX12_164 (wX12_bad HM hR k45) rfl (HM.s 0 rfl rfl rfl) rfl (Nat.le_of_ble_eq_true rfl) (fg_cr (by first | decide | omega) (by decide)) (fun hR => ?_)
    cases h
    exact bs_vret dX12_clause_31 rfl (Nat.zero_le _) (Nat.zero_le _) (kr _ rfl hR)
