noncomputable def FX12_in (m : Nat) (mu : bs_Mm) (p0 : Int32) (p1 : Int32) (p2 : Int32) : Option (Int32) :=
  if p0 < p1 then (
    some ((nI 0))
  ) else (
    if p2 < p0 then (
      some ((nI 0))
    ) else (
      some ((nI 1))
    )
  )
set_option maxHeartbeats 4000000 in
theorem wX12_in {nx : Nat} {sh : bs_Sh} {R : Nat → Nat → Option Nat} {m : Nat} (HM : fg_S (bs_tM m) R m sh) {mu : bs_Mm} (hR : fg_R R mu) {p0 : Int32} {p1 : Int32} {p2 : Int32} {r : Int32} (h : FX12_in m mu p0 p1 p2 = some r) : bs_C mX12_in (bs_rm 0 0 0) [.int p0, .int p1, .int p2] nx sh mu (fg_po R nx sh (some (.int r)) mu) := by
  refine bs_ct (by decide +kernel) (Nat.le_of_ble_eq_true rfl) ?_
  have kr : ∀ q, r = q → fg_R R mu → (fg_po R nx sh (some (.int r)) mu) (some (.int q)) nx sh mu := fun q e hq => by subst e; exact ⟨rfl, rfl, rfl, rfl, hq⟩
  unfold FX12_in at h
  refine bs_iload_n dX12_in_0 rfl ?_
  refine bs_iload_n dX12_in_1 rfl ?_
  refine bs_icmp_lt (tgt := 14) dX12_in_2 (by decide) (fun c => ?_) (fun c => ?_)
  · replace h := fg_ip c h
    refine bs_iconst (v := (nI 0)) dX12_in_14 (by decide) ?_
    cases h
    exact bs_zret dX12_in_15 rfl (Or.inl rfl) (Nat.zero_le _) (Nat.zero_le _) (kr _ rfl hR)
  · replace h := fg_iN c h
    refine bs_iload_n dX12_in_5 rfl ?_
    refine bs_iload_n dX12_in_6 rfl ?_
    refine bs_icmp_gt (tgt := 14) dX12_in_7 (by decide) (fun c => ?_) (fun c => ?_)
    · replace h := fg_ip c h
      refine bs_iconst (v := (nI 0)) dX12_in_14 (by decide) ?_
      cases h
      exact bs_zret dX12_in_15 rfl (Or.inl rfl) (Nat.zero_le _) (Nat.zero_le _) (kr _ rfl hR)
    · replace h := fg_iN c h
      refine bs_iconst (v := (nI 1)) dX12_in_10 (by decide) ?_
      refine bs_goto (tgt := 15) dX12_in_11 (by decide) ?_
      cases h
      exact bs_zret dX12_in_15 rfl (Or.inr rfl) (Nat.zero_le _) (Nat.zero_le _) (kr _ rfl hR)
noncomputable def FX12_isFigure (m : Nat) (mu : bs_Mm) (p1 : Int32) : Option (Int32) :=
  fg_bd (FX12_in m mu p1 (nI 0) ((bs_iv (mu m 20)) - (nI 1))) (fun v2 => 
  fg_gd (decide (v2 = 0 ∨ v2 = 1)) (
  some (v2)))
set_option maxHeartbeats 4000000 in
theorem wX12_isFigure {nx : Nat} {sh : bs_Sh} {R : Nat → Nat → Option Nat} {m : Nat} (HM : fg_S (bs_tM m) R m sh) {mu : bs_Mm} (hR : fg_R R mu) {p1 : Int32} {r : Int32} (h : FX12_isFigure m mu p1 = some r) : bs_C mX12_isFigure (bs_rm 1 0 0) [.ref m, .int p1] nx sh mu (fg_po R nx sh (some (.int r)) mu) := by
  refine bs_ct (by decide +kernel) (Nat.le_of_ble_eq_true rfl) ?_
  have kr : ∀ q, r = q → fg_R R mu → (fg_po R nx sh (some (.int r)) mu) (some (.int q)) nx sh mu := fun q e hq => by subst e; exact ⟨rfl, rfl, rfl, rfl, hq⟩
  unfold FX12_isFigure at h
  refine bs_iload_n dX12_isFigure_0 rfl ?_
  refine bs_iconst (v := (nI 0)) dX12_isFigure_1 (by decide) ?_
  refine bs_aload_n dX12_isFigure_2 rfl ?_
  refine bs_getI dX12_isFigure_3 fX12_252 (HM.s 0 rfl rfl rfl) ?_
  refine bs_iconst (v := (nI 1)) dX12_isFigure_6 (by decide) ?_
  refine bs_isub dX12_isFigure_7 ?_
  obtain ⟨v2, k1, h⟩ := fg_bdE h
  refine fg_callS dX12_isFigure_8 qX12_121 (wX12_in HM hR k1) rfl rfl (Nat.le_of_ble_eq_true rfl) (fg_cr (by first | decide | omega) (by decide)) (fun hR => ?_)
  obtain ⟨g3, h⟩ := fg_gdE h
  cases h
  exact bs_zret dX12_isFigure_11 rfl (of_decide_eq_true g3) (Nat.zero_le _) (Nat.zero_le _) (kr _ rfl hR)
noncomputable def FX12_isPoint (m : Nat) (mu : bs_Mm) (p1 : Int32) (p2 : Int32) : Option (Int32) :=
  fg_bd (FX12_isFigure m mu p1) (fun v2 => 
  if v2 = 0 then (
    some ((nI 0))
  ) else (
    fg_gd (fg_in p1 13) (
    fg_bd (FX12_in m mu p2 (nI 0) ((bs_iv (mu (m + 9) p1.toNatClampNeg)) - (nI 1))) (fun v5 => 
    if v5 = 0 then (
      some ((nI 0))
    ) else (
      some ((nI 1))
    )))
  ))
set_option maxHeartbeats 4000000 in
theorem wX12_isPoint {nx : Nat} {sh : bs_Sh} {R : Nat → Nat → Option Nat} {m : Nat} (HM : fg_S (bs_tM m) R m sh) {mu : bs_Mm} (hR : fg_R R mu) {p1 : Int32} {p2 : Int32} {r : Int32} (h : FX12_isPoint m mu p1 p2 = some r) : bs_C mX12_isPoint (bs_rm 2 0 0) [.ref m, .int p1, .int p2] nx sh mu (fg_po R nx sh (some (.int r)) mu) := by
  refine bs_ct (by decide +kernel) (Nat.le_of_ble_eq_true rfl) ?_
  have kr : ∀ q, r = q → fg_R R mu → (fg_po R nx sh (some (.int r)) mu) (some (.int q)) nx sh mu := fun q e hq => by subst e; exact ⟨rfl, rfl, rfl, rfl, hq⟩
  unfold FX12_isPoint at h
  refine bs_aload_n dX12_isPoint_0 rfl ?_
  refine bs_iload_n dX12_isPoint_1 rfl ?_
  obtain ⟨v2, k1, h⟩ := fg_bdE h
  refine fg_callV dX12_isPoint_2 qX12_284 (wX12_isFigure HM hR k1) rfl (HM.s 0 rfl rfl rfl) rfl (Nat.le_of_ble_eq_true rfl) (fg_cr (by first | decide | omega) (by decide)) (fun hR => ?_)
  refine bs_if_eq (tgt := 28) dX12_isPoint_5 (by decide) (fun c => ?_) (fun c => ?_)
  · replace h := fg_ip c h
    refine bs_iconst (v := (nI 0)) dX12_isPoint_28 (by decide) ?_
    cases h
    exact bs_zret dX12_isPoint_29 rfl (Or.inl rfl) (Nat.zero_le _) (Nat.zero_le _) (kr _ rfl hR)
  · replace h := fg_iN c h
    refine bs_iload_n dX12_isPoint_8 rfl ?_
    refine bs_iconst (v := (nI 0)) dX12_isPoint_9 (by decide) ?_
    refine bs_aload_n dX12_isPoint_10 rfl ?_
    refine fg_getR (b := (m + 9)) dX12_isPoint_11 fX12_34 (HM.s 0 rfl rfl rfl) hR (HM.r 0 14 rfl rfl rfl) ?_
    refine bs_iload_n dX12_isPoint_14 rfl ?_
    obtain ⟨g3, h⟩ := fg_gdE h
    refine bs_iald dX12_isPoint_15 (HM.ss 9 rfl rfl) (fg_in_ix g3) ?_
    refine bs_iconst (v := (nI 1)) dX12_isPoint_16 (by decide) ?_
    refine bs_isub dX12_isPoint_17 ?_
    obtain ⟨v5, k4, h⟩ := fg_bdE h
    refine fg_callS dX12_isPoint_18 qX12_121 (wX12_in HM hR k4) rfl rfl (Nat.le_of_ble_eq_true rfl) (fg_cr (by first | decide | omega) (by decide)) (fun hR => ?_)
    refine bs_if_eq (tgt := 28) dX12_isPoint_21 (by decide) (fun c => ?_) (fun c => ?_)
    · replace h := fg_ip c h
      refine bs_iconst (v := (nI 0)) dX12_isPoint_28 (by decide) ?_
      cases h
      exact bs_zret dX12_isPoint_29 rfl (Or.inl rfl) (Nat.zero_le _) (Nat.zero_le _) (kr _ rfl hR)
    · replace h := fg_iN c h
      refine bs_iconst (v := (nI 1)) dX12_isPoint_24 (by decide) ?_
      refine bs_goto (tgt := 29) dX12_isPoint_25 (by decide) ?_
      cases h
      exact bs_zret dX12_isPoint_29 rfl (Or.inr rfl) (Nat.zero_le _) (Nat.zero_le _) (kr _ rfl hR)
noncomputable def FX12_startFigure (m : Nat) (mu : bs_Mm) : Option (bs_Mm) :=
  fg_gd (fg_in (bs_iv (mu m 20)) 13) (
  fg_wr mu (m + 8) (bs_iv (mu m 20)).toNatClampNeg (.int (nI 0)) (fun mu2 => 
  fg_gd (fg_in (bs_iv (mu2 m 20)) 13) (
  fg_wr mu2 (m + 6) (bs_iv (mu2 m 20)).toNatClampNeg (.int (nI 0)) (fun mu4 => 
  some mu4))))
set_option maxHeartbeats 4000000 in
theorem wX12_startFigure {nx : Nat} {sh : bs_Sh} {R : Nat → Nat → Option Nat} {m : Nat} (HM : fg_S (bs_tM m) R m sh) {mu : bs_Mm} (hR : fg_R R mu) {r : bs_Mm} (h : FX12_startFigure m mu = some r) : bs_C mX12_startFigure (bs_rm 0 0 0) [.ref m] nx sh mu (fg_po R nx sh none r) := by
  refine bs_ct (by decide +kernel) (Nat.le_of_ble_eq_true rfl) ?_
  have kr : ∀ q, r = q → fg_R R q → (fg_po R nx sh none r) none nx sh q := fun q e hq => by subst e; exact ⟨rfl, rfl, rfl, rfl, hq⟩
  unfold FX12_startFigure at h
  refine bs_aload_n dX12_startFigure_0 rfl ?_
  refine fg_getR (b := (m + 8)) dX12_startFigure_1 fX12_31 (HM.s 0 rfl rfl rfl) hR (HM.r 0 13 rfl rfl rfl) ?_
  refine bs_aload_n dX12_startFigure_4 rfl ?_
  refine bs_getI dX12_startFigure_5 fX12_252 (HM.s 0 rfl rfl rfl) ?_
  refine bs_iconst (v := (nI 0)) dX12_startFigure_8 (by decide) ?_
  obtain ⟨g1, h⟩ := fg_gdE h
  refine fg_iast dX12_startFigure_9 (HM.ss 8 rfl rfl) (fun j => HM.n 8 j rfl rfl rfl) g1 hR h (fun mu2 hR h => ?_)
  refine bs_aload_n dX12_startFigure_10 rfl ?_
  refine fg_getR (b := (m + 6)) dX12_startFigure_11 fX12_25 (HM.s 0 rfl rfl rfl) hR (HM.r 0 11 rfl rfl rfl) ?_
  refine bs_aload_n dX12_startFigure_14 rfl ?_
  refine bs_getI dX12_startFigure_15 fX12_252 (HM.s 0 rfl rfl rfl) ?_
  refine bs_iconst (v := (nI 0)) dX12_startFigure_18 (by decide) ?_
  obtain ⟨g3, h⟩ := fg_gdE h
  refine fg_iast dX12_startFigure_19 (HM.ss 6 rfl rfl) (fun j => HM.n 6 j rfl rfl rfl) g3 hR h (fun mu4 hR h => ?_)
  cases h
  exact bs_vret dX12_startFigure_20 rfl (Nat.zero_le _) (Nat.zero_le _) (kr _ rfl hR)
noncomputable def FX12_put (m : Nat) (mu : bs_Mm) (p1 : Int32) (p2 : Int32) (p3 : Int32) (p4 : Int32) : Option (bs_Mm) :=
  fg_gd (fg_in (bs_iv (mu m 20)) 13) (
  fg_gd (fg_in (((nI 24) * (bs_iv (mu m 20))) + (bs_iv (mu (m + 8) (bs_iv (mu m 20)).toNatClampNeg))) 312) (
  fg_wr mu (m + 10) (((nI 24) * (bs_iv (mu m 20))) + (bs_iv (mu (m + 8) (bs_iv (mu m 20)).toNatClampNeg))).toNatClampNeg (.int p1) (fun mu3 => 
  fg_gd (fg_in (((nI 24) * (bs_iv (mu m 20))) + (bs_iv (mu (m + 8) (bs_iv (mu m 20)).toNatClampNeg))) 312) (
  fg_wr mu3 (m + 13) (((nI 24) * (bs_iv (mu m 20))) + (bs_iv (mu (m + 8) (bs_iv (mu m 20)).toNatClampNeg))).toNatClampNeg (.int p2) (fun mu5 => 
  fg_gd (fg_in (((nI 24) * (bs_iv (mu m 20))) + (bs_iv (mu (m + 8) (bs_iv (mu m 20)).toNatClampNeg))) 312) (
  fg_wr mu5 (m + 11) (((nI 24) * (bs_iv (mu m 20))) + (bs_iv (mu (m + 8) (bs_iv (mu m 20)).toNatClampNeg))).toNatClampNeg (.int p3) (fun mu7 => 
  fg_gd (fg_in (((nI 24) * (bs_iv (mu m 20))) + (bs_iv (mu (m + 8) (bs_iv (mu m 20)).toNatClampNeg))) 312) (
  fg_wr mu7 (m + 12) (((nI 24) * (bs_iv (mu m 20))) + (bs_iv (mu (m + 8) (bs_iv (mu m 20)).toNatClampNeg))).toNatClampNeg (.int p4) (fun mu9 => 
  fg_gd (fg_in (bs_iv (mu9 m 20)) 13) (
  fg_gd (fg_in (bs_iv (mu9 m 20)) 13) (
  fg_wr mu9 (m + 8) (bs_iv (mu9 m 20)).toNatClampNeg (.int ((bs_iv (mu9 (m + 8) (bs_iv (mu9 m 20)).toNatClampNeg)) + (nI 1))) (fun mu12 => 
  some mu12))))))))))))
set_option maxHeartbeats 4000000 in
theorem wX12_put {nx : Nat} {sh : bs_Sh} {R : Nat → Nat → Option Nat} {m : Nat} (HM : fg_S (bs_tM m) R m sh) {mu : bs_Mm} (hR : fg_R R mu) {p1 : Int32} {p2 : Int32} {p3 : Int32} {p4 : Int32} {r : bs_Mm} (h : FX12_put m mu p1 p2 p3 p4 = some r) : bs_C mX12_put (bs_rm 0 0 0) [.ref m, .int p1, .int p2, .int p3, .int p4] nx sh mu (fg_po R nx sh none r) := by
  refine bs_ct (by decide +kernel) (Nat.le_of_ble_eq_true rfl) ?_
  have kr : ∀ q, r = q → fg_R R q → (fg_po R nx sh none r) none nx sh q := fun q e hq => by subst e; exact ⟨rfl, rfl, rfl, rfl, hq⟩
  unfold FX12_put at h
  refine bs_bipush (v := (nI 24)) dX12_put_0 (by decide) ?_
  refine bs_aload_n dX12_put_2 rfl ?_
  refine bs_getI dX12_put_3 fX12_252 (HM.s 0 rfl rfl rfl) ?_
  refine bs_imul dX12_put_6 ?_
  refine bs_aload_n dX12_put_7 rfl ?_
  refine fg_getR (b := (m + 8)) dX12_put_8 fX12_31 (HM.s 0 rfl rfl rfl) hR (HM.r 0 13 rfl rfl rfl) ?_
  refine bs_aload_n dX12_put_11 rfl ?_
  refine bs_getI dX12_put_12 fX12_252 (HM.s 0 rfl rfl rfl) ?_
  obtain ⟨g1, h⟩ := fg_gdE h
  refine bs_iald dX12_put_15 (HM.ss 8 rfl rfl) (fg_in_ix g1) ?_
  refine bs_iadd dX12_put_16 ?_
  refine bs_istore dX12_put_17 rfl (by decide) ?_
  refine bs_aload_n dX12_put_19 rfl ?_
  refine fg_getR (b := (m + 10)) dX12_put_20 fX12_37 (HM.s 0 rfl rfl rfl) hR (HM.r 0 15 rfl rfl rfl) ?_
  refine bs_iload dX12_put_23 rfl ?_
  refine bs_iload_n dX12_put_25 rfl ?_
  obtain ⟨g2, h⟩ := fg_gdE h
  refine fg_iast dX12_put_26 (HM.ss 10 rfl rfl) (fun j => HM.n 10 j rfl rfl rfl) g2 hR h (fun mu3 hR h => ?_)
  refine bs_aload_n dX12_put_27 rfl ?_
  refine fg_getR (b := (m + 13)) dX12_put_28 fX12_46 (HM.s 0 rfl rfl rfl) hR (HM.r 0 18 rfl rfl rfl) ?_
  refine bs_iload dX12_put_31 rfl ?_
  refine bs_iload_n dX12_put_33 rfl ?_
  obtain ⟨g4, h⟩ := fg_gdE h
  refine fg_iast dX12_put_34 (HM.ss 13 rfl rfl) (fun j => HM.n 13 j rfl rfl rfl) g4 hR h (fun mu5 hR h => ?_)
  refine bs_aload_n dX12_put_35 rfl ?_
  refine fg_getR (b := (m + 11)) dX12_put_36 fX12_40 (HM.s 0 rfl rfl rfl) hR (HM.r 0 16 rfl rfl rfl) ?_
  refine bs_iload dX12_put_39 rfl ?_
  refine bs_iload_n dX12_put_41 rfl ?_
  obtain ⟨g6, h⟩ := fg_gdE h
  refine fg_iast dX12_put_42 (HM.ss 11 rfl rfl) (fun j => HM.n 11 j rfl rfl rfl) g6 hR h (fun mu7 hR h => ?_)
  refine bs_aload_n dX12_put_43 rfl ?_
  refine fg_getR (b := (m + 12)) dX12_put_44 fX12_43 (HM.s 0 rfl rfl rfl) hR (HM.r 0 17 rfl rfl rfl) ?_
  refine bs_iload dX12_put_47 rfl ?_
  refine bs_iload dX12_put_49 rfl ?_
  obtain ⟨g8, h⟩ := fg_gdE h
  refine fg_iast dX12_put_51 (HM.ss 12 rfl rfl) (fun j => HM.n 12 j rfl rfl rfl) g8 hR h (fun mu9 hR h => ?_)
  refine bs_aload_n dX12_put_52 rfl ?_
  refine fg_getR (b := (m + 8)) dX12_put_53 fX12_31 (HM.s 0 rfl rfl rfl) hR (HM.r 0 13 rfl rfl rfl) ?_
  refine bs_aload_n dX12_put_56 rfl ?_
  refine bs_getI dX12_put_57 fX12_252 (HM.s 0 rfl rfl rfl) ?_
  refine bs_dup2 dX12_put_60 rfl rfl ?_
  obtain ⟨g10, h⟩ := fg_gdE h
  refine bs_iald dX12_put_61 (HM.ss 8 rfl rfl) (fg_in_ix g10) ?_
  refine bs_iconst (v := (nI 1)) dX12_put_62 (by decide) ?_
  refine bs_iadd dX12_put_63 ?_
  obtain ⟨g11, h⟩ := fg_gdE h
  refine fg_iast dX12_put_64 (HM.ss 8 rfl rfl) (fun j => HM.n 8 j rfl rfl rfl) g11 hR h (fun mu12 hR h => ?_)
  cases h
  exact bs_vret dX12_put_65 rfl (Nat.zero_le _) (Nat.zero_le _) (kr _ rfl hR)
noncomputable def FX12_addAll_b3 (m : Nat)  (l1 : Int32) (l2 : Int32) (l3 : Int32) (s : Int32 × bs_Mm) : Option ((Int32 × bs_Mm) ⊕ (bs_Mm)) :=
  fg_gd (fg_in l1 13) (
  if (bs_iv (s.2 (m + 6) l1.toNatClampNeg)) ≤ s.1 then (
    some (.inr s.2)
  ) else (
    fg_gd (fg_in (((nI 6) * l1) + s.1) 78) (
    fg_gd (fg_in ((((nI 6) * (bs_iv (s.2 m 20))) + l2) + s.1) 78) (
    fg_wr s.2 (m + 7) ((((nI 6) * (bs_iv (s.2 m 20))) + l2) + s.1).toNatClampNeg (.int (bs_iv (s.2 (m + 7) (((nI 6) * l1) + s.1).toNatClampNeg))) (fun mu4 => 
    some (.inl ((s.1 + (nI 1)), mu4)))))
  ))
set_option maxHeartbeats 4000000 in
theorem wFX12_addAll_b3 {nx : Nat} {sh : bs_Sh} {R : Nat → Nat → Option Nat} {m : Nat} (HM : fg_S (bs_tM m) R m sh) {l1 : Int32} {l2 : Int32} {l3 : Int32} {Ph : bs_Po} {s : Int32 × bs_Mm} {r : (Int32 × bs_Mm) ⊕ (bs_Mm)} (ka : ∀ s, r = .inl s → fg_R R s.2 → bs_W Ph mX12_addAll (bs_rm 1 0 0) 3 (bs_mk [(0, .ref m), (1, .int l1), (2, .int l2), (3, .int l3), (4, .int s.1)]) [] 0 0 nx sh s.2) (ke : ∀ s, r = .inr s → fg_R R s → bs_W Ph mX12_addAll (bs_rm 1 0 0) 49 (bs_mk [(0, .ref m), (1, .int l1), (2, .int l2), (3, .int l3)]) [] 0 0 nx sh s) (hR : fg_R R s.2) (h : FX12_addAll_b3 m l1 l2 l3 s = some r) : bs_W Ph mX12_addAll (bs_rm 1 0 0) 3 (bs_mk [(0, .ref m), (1, .int l1), (2, .int l2), (3, .int l3), (4, .int s.1)]) [] 0 0 nx sh s.2 := by
  unfold FX12_addAll_b3 at h
  refine bs_iload dX12_addAll_3 rfl ?_
  refine bs_aload_n dX12_addAll_5 rfl ?_
  refine fg_getR (b := (m + 6)) dX12_addAll_6 fX12_25 (HM.s 0 rfl rfl rfl) hR (HM.r 0 11 rfl rfl rfl) ?_
  refine bs_iload_n dX12_addAll_9 rfl ?_
  obtain ⟨g1, h⟩ := fg_gdE h
  refine bs_iald dX12_addAll_10 (HM.ss 6 rfl rfl) (fg_in_ix g1) ?_
  refine bs_icmp_ge (tgt := 49) dX12_addAll_11 (by decide) (fun c => ?_) (fun c => ?_)
  · replace h := fg_ip c h
    cases h
    refine bs_W.mk [(0, .ref m), (1, .int l1), (2, .int l2), (3, .int l3)] (by intro q hq; simp only [List.mem_cons, List.not_mem_nil, or_false] at hq; rcases hq with rfl | rfl | rfl | rfl <;> rfl) (ke _ rfl hR)
  · replace h := fg_iN c h
    refine bs_aload_n dX12_addAll_14 rfl ?_
    refine fg_getR (b := (m + 7)) dX12_addAll_15 fX12_28 (HM.s 0 rfl rfl rfl) hR (HM.r 0 12 rfl rfl rfl) ?_
    refine bs_bipush (v := (nI 6)) dX12_addAll_18 (by decide) ?_
    refine bs_aload_n dX12_addAll_20 rfl ?_
    refine bs_getI dX12_addAll_21 fX12_252 (HM.s 0 rfl rfl rfl) ?_
    refine bs_imul dX12_addAll_24 ?_
    refine bs_iload_n dX12_addAll_25 rfl ?_
    refine bs_iadd dX12_addAll_26 ?_
    refine bs_iload dX12_addAll_27 rfl ?_
    refine bs_iadd dX12_addAll_29 ?_
    refine bs_aload_n dX12_addAll_30 rfl ?_
    refine fg_getR (b := (m + 7)) dX12_addAll_31 fX12_28 (HM.s 0 rfl rfl rfl) hR (HM.r 0 12 rfl rfl rfl) ?_
    refine bs_bipush (v := (nI 6)) dX12_addAll_34 (by decide) ?_
    refine bs_iload_n dX12_addAll_36 rfl ?_
    refine bs_imul dX12_addAll_37 ?_
    refine bs_iload dX12_addAll_38 rfl ?_
    refine bs_iadd dX12_addAll_40 ?_
    obtain ⟨g2, h⟩ := fg_gdE h
    refine bs_iald dX12_addAll_41 (HM.ss 7 rfl rfl) (fg_in_ix g2) ?_
    obtain ⟨g3, h⟩ := fg_gdE h
    refine fg_iast dX12_addAll_42 (HM.ss 7 rfl rfl) (fun j => HM.n 7 j rfl rfl rfl) g3 hR h (fun mu4 hR h => ?_)
    refine fg_iinc (m := (nI 1)) dX12_addAll_43 rfl rfl (by decide) ?_
    refine bs_goto (tgt := 3) dX12_addAll_46 (by decide) ?_
    cases h
    refine bs_W.mk [(0, .ref m), (1, .int l1), (2, .int l2), (3, .int l3), (4, .int (s.1 + (nI 1)))] (by intro q hq; simp only [List.mem_cons, List.not_mem_nil, or_false] at hq; rcases hq with rfl | rfl | rfl | rfl | rfl <;> rfl) (by have k := ka _ rfl hR; dsimp only at k; exact k)
theorem wFX12_addAll_l3 {nx : Nat} {sh : bs_Sh} {R : Nat → Nat → Option Nat} {m : Nat} (HM : fg_S (bs_tM m) R m sh) {l1 : Int32} {l2 : Int32} {l3 : Int32} {Ph : bs_Po} {t : bs_Mm} : ∀ n (y0 : Int32) (mu1 : bs_Mm), fg_lp (FX12_addAll_b3 m l1 l2 l3) n (y0, mu1) = some t → fg_R R mu1 → (ke : ∀ s, t = s → fg_R R s → bs_W Ph mX12_addAll (bs_rm 1 0 0) 49 (bs_mk [(0, .ref m), (1, .int l1), (2, .int l2), (3, .int l3)]) [] 0 0 nx sh s) → bs_W Ph mX12_addAll (bs_rm 1 0 0) 3 (bs_mk [(0, .ref m), (1, .int l1), (2, .int l2), (3, .int l3), (4, .int y0)]) [] 0 0 nx sh mu1 := by
  intro n
  induction n with
  | zero => intro y0 mu1 h; exact absurd h (fun z => fg_lp0 z)
  | succ n ih =>
    intro y0 mu1 h hR ke
    obtain ⟨r, hb, h1, h2⟩ := fg_lpE h
    exact wFX12_addAll_b3 (s := (y0, mu1)) HM (fun s' e hR' => ih s'.1 s'.2 (h1 s' e) hR' ke) (fun s' e => ke s' (h2 _ e).symm) hR hb
noncomputable def FX12_addAll_b52 (m : Nat)  (l1 : Int32) (l2 : Int32) (l3 : Int32) (s : Int32 × bs_Mm) : Option ((Int32 × bs_Mm) ⊕ (bs_Mm)) :=
  fg_gd (fg_in l1 13) (
  if (bs_iv (s.2 (m + 8) l1.toNatClampNeg)) ≤ s.1 then (
    some (.inr s.2)
  ) else (
    fg_gd (fg_in (((nI 24) * l1) + s.1) 312) (
    fg_gd (fg_in (((nI 24) * l1) + s.1) 312) (
    fg_gd (fg_in (((nI 24) * l1) + s.1) 312) (
    fg_gd (fg_in (((nI 24) * l1) + s.1) 312) (
    fg_bd (FX12_put m s.2 (bs_iv (s.2 (m + 10) (((nI 24) * l1) + s.1).toNatClampNeg)) (l2 + (bs_iv (s.2 (m + 13) (((nI 24) * l1) + s.1).toNatClampNeg))) (l3 + (bs_iv (s.2 (m + 11) (((nI 24) * l1) + s.1).toNatClampNeg))) (l3 + (bs_iv (s.2 (m + 12) (((nI 24) * l1) + s.1).toNatClampNeg)))) (fun mu13 => 
    some (.inl ((s.1 + (nI 1)), mu13)))))))
  ))
set_option maxHeartbeats 4000000 in
theorem wFX12_addAll_b52 {nx : Nat} {sh : bs_Sh} {R : Nat → Nat → Option Nat} {m : Nat} (HM : fg_S (bs_tM m) R m sh) {l1 : Int32} {l2 : Int32} {l3 : Int32} {Ph : bs_Po} {s : Int32 × bs_Mm} {r : (Int32 × bs_Mm) ⊕ (bs_Mm)} (ka : ∀ s, r = .inl s → fg_R R s.2 → bs_W Ph mX12_addAll (bs_rm 1 0 0) 52 (bs_mk [(0, .ref m), (1, .int l1), (2, .int l2), (3, .int l3), (4, .int s.1)]) [] 0 0 nx sh s.2) (ke : ∀ s, r = .inr s → fg_R R s → bs_W Ph mX12_addAll (bs_rm 1 0 0) 116 (bs_mk [(0, .ref m), (1, .int l1), (2, .int l2), (3, .int l3)]) [] 0 0 nx sh s) (hR : fg_R R s.2) (h : FX12_addAll_b52 m l1 l2 l3 s = some r) : bs_W Ph mX12_addAll (bs_rm 1 0 0) 52 (bs_mk [(0, .ref m), (1, .int l1), (2, .int l2), (3, .int l3), (4, .int s.1)]) [] 0 0 nx sh s.2 := by
  unfold FX12_addAll_b52 at h
  refine bs_iload dX12_addAll_52 rfl ?_
  refine bs_aload_n dX12_addAll_54 rfl ?_
  refine fg_getR (b := (m + 8)) dX12_addAll_55 fX12_31 (HM.s 0 rfl rfl rfl) hR (HM.r 0 13 rfl rfl rfl) ?_
  refine bs_iload_n dX12_addAll_58 rfl ?_
  obtain ⟨g7, h⟩ := fg_gdE h
  refine bs_iald dX12_addAll_59 (HM.ss 8 rfl rfl) (fg_in_ix g7) ?_
  refine bs_icmp_ge (tgt := 116) dX12_addAll_60 (by decide) (fun c => ?_) (fun c => ?_)
  · replace h := fg_ip c h
    cases h
    refine bs_W.mk [(0, .ref m), (1, .int l1), (2, .int l2), (3, .int l3)] (by intro q hq; simp only [List.mem_cons, List.not_mem_nil, or_false] at hq; rcases hq with rfl | rfl | rfl | rfl <;> rfl) (ke _ rfl hR)
  · replace h := fg_iN c h
    refine bs_bipush (v := (nI 24)) dX12_addAll_63 (by decide) ?_
    refine bs_iload_n dX12_addAll_65 rfl ?_
    refine bs_imul dX12_addAll_66 ?_
    refine bs_iload dX12_addAll_67 rfl ?_
    refine bs_iadd dX12_addAll_69 ?_
    refine bs_istore dX12_addAll_70 rfl (by decide) ?_
    refine bs_aload_n dX12_addAll_72 rfl ?_
    refine bs_aload_n dX12_addAll_73 rfl ?_
    refine fg_getR (b := (m + 10)) dX12_addAll_74 fX12_37 (HM.s 0 rfl rfl rfl) hR (HM.r 0 15 rfl rfl rfl) ?_
    refine bs_iload dX12_addAll_77 rfl ?_
    obtain ⟨g8, h⟩ := fg_gdE h
    refine bs_iald dX12_addAll_79 (HM.ss 10 rfl rfl) (fg_in_ix g8) ?_
    refine bs_iload_n dX12_addAll_80 rfl ?_
    refine bs_aload_n dX12_addAll_81 rfl ?_
    refine fg_getR (b := (m + 13)) dX12_addAll_82 fX12_46 (HM.s 0 rfl rfl rfl) hR (HM.r 0 18 rfl rfl rfl) ?_
    refine bs_iload dX12_addAll_85 rfl ?_
    obtain ⟨g9, h⟩ := fg_gdE h
    refine bs_iald dX12_addAll_87 (HM.ss 13 rfl rfl) (fg_in_ix g9) ?_
    refine bs_iadd dX12_addAll_88 ?_
    refine bs_iload_n dX12_addAll_89 rfl ?_
    refine bs_aload_n dX12_addAll_90 rfl ?_
    refine fg_getR (b := (m + 11)) dX12_addAll_91 fX12_40 (HM.s 0 rfl rfl rfl) hR (HM.r 0 16 rfl rfl rfl) ?_
    refine bs_iload dX12_addAll_94 rfl ?_
    obtain ⟨g10, h⟩ := fg_gdE h
    refine bs_iald dX12_addAll_96 (HM.ss 11 rfl rfl) (fg_in_ix g10) ?_
    refine bs_iadd dX12_addAll_97 ?_
    refine bs_iload_n dX12_addAll_98 rfl ?_
    refine bs_aload_n dX12_addAll_99 rfl ?_
    refine fg_getR (b := (m + 12)) dX12_addAll_100 fX12_43 (HM.s 0 rfl rfl rfl) hR (HM.r 0 17 rfl rfl rfl) ?_
    refine bs_iload dX12_addAll_103 rfl ?_
    obtain ⟨g11, h⟩ := fg_gdE h
    refine bs_iald dX12_addAll_105 (HM.ss 12 rfl rfl) (fg_in_ix g11) ?_
    refine bs_iadd dX12_addAll_106 ?_
    obtain ⟨mu13, k12, h⟩ := fg_bdE h
    refine fg_callVv dX12_addAll_107 qX12_319 (wX12_put HM hR k12) rfl (HM.s 0 rfl rfl rfl) rfl (Nat.le_of_ble_eq_true rfl) (fg_cr (by first | decide | omega) (by decide)) (fun hR => ?_)
    refine fg_iinc (m := (nI 1)) dX12_addAll_110 rfl rfl (by decide) ?_
    refine bs_goto (tgt := 52) dX12_addAll_113 (by decide) ?_
    cases h
    refine bs_W.mk [(0, .ref m), (1, .int l1), (2, .int l2), (3, .int l3), (4, .int (s.1 + (nI 1)))] (by intro q hq; simp only [List.mem_cons, List.not_mem_nil, or_false] at hq; rcases hq with rfl | rfl | rfl | rfl | rfl <;> rfl) (by have k := ka _ rfl hR; dsimp only at k; exact k)
theorem wFX12_addAll_l52 {nx : Nat} {sh : bs_Sh} {R : Nat → Nat → Option Nat} {m : Nat} (HM : fg_S (bs_tM m) R m sh) {l1 : Int32} {l2 : Int32} {l3 : Int32} {Ph : bs_Po} {t : bs_Mm} : ∀ n (y0 : Int32) (mu1 : bs_Mm), fg_lp (FX12_addAll_b52 m l1 l2 l3) n (y0, mu1) = some t → fg_R R mu1 → (ke : ∀ s, t = s → fg_R R s → bs_W Ph mX12_addAll (bs_rm 1 0 0) 116 (bs_mk [(0, .ref m), (1, .int l1), (2, .int l2), (3, .int l3)]) [] 0 0 nx sh s) → bs_W Ph mX12_addAll (bs_rm 1 0 0) 52 (bs_mk [(0, .ref m), (1, .int l1), (2, .int l2), (3, .int l3), (4, .int y0)]) [] 0 0 nx sh mu1 := by
  intro n
  induction n with
  | zero => intro y0 mu1 h; exact absurd h (fun z => fg_lp0 z)
  | succ n ih =>
    intro y0 mu1 h hR ke
    obtain ⟨r, hb, h1, h2⟩ := fg_lpE h
    exact wFX12_addAll_b52 (s := (y0, mu1)) HM (fun s' e hR' => ih s'.1 s'.2 (h1 s' e) hR' ke) (fun s' e => ke s' (h2 _ e).symm) hR hb
noncomputable def FX12_addAll (m : Nat) (mu : bs_Mm) (p1 : Int32) (p2 : Int32) (p3 : Int32) : Option (bs_Mm) :=
  fg_bd (fg_lp (FX12_addAll_b3 m p1 p2 p3) fg_fu ((nI 0), mu)) (fun t5 => 
    fg_bd (fg_lp (FX12_addAll_b52 m p1 p2 p3) fg_fu ((nI 0), t5)) (fun t14 => 
      some t14
    )
  )
set_option maxHeartbeats 4000000 in
theorem wX12_addAll {nx : Nat} {sh : bs_Sh} {R : Nat → Nat → Option Nat} {m : Nat} (HM : fg_S (bs_tM m) R m sh) {mu : bs_Mm} (hR : fg_R R mu) {p1 : Int32} {p2 : Int32} {p3 : Int32} {r : bs_Mm} (h : FX12_addAll m mu p1 p2 p3 = some r) : bs_C mX12_addAll (bs_rm 1 0 0) [.ref m, .int p1, .int p2, .int p3] nx sh mu (fg_po R nx sh none r) := by
  refine bs_ct (by decide +kernel) (Nat.le_of_ble_eq_true rfl) ?_
  have kr : ∀ q, r = q → fg_R R q → (fg_po R nx sh none r) none nx sh q := fun q e hq => by subst e; exact ⟨rfl, rfl, rfl, rfl, hq⟩
  unfold FX12_addAll at h
  refine bs_iconst (v := (nI 0)) dX12_addAll_0 (by decide) ?_
  refine bs_istore dX12_addAll_1 rfl (by decide) ?_
  obtain ⟨t5, k6, h⟩ := fg_bdE h
  refine bs_W.mk [(0, .ref m), (1, .int p1), (2, .int p2), (3, .int p3), (4, .int (nI 0))] (by intro q hq; simp only [List.mem_cons, List.not_mem_nil, or_false] at hq; rcases hq with rfl | rfl | rfl | rfl | rfl <;> rfl) ?_
  refine wFX12_addAll_l3 HM _ _ _ k6 hR ?_
  intro s e hR
  subst e
  refine bs_iconst (v := (nI 0)) dX12_addAll_49 (by decide) ?_
  refine bs_istore dX12_addAll_50 rfl (by decide) ?_
  obtain ⟨t14, k15, h⟩ := fg_bdE h
  refine bs_W.mk [(0, .ref m), (1, .int p1), (2, .int p2), (3, .int p3), (4, .int (nI 0))] (by intro q hq; simp only [List.mem_cons, List.not_mem_nil, or_false] at hq; rcases hq with rfl | rfl | rfl | rfl | rfl <;> rfl) ?_
  refine wFX12_addAll_l52 HM _ _ _ k15 hR ?_
  intro s e hR
  subst e
  cases h
  exact bs_vret dX12_addAll_116 rfl (Nat.zero_le _) (Nat.zero_le _) (kr _ rfl hR)
noncomputable def FX12_find_b2 (m : Nat) (mu : bs_Mm) (l1 : Int32) (s : Int32) : Option ((Int32) ⊕ (Int32)) :=
  fg_gd (fg_in s 60) (
  if (bs_iv (mu (m + 15) s.toNatClampNeg)) = s then (
    some (.inr s)
  ) else (
    fg_gd (fg_in s 60) (
    some (.inl (bs_iv (mu (m + 15) s.toNatClampNeg))))
  ))
set_option maxHeartbeats 4000000 in
theorem wFX12_find_b2 {nx : Nat} {sh : bs_Sh} {R : Nat → Nat → Option Nat} {m : Nat} (HM : fg_S (bs_tM m) R m sh) {mu : bs_Mm} {l1 : Int32} {Ph : bs_Po} {s : Int32} {r : (Int32) ⊕ (Int32)} (ka : ∀ s, r = .inl s → bs_W Ph mX12_find (bs_rm 0 0 0) 2 (bs_mk [(0, .ref m), (1, .int l1), (2, .int s)]) [] 0 0 nx sh mu) (ke : ∀ s, r = .inr s → bs_W Ph mX12_find (bs_rm 0 0 0) 22 (bs_mk [(0, .ref m), (1, .int l1), (2, .int s)]) [] 0 0 nx sh mu) (hR : fg_R R mu) (h : FX12_find_b2 m mu l1 s = some r) : bs_W Ph mX12_find (bs_rm 0 0 0) 2 (bs_mk [(0, .ref m), (1, .int l1), (2, .int s)]) [] 0 0 nx sh mu := by
  unfold FX12_find_b2 at h
  refine bs_aload_n dX12_find_2 rfl ?_
  refine fg_getR (b := (m + 15)) dX12_find_3 fX12_52 (HM.s 0 rfl rfl rfl) hR (HM.r 0 21 rfl rfl rfl) ?_
  refine bs_iload_n dX12_find_6 rfl ?_
  obtain ⟨g1, h⟩ := fg_gdE h
  refine bs_iald dX12_find_7 (HM.ss 15 rfl rfl) (fg_in_ix g1) ?_
  refine bs_iload_n dX12_find_8 rfl ?_
  refine bs_icmp_eq (tgt := 22) dX12_find_9 (by decide) (fun c => ?_) (fun c => ?_)
  · replace h := fg_ip c h
    cases h
    refine bs_W.mk [(0, .ref m), (1, .int l1), (2, .int s)] (by intro q hq; simp only [List.mem_cons, List.not_mem_nil, or_false] at hq; rcases hq with rfl | rfl | rfl <;> rfl) (ke _ rfl)
  · replace h := fg_iN c h
    refine bs_aload_n dX12_find_12 rfl ?_
    refine fg_getR (b := (m + 15)) dX12_find_13 fX12_52 (HM.s 0 rfl rfl rfl) hR (HM.r 0 21 rfl rfl rfl) ?_
    refine bs_iload_n dX12_find_16 rfl ?_
    obtain ⟨g2, h⟩ := fg_gdE h
    refine bs_iald dX12_find_17 (HM.ss 15 rfl rfl) (fg_in_ix g2) ?_
    refine bs_istore_n dX12_find_18 rfl (by decide) ?_
    refine bs_goto (tgt := 2) dX12_find_19 (by decide) ?_
    cases h
    refine bs_W.mk [(0, .ref m), (1, .int l1), (2, .int (bs_iv (mu (m + 15) s.toNatClampNeg)))] (by intro q hq; simp only [List.mem_cons, List.not_mem_nil, or_false] at hq; rcases hq with rfl | rfl | rfl <;> rfl) (ka _ rfl)
theorem wFX12_find_l2 {nx : Nat} {sh : bs_Sh} {R : Nat → Nat → Option Nat} {m : Nat} (HM : fg_S (bs_tM m) R m sh) {mu : bs_Mm} {l1 : Int32} {Ph : bs_Po} {t : Int32} : ∀ n (y0 : Int32), fg_lp (FX12_find_b2 m mu l1) n y0 = some t → fg_R R mu → (ke : ∀ s, t = s → bs_W Ph mX12_find (bs_rm 0 0 0) 22 (bs_mk [(0, .ref m), (1, .int l1), (2, .int s)]) [] 0 0 nx sh mu) → bs_W Ph mX12_find (bs_rm 0 0 0) 2 (bs_mk [(0, .ref m), (1, .int l1), (2, .int y0)]) [] 0 0 nx sh mu := by
  intro n
  induction n with
  | zero => intro y0 h; exact absurd h (fun z => fg_lp0 z)
  | succ n ih =>
    intro y0 h hR ke
    obtain ⟨r, hb, h1, h2⟩ := fg_lpE h
    exact wFX12_find_b2 (s := y0) HM (fun s' e => ih s' (h1 s' e) hR ke) (fun s' e => ke s' (h2 _ e).symm) hR hb
noncomputable def FX12_find (m : Nat) (mu : bs_Mm) (p1 : Int32) : Option (Int32) :=
  fg_bd (fg_lp (FX12_find_b2 m mu p1) fg_fu p1) (fun t3 => 
    some (t3)
  )
set_option maxHeartbeats 4000000 in
theorem wX12_find {nx : Nat} {sh : bs_Sh} {R : Nat → Nat → Option Nat} {m : Nat} (HM : fg_S (bs_tM m) R m sh) {mu : bs_Mm} (hR : fg_R R mu) {p1 : Int32} {r : Int32} (h : FX12_find m mu p1 = some r) : bs_C mX12_find (bs_rm 0 0 0) [.ref m, .int p1] nx sh mu (fg_po R nx sh (some (.int r)) mu) := by
  refine bs_ct (by decide +kernel) (Nat.le_of_ble_eq_true rfl) ?_
  have kr : ∀ q, r = q → fg_R R mu → (fg_po R nx sh (some (.int r)) mu) (some (.int q)) nx sh mu := fun q e hq => by subst e; exact ⟨rfl, rfl, rfl, rfl, hq⟩
  unfold FX12_find at h
  refine bs_iload_n dX12_find_0 rfl ?_
  refine bs_istore_n dX12_find_1 rfl (by decide) ?_
  obtain ⟨t3, k4, h⟩ := fg_bdE h
  refine bs_W.mk [(0, .ref m), (1, .int p1), (2, .int p1)] (by intro q hq; simp only [List.mem_cons, List.not_mem_nil, or_false] at hq; rcases hq with rfl | rfl | rfl <;> rfl) ?_
  refine wFX12_find_l2 HM _ _ k4 hR ?_
  intro s e
  subst e
  refine bs_iload_n dX12_find_22 rfl ?_
  cases h
  exact bs_iret dX12_find_23 rfl (Nat.zero_le _) (Nat.zero_le _) (kr _ rfl hR)
noncomputable def FX12_isTwist (m : Nat) (mu : bs_Mm) (p1 : Int32) (p2 : Int32) : Option (Int32) :=
  fg_gd (fg_in p1 13) (
  if (bs_iv (mu (m + 8) p1.toNatClampNeg)) ≤ (p2 + (nI 1)) then (
    some ((nI 0))
  ) else (
    fg_gd (fg_in (((nI 24) * p1) + p2) 312) (
    fg_gd (fg_in ((((nI 24) * p1) + p2) + (nI 1)) 312) (
    if (bs_iv (mu (m + 13) (((nI 24) * p1) + p2).toNatClampNeg)) = (bs_iv (mu (m + 13) ((((nI 24) * p1) + p2) + (nI 1)).toNatClampNeg)) then (
      some ((nI 1))
    ) else (
      some ((nI 0))
    )))
  ))
set_option maxHeartbeats 4000000 in
theorem wX12_isTwist {nx : Nat} {sh : bs_Sh} {R : Nat → Nat → Option Nat} {m : Nat} (HM : fg_S (bs_tM m) R m sh) {mu : bs_Mm} (hR : fg_R R mu) {p1 : Int32} {p2 : Int32} {r : Int32} (h : FX12_isTwist m mu p1 p2 = some r) : bs_C mX12_isTwist (bs_rm 0 0 0) [.ref m, .int p1, .int p2] nx sh mu (fg_po R nx sh (some (.int r)) mu) := by
  refine bs_ct (by decide +kernel) (Nat.le_of_ble_eq_true rfl) ?_
  have kr : ∀ q, r = q → fg_R R mu → (fg_po R nx sh (some (.int r)) mu) (some (.int q)) nx sh mu := fun q e hq => by subst e; exact ⟨rfl, rfl, rfl, rfl, hq⟩
  unfold FX12_isTwist at h
  refine bs_iload_n dX12_isTwist_0 rfl ?_
  refine bs_iconst (v := (nI 1)) dX12_isTwist_1 (by decide) ?_
  refine bs_iadd dX12_isTwist_2 ?_
  refine bs_aload_n dX12_isTwist_3 rfl ?_
  refine fg_getR (b := (m + 8)) dX12_isTwist_4 fX12_31 (HM.s 0 rfl rfl rfl) hR (HM.r 0 13 rfl rfl rfl) ?_
  refine bs_iload_n dX12_isTwist_7 rfl ?_
  obtain ⟨g1, h⟩ := fg_gdE h
  refine bs_iald dX12_isTwist_8 (HM.ss 8 rfl rfl) (fg_in_ix g1) ?_
  refine bs_icmp_ge (tgt := 43) dX12_isTwist_9 (by decide) (fun c => ?_) (fun c => ?_)
  · replace h := fg_ip c h
    refine bs_iconst (v := (nI 0)) dX12_isTwist_43 (by decide) ?_
    cases h
    exact bs_zret dX12_isTwist_44 rfl (Or.inl rfl) (Nat.zero_le _) (Nat.zero_le _) (kr _ rfl hR)
  · replace h := fg_iN c h
    refine bs_aload_n dX12_isTwist_12 rfl ?_
    refine fg_getR (b := (m + 13)) dX12_isTwist_13 fX12_46 (HM.s 0 rfl rfl rfl) hR (HM.r 0 18 rfl rfl rfl) ?_
    refine bs_bipush (v := (nI 24)) dX12_isTwist_16 (by decide) ?_
    refine bs_iload_n dX12_isTwist_18 rfl ?_
    refine bs_imul dX12_isTwist_19 ?_
    refine bs_iload_n dX12_isTwist_20 rfl ?_
    refine bs_iadd dX12_isTwist_21 ?_
    obtain ⟨g2, h⟩ := fg_gdE h
    refine bs_iald dX12_isTwist_22 (HM.ss 13 rfl rfl) (fg_in_ix g2) ?_
    refine bs_aload_n dX12_isTwist_23 rfl ?_
    refine fg_getR (b := (m + 13)) dX12_isTwist_24 fX12_46 (HM.s 0 rfl rfl rfl) hR (HM.r 0 18 rfl rfl rfl) ?_
    refine bs_bipush (v := (nI 24)) dX12_isTwist_27 (by decide) ?_
    refine bs_iload_n dX12_isTwist_29 rfl ?_
    refine bs_imul dX12_isTwist_30 ?_
    refine bs_iload_n dX12_isTwist_31 rfl ?_
    refine bs_iadd dX12_isTwist_32 ?_
    refine bs_iconst (v := (nI 1)) dX12_isTwist_33 (by decide) ?_
    refine bs_iadd dX12_isTwist_34 ?_
    obtain ⟨g3, h⟩ := fg_gdE h
    refine bs_iald dX12_isTwist_35 (HM.ss 13 rfl rfl) (fg_in_ix g3) ?_
    refine bs_icmp_ne (tgt := 43) dX12_isTwist_36 (by decide) (fun c => ?_) (fun c => ?_)
    · replace h := fg_iN c h
      refine bs_iconst (v := (nI 0)) dX12_isTwist_43 (by decide) ?_
      cases h
      exact bs_zret dX12_isTwist_44 rfl (Or.inl rfl) (Nat.zero_le _) (Nat.zero_le _) (kr _ rfl hR)
    · replace h := fg_ip c h
      refine bs_iconst (v := (nI 1)) dX12_isTwist_39 (by decide) ?_
      refine bs_goto (tgt := 44) dX12_isTwist_40 (by decide) ?_
      cases h
      exact bs_zret dX12_isTwist_44 rfl (Or.inr rfl) (Nat.zero_le _) (Nat.zero_le _) (kr _ rfl hR)
noncomputable def FX12_endsIn_j50_L6 (m : Nat) (mu : bs_Mm) (l1 : Int32) (l2 : Int32) (l3 : Int32) (l5 : Int32) (t0 : Int32) (t1 : Int32) : Option ((Int32 × Int32) ⊕ (Int32)) :=
  fg_gd (fg_in (((nI 24) * l1) + l5) 312) (
  if (bs_iv (mu (m + 12) (((nI 24) * l1) + l5).toNatClampNeg)) = l2 then (
    some (.inl (((t0 + t1) + (nI 1)), (l5 + (nI 1))))
  ) else (
    some (.inl (((t0 + t1) + (nI 0)), (l5 + (nI 1))))
  ))
set_option maxHeartbeats 4000000 in
theorem wFX12_endsIn_j50_L6 {nx : Nat} {sh : bs_Sh} {R : Nat → Nat → Option Nat} {m : Nat} (HM : fg_S (bs_tM m) R m sh) {mu : bs_Mm} {l1 : Int32} {l2 : Int32} {l3 : Int32} {l5 : Int32} {t0 : Int32} {t1 : Int32} {Ph : bs_Po} {r : (Int32 × Int32) ⊕ (Int32)} (ka : ∀ s, r = .inl s → bs_W Ph mX12_endsIn (bs_rm 0 0 0) 6 (bs_mk [(0, .ref m), (1, .int l1), (2, .int l2), (3, .int l3), (4, .int s.1), (5, .int s.2)]) [] 0 0 nx sh mu) (ke : ∀ s, r = .inr s → bs_W Ph mX12_endsIn (bs_rm 0 0 0) 85 (bs_mk [(0, .ref m), (1, .int l1), (2, .int l2), (3, .int l3), (4, .int s)]) [] 0 0 nx sh mu) (hR : fg_R R mu) (h : FX12_endsIn_j50_L6 m mu l1 l2 l3 l5 t0 t1 = some r) : bs_W Ph mX12_endsIn (bs_rm 0 0 0) 50 (bs_mk [(0, .ref m), (1, .int l1), (2, .int l2), (3, .int l3), (5, .int l5)]) [.int t1, .int t0] 0 0 nx sh mu := by
  unfold FX12_endsIn_j50_L6 at h
  refine bs_iadd dX12_endsIn_50 ?_
  refine bs_istore dX12_endsIn_51 rfl (by decide) ?_
  refine bs_iload dX12_endsIn_53 rfl ?_
  refine bs_aload_n dX12_endsIn_55 rfl ?_
  refine fg_getR (b := (m + 12)) dX12_endsIn_56 fX12_43 (HM.s 0 rfl rfl rfl) hR (HM.r 0 17 rfl rfl rfl) ?_
  refine bs_bipush (v := (nI 24)) dX12_endsIn_59 (by decide) ?_
  refine bs_iload_n dX12_endsIn_61 rfl ?_
  refine bs_imul dX12_endsIn_62 ?_
  refine bs_iload dX12_endsIn_63 rfl ?_
  refine bs_iadd dX12_endsIn_65 ?_
  obtain ⟨g3, h⟩ := fg_gdE h
  refine bs_iald dX12_endsIn_66 (HM.ss 12 rfl rfl) (fg_in_ix g3) ?_
  refine bs_iload_n dX12_endsIn_67 rfl ?_
  refine bs_icmp_ne (tgt := 75) dX12_endsIn_68 (by decide) (fun c => ?_) (fun c => ?_)
  · replace h := fg_iN c h
    refine bs_iconst (v := (nI 0)) dX12_endsIn_75 (by decide) ?_
    refine bs_iadd dX12_endsIn_76 ?_
    refine bs_istore dX12_endsIn_77 rfl (by decide) ?_
    refine fg_iinc (m := (nI 1)) dX12_endsIn_79 rfl rfl (by decide) ?_
    refine bs_goto (tgt := 6) dX12_endsIn_82 (by decide) ?_
    cases h
    refine bs_W.mk [(0, .ref m), (1, .int l1), (2, .int l2), (3, .int l3), (4, .int ((t0 + t1) + (nI 0))), (5, .int (l5 + (nI 1)))] (by intro q hq; simp only [List.mem_cons, List.not_mem_nil, or_false] at hq; rcases hq with rfl | rfl | rfl | rfl | rfl | rfl <;> rfl) (by have k := ka _ rfl; dsimp only at k; exact k)
  · replace h := fg_ip c h
    refine bs_iconst (v := (nI 1)) dX12_endsIn_71 (by decide) ?_
    refine bs_goto (tgt := 76) dX12_endsIn_72 (by decide) ?_
    refine bs_iadd dX12_endsIn_76 ?_
    refine bs_istore dX12_endsIn_77 rfl (by decide) ?_
    refine fg_iinc (m := (nI 1)) dX12_endsIn_79 rfl rfl (by decide) ?_
    refine bs_goto (tgt := 6) dX12_endsIn_82 (by decide) ?_
    cases h
    refine bs_W.mk [(0, .ref m), (1, .int l1), (2, .int l2), (3, .int l3), (4, .int ((t0 + t1) + (nI 1))), (5, .int (l5 + (nI 1)))] (by intro q hq; simp only [List.mem_cons, List.not_mem_nil, or_false] at hq; rcases hq with rfl | rfl | rfl | rfl | rfl | rfl <;> rfl) (by have k := ka _ rfl; dsimp only at k; exact k)
noncomputable def FX12_endsIn_b6 (m : Nat) (mu : bs_Mm) (l1 : Int32) (l2 : Int32) (l3 : Int32) (s : Int32 × Int32) : Option ((Int32 × Int32) ⊕ (Int32)) :=
  fg_gd (fg_in l1 13) (
  if (bs_iv (mu (m + 8) l1.toNatClampNeg)) ≤ s.2 then (
    some (.inr s.1)
  ) else (
    if ((l3 >>> (s.2 &&& 31)) &&& (nI 1)) = (nI 1) then (
      fg_gd (fg_in (((nI 24) * l1) + s.2) 312) (
      if (bs_iv (mu (m + 11) (((nI 24) * l1) + s.2).toNatClampNeg)) = l2 then (
        FX12_endsIn_j50_L6 m mu l1 l2 l3 s.2 s.1 (nI 1)
      ) else (
        FX12_endsIn_j50_L6 m mu l1 l2 l3 s.2 s.1 (nI 0)
      ))
    ) else (
      some (.inl (s.1, (s.2 + (nI 1))))
    )
  ))
set_option maxHeartbeats 4000000 in
theorem wFX12_endsIn_b6 {nx : Nat} {sh : bs_Sh} {R : Nat → Nat → Option Nat} {m : Nat} (HM : fg_S (bs_tM m) R m sh) {mu : bs_Mm} {l1 : Int32} {l2 : Int32} {l3 : Int32} {Ph : bs_Po} {s : Int32 × Int32} {r : (Int32 × Int32) ⊕ (Int32)} (ka : ∀ s, r = .inl s → bs_W Ph mX12_endsIn (bs_rm 0 0 0) 6 (bs_mk [(0, .ref m), (1, .int l1), (2, .int l2), (3, .int l3), (4, .int s.1), (5, .int s.2)]) [] 0 0 nx sh mu) (ke : ∀ s, r = .inr s → bs_W Ph mX12_endsIn (bs_rm 0 0 0) 85 (bs_mk [(0, .ref m), (1, .int l1), (2, .int l2), (3, .int l3), (4, .int s)]) [] 0 0 nx sh mu) (hR : fg_R R mu) (h : FX12_endsIn_b6 m mu l1 l2 l3 s = some r) : bs_W Ph mX12_endsIn (bs_rm 0 0 0) 6 (bs_mk [(0, .ref m), (1, .int l1), (2, .int l2), (3, .int l3), (4, .int s.1), (5, .int s.2)]) [] 0 0 nx sh mu := by
  unfold FX12_endsIn_b6 at h
  refine bs_iload dX12_endsIn_6 rfl ?_
  refine bs_aload_n dX12_endsIn_8 rfl ?_
  refine fg_getR (b := (m + 8)) dX12_endsIn_9 fX12_31 (HM.s 0 rfl rfl rfl) hR (HM.r 0 13 rfl rfl rfl) ?_
  refine bs_iload_n dX12_endsIn_12 rfl ?_
  obtain ⟨g1, h⟩ := fg_gdE h
  refine bs_iald dX12_endsIn_13 (HM.ss 8 rfl rfl) (fg_in_ix g1) ?_
  refine bs_icmp_ge (tgt := 85) dX12_endsIn_14 (by decide) (fun c => ?_) (fun c => ?_)
  · replace h := fg_ip c h
    cases h
    refine bs_W.mk [(0, .ref m), (1, .int l1), (2, .int l2), (3, .int l3), (4, .int s.1)] (by intro q hq; simp only [List.mem_cons, List.not_mem_nil, or_false] at hq; rcases hq with rfl | rfl | rfl | rfl | rfl <;> rfl) (ke _ rfl)
  · replace h := fg_iN c h
    refine bs_iload_n dX12_endsIn_17 rfl ?_
    refine bs_iload dX12_endsIn_18 rfl ?_
    refine bs_ishr dX12_endsIn_20 ?_
    refine bs_iconst (v := (nI 1)) dX12_endsIn_21 (by decide) ?_
    refine bs_iand dX12_endsIn_22 ?_
    refine bs_iconst (v := (nI 1)) dX12_endsIn_23 (by decide) ?_
    refine bs_icmp_ne (tgt := 79) dX12_endsIn_24 (by decide) (fun c => ?_) (fun c => ?_)
    · replace h := fg_iN c h
      refine fg_iinc (m := (nI 1)) dX12_endsIn_79 rfl rfl (by decide) ?_
      refine bs_goto (tgt := 6) dX12_endsIn_82 (by decide) ?_
      cases h
      refine bs_W.mk [(0, .ref m), (1, .int l1), (2, .int l2), (3, .int l3), (4, .int s.1), (5, .int (s.2 + (nI 1)))] (by intro q hq; simp only [List.mem_cons, List.not_mem_nil, or_false] at hq; rcases hq with rfl | rfl | rfl | rfl | rfl | rfl <;> rfl) (by have k := ka _ rfl; dsimp only at k; exact k)
    · replace h := fg_ip c h
      refine bs_iload dX12_endsIn_27 rfl ?_
      refine bs_aload_n dX12_endsIn_29 rfl ?_
      refine fg_getR (b := (m + 11)) dX12_endsIn_30 fX12_40 (HM.s 0 rfl rfl rfl) hR (HM.r 0 16 rfl rfl rfl) ?_
      refine bs_bipush (v := (nI 24)) dX12_endsIn_33 (by decide) ?_
      refine bs_iload_n dX12_endsIn_35 rfl ?_
      refine bs_imul dX12_endsIn_36 ?_
      refine bs_iload dX12_endsIn_37 rfl ?_
      refine bs_iadd dX12_endsIn_39 ?_
      obtain ⟨g2, h⟩ := fg_gdE h
      refine bs_iald dX12_endsIn_40 (HM.ss 11 rfl rfl) (fg_in_ix g2) ?_
      refine bs_iload_n dX12_endsIn_41 rfl ?_
      refine bs_icmp_ne (tgt := 49) dX12_endsIn_42 (by decide) (fun c => ?_) (fun c => ?_)
      · replace h := fg_iN c h
        refine bs_iconst (v := (nI 0)) dX12_endsIn_49 (by decide) ?_
        refine bs_W.mk [(0, .ref m), (1, .int l1), (2, .int l2), (3, .int l3), (5, .int s.2)] (by intro q hq; simp only [List.mem_cons, List.not_mem_nil, or_false] at hq; rcases hq with rfl | rfl | rfl | rfl | rfl <;> rfl) ?_
        exact wFX12_endsIn_j50_L6 HM ka ke hR h
      · replace h := fg_ip c h
        refine bs_iconst (v := (nI 1)) dX12_endsIn_45 (by decide) ?_
        refine bs_goto (tgt := 50) dX12_endsIn_46 (by decide) ?_
        refine bs_W.mk [(0, .ref m), (1, .int l1), (2, .int l2), (3, .int l3), (5, .int s.2)] (by intro q hq; simp only [List.mem_cons, List.not_mem_nil, or_false] at hq; rcases hq with rfl | rfl | rfl | rfl | rfl <;> rfl) ?_
        exact wFX12_endsIn_j50_L6 HM ka ke hR h
theorem wFX12_endsIn_l6 {nx : Nat} {sh : bs_Sh} {R : Nat → Nat → Option Nat} {m : Nat} (HM : fg_S (bs_tM m) R m sh) {mu : bs_Mm} {l1 : Int32} {l2 : Int32} {l3 : Int32} {Ph : bs_Po} {t : Int32} : ∀ n (y0 : Int32) (y1 : Int32), fg_lp (FX12_endsIn_b6 m mu l1 l2 l3) n (y0, y1) = some t → fg_R R mu → (ke : ∀ s, t = s → bs_W Ph mX12_endsIn (bs_rm 0 0 0) 85 (bs_mk [(0, .ref m), (1, .int l1), (2, .int l2), (3, .int l3), (4, .int s)]) [] 0 0 nx sh mu) → bs_W Ph mX12_endsIn (bs_rm 0 0 0) 6 (bs_mk [(0, .ref m), (1, .int l1), (2, .int l2), (3, .int l3), (4, .int y0), (5, .int y1)]) [] 0 0 nx sh mu := by
  intro n
  induction n with
  | zero => intro y0 y1 h; exact absurd h (fun z => fg_lp0 z)
  | succ n ih =>
    intro y0 y1 h hR ke
    obtain ⟨r, hb, h1, h2⟩ := fg_lpE h
    exact wFX12_endsIn_b6 (s := (y0, y1)) HM (fun s' e => ih s'.1 s'.2 (h1 s' e) hR ke) (fun s' e => ke s' (h2 _ e).symm) hR hb
noncomputable def FX12_endsIn (m : Nat) (mu : bs_Mm) (p1 : Int32) (p2 : Int32) (p3 : Int32) : Option (Int32) :=
  fg_bd (fg_lp (FX12_endsIn_b6 m mu p1 p2 p3) fg_fu ((nI 0), (nI 0))) (fun t4 => 
    some (t4)
  )
set_option maxHeartbeats 4000000 in
theorem wX12_endsIn {nx : Nat} {sh : bs_Sh} {R : Nat → Nat → Option Nat} {m : Nat} (HM : fg_S (bs_tM m) R m sh) {mu : bs_Mm} (hR : fg_R R mu) {p1 : Int32} {p2 : Int32} {p3 : Int32} {r : Int32} (h : FX12_endsIn m mu p1 p2 p3 = some r) : bs_C mX12_endsIn (bs_rm 0 0 0) [.ref m, .int p1, .int p2, .int p3] nx sh mu (fg_po R nx sh (some (.int r)) mu) := by
  refine bs_ct (by decide +kernel) (Nat.le_of_ble_eq_true rfl) ?_
  have kr : ∀ q, r = q → fg_R R mu → (fg_po R nx sh (some (.int r)) mu) (some (.int q)) nx sh mu := fun q e hq => by subst e; exact ⟨rfl, rfl, rfl, rfl, hq⟩
  unfold FX12_endsIn at h
  refine bs_iconst (v := (nI 0)) dX12_endsIn_0 (by decide) ?_
  refine bs_istore dX12_endsIn_1 rfl (by decide) ?_
  refine bs_iconst (v := (nI 0)) dX12_endsIn_3 (by decide) ?_
  refine bs_istore dX12_endsIn_4 rfl (by decide) ?_
  obtain ⟨t4, k5, h⟩ := fg_bdE h
  refine bs_W.mk [(0, .ref m), (1, .int p1), (2, .int p2), (3, .int p3), (4, .int (nI 0)), (5, .int (nI 0))] (by intro q hq; simp only [List.mem_cons, List.not_mem_nil, or_false] at hq; rcases hq with rfl | rfl | rfl | rfl | rfl | rfl <;> rfl) ?_
  refine wFX12_endsIn_l6 HM _ _ _ k5 hR ?_
  intro s e
  subst e
  refine bs_iload dX12_endsIn_85 rfl ?_
  cases h
  exact bs_iret dX12_endsIn_87 rfl (Nat.zero_le _) (Nat.zero_le _) (kr _ rfl hR)
noncomputable def FX12_handsOf_b29_L4 (m : Nat) (mu : bs_Mm) (l1 : Int32) (l2 : Int32) (l3 : Int32) (l4 : Int32) (s : Int32 × Int32) : Option ((Int32 × Int32) ⊕ (Int32)) :=
  if l3 ≤ s.2 then (
    some (.inr s.1)
  ) else (
    fg_bd (FX12_isTwist m mu l1 s.2) (fun v3 => 
    if v3 = 0 then (
      some (.inl ((s.1 + (nI 0)), (s.2 + (nI 1))))
    ) else (
      fg_gd (fg_in (((nI 24) * l1) + s.2) 312) (
      fg_bd (FX12_endsIn m mu l1 (bs_iv (mu (m + 12) (((nI 24) * l1) + s.2).toNatClampNeg)) l4) (fun v6 => 
      if (nI 3) ≤ v6 then (
        some (.inl ((s.1 + (nI 0)), (s.2 + (nI 1))))
      ) else (
        some (.inl ((s.1 + (nI 1)), (s.2 + (nI 1))))
      )))
    ))
  )
set_option maxHeartbeats 4000000 in
theorem wFX12_handsOf_b29_L4 {nx : Nat} {sh : bs_Sh} {R : Nat → Nat → Option Nat} {m : Nat} (HM : fg_S (bs_tM m) R m sh) {mu : bs_Mm} {l1 : Int32} {l2 : Int32} {l3 : Int32} {l4 : Int32} {Ph : bs_Po} {s : Int32 × Int32} {r : (Int32 × Int32) ⊕ (Int32)} (ka : ∀ s, r = .inl s → bs_W Ph mX12_handsOf (bs_rm 1 0 0) 29 (bs_mk [(0, .ref m), (1, .int l1), (2, .int l2), (3, .int l3), (4, .int l4), (5, .int s.1), (6, .int s.2)]) [] 0 0 nx sh mu) (ke : ∀ s, r = .inr s → bs_W Ph mX12_handsOf (bs_rm 1 0 0) 84 (bs_mk [(0, .ref m), (1, .int l1), (2, .int l2), (3, .int l3), (4, .int l4), (5, .int s)]) [] 0 0 nx sh mu) (hR : fg_R R mu) (h : FX12_handsOf_b29_L4 m mu l1 l2 l3 l4 s = some r) : bs_W Ph mX12_handsOf (bs_rm 1 0 0) 29 (bs_mk [(0, .ref m), (1, .int l1), (2, .int l2), (3, .int l3), (4, .int l4), (5, .int s.1), (6, .int s.2)]) [] 0 0 nx sh mu := by
  unfold FX12_handsOf_b29_L4 at h
  refine bs_iload dX12_handsOf_29 rfl ?_
  refine bs_iload_n dX12_handsOf_31 rfl ?_
  refine bs_icmp_ge (tgt := 84) dX12_handsOf_32 (by decide) (fun c => ?_) (fun c => ?_)
  · replace h := fg_ip c h
    cases h
    refine bs_W.mk [(0, .ref m), (1, .int l1), (2, .int l2), (3, .int l3), (4, .int l4), (5, .int s.1)] (by intro q hq; simp only [List.mem_cons, List.not_mem_nil, or_false] at hq; rcases hq with rfl | rfl | rfl | rfl | rfl | rfl <;> rfl) (ke _ rfl)
  · replace h := fg_iN c h
    refine bs_iload dX12_handsOf_35 rfl ?_
    refine bs_aload_n dX12_handsOf_37 rfl ?_
    refine bs_iload_n dX12_handsOf_38 rfl ?_
    refine bs_iload dX12_handsOf_39 rfl ?_
    obtain ⟨v3, k2, h⟩ := fg_bdE h
    refine fg_callV dX12_handsOf_41 qX12_294 (wX12_isTwist HM hR k2) rfl (HM.s 0 rfl rfl rfl) rfl (Nat.le_of_ble_eq_true rfl) (fg_cr (by first | decide | omega) (by decide)) (fun hR => ?_)
    refine bs_if_eq (tgt := 74) dX12_handsOf_44 (by decide) (fun c => ?_) (fun c => ?_)
    · replace h := fg_ip c h
      refine bs_iconst (v := (nI 0)) dX12_handsOf_74 (by decide) ?_
      refine bs_iadd dX12_handsOf_75 ?_
      refine bs_istore dX12_handsOf_76 rfl (by decide) ?_
      refine fg_iinc (m := (nI 1)) dX12_handsOf_78 rfl rfl (by decide) ?_
      refine bs_goto (tgt := 29) dX12_handsOf_81 (by decide) ?_
      cases h
      refine bs_W.mk [(0, .ref m), (1, .int l1), (2, .int l2), (3, .int l3), (4, .int l4), (5, .int (s.1 + (nI 0))), (6, .int (s.2 + (nI 1)))] (by intro q hq; simp only [List.mem_cons, List.not_mem_nil, or_false] at hq; rcases hq with rfl | rfl | rfl | rfl | rfl | rfl | rfl <;> rfl) (by have k := ka _ rfl; dsimp only at k; exact k)
    · replace h := fg_iN c h
      refine bs_aload_n dX12_handsOf_47 rfl ?_
      refine bs_iload_n dX12_handsOf_48 rfl ?_
      refine bs_aload_n dX12_handsOf_49 rfl ?_
      refine fg_getR (b := (m + 12)) dX12_handsOf_50 fX12_43 (HM.s 0 rfl rfl rfl) hR (HM.r 0 17 rfl rfl rfl) ?_
      refine bs_bipush (v := (nI 24)) dX12_handsOf_53 (by decide) ?_
      refine bs_iload_n dX12_handsOf_55 rfl ?_
      refine bs_imul dX12_handsOf_56 ?_
      refine bs_iload dX12_handsOf_57 rfl ?_
      refine bs_iadd dX12_handsOf_59 ?_
      obtain ⟨g4, h⟩ := fg_gdE h
      refine bs_iald dX12_handsOf_60 (HM.ss 12 rfl rfl) (fg_in_ix g4) ?_
      refine bs_iload dX12_handsOf_61 rfl ?_
      obtain ⟨v6, k5, h⟩ := fg_bdE h
      refine fg_callV dX12_handsOf_63 qX12_290 (wX12_endsIn HM hR k5) rfl (HM.s 0 rfl rfl rfl) rfl (Nat.le_of_ble_eq_true rfl) (fg_cr (by first | decide | omega) (by decide)) (fun hR => ?_)
      refine bs_iconst (v := (nI 3)) dX12_handsOf_66 (by decide) ?_
      refine bs_icmp_ge (tgt := 74) dX12_handsOf_67 (by decide) (fun c => ?_) (fun c => ?_)
      · replace h := fg_ip c h
        refine bs_iconst (v := (nI 0)) dX12_handsOf_74 (by decide) ?_
        refine bs_iadd dX12_handsOf_75 ?_
        refine bs_istore dX12_handsOf_76 rfl (by decide) ?_
        refine fg_iinc (m := (nI 1)) dX12_handsOf_78 rfl rfl (by decide) ?_
        refine bs_goto (tgt := 29) dX12_handsOf_81 (by decide) ?_
        cases h
        refine bs_W.mk [(0, .ref m), (1, .int l1), (2, .int l2), (3, .int l3), (4, .int l4), (5, .int (s.1 + (nI 0))), (6, .int (s.2 + (nI 1)))] (by intro q hq; simp only [List.mem_cons, List.not_mem_nil, or_false] at hq; rcases hq with rfl | rfl | rfl | rfl | rfl | rfl | rfl <;> rfl) (by have k := ka _ rfl; dsimp only at k; exact k)
      · replace h := fg_iN c h
        refine bs_iconst (v := (nI 1)) dX12_handsOf_70 (by decide) ?_
        refine bs_goto (tgt := 75) dX12_handsOf_71 (by decide) ?_
        refine bs_iadd dX12_handsOf_75 ?_
        refine bs_istore dX12_handsOf_76 rfl (by decide) ?_
        refine fg_iinc (m := (nI 1)) dX12_handsOf_78 rfl rfl (by decide) ?_
        refine bs_goto (tgt := 29) dX12_handsOf_81 (by decide) ?_
        cases h
        refine bs_W.mk [(0, .ref m), (1, .int l1), (2, .int l2), (3, .int l3), (4, .int l4), (5, .int (s.1 + (nI 1))), (6, .int (s.2 + (nI 1)))] (by intro q hq; simp only [List.mem_cons, List.not_mem_nil, or_false] at hq; rcases hq with rfl | rfl | rfl | rfl | rfl | rfl | rfl <;> rfl) (by have k := ka _ rfl; dsimp only at k; exact k)
theorem wFX12_handsOf_l29_L4 {nx : Nat} {sh : bs_Sh} {R : Nat → Nat → Option Nat} {m : Nat} (HM : fg_S (bs_tM m) R m sh) {mu : bs_Mm} {l1 : Int32} {l2 : Int32} {l3 : Int32} {l4 : Int32} {Ph : bs_Po} {t : Int32} : ∀ n (y0 : Int32) (y1 : Int32), fg_lp (FX12_handsOf_b29_L4 m mu l1 l2 l3 l4) n (y0, y1) = some t → fg_R R mu → (ke : ∀ s, t = s → bs_W Ph mX12_handsOf (bs_rm 1 0 0) 84 (bs_mk [(0, .ref m), (1, .int l1), (2, .int l2), (3, .int l3), (4, .int l4), (5, .int s)]) [] 0 0 nx sh mu) → bs_W Ph mX12_handsOf (bs_rm 1 0 0) 29 (bs_mk [(0, .ref m), (1, .int l1), (2, .int l2), (3, .int l3), (4, .int l4), (5, .int y0), (6, .int y1)]) [] 0 0 nx sh mu := by
  intro n
  induction n with
  | zero => intro y0 y1 h; exact absurd h (fun z => fg_lp0 z)
  | succ n ih =>
    intro y0 y1 h hR ke
    obtain ⟨r, hb, h1, h2⟩ := fg_lpE h
    exact wFX12_handsOf_b29_L4 (s := (y0, y1)) HM (fun s' e => ih s'.1 s'.2 (h1 s' e) hR ke) (fun s' e => ke s' (h2 _ e).symm) hR hb
noncomputable def FX12_handsOf_b4 (m : Nat) (mu : bs_Mm) (l1 : Int32) (s : Int32 × Int32) : Option ((Int32 × Int32) ⊕ (Int32)) :=
  fg_gd (fg_in l1 13) (
  if (bs_iv (mu (m + 8) l1.toNatClampNeg)) ≤ s.2 then (
    some (.inr s.1)
  ) else (
    fg_bd (fg_lp (FX12_handsOf_b29_L4 m mu l1 s.1 s.2 (((nI 1) <<< ((s.2 + (nI 1)) &&& 31)) - (nI 1))) fg_fu ((nI 0), (nI 0))) (fun t7 => 
      some (.inl ((if s.1 < t7 then t7 else s.1), (s.2 + (nI 1))))
    )
  ))
set_option maxHeartbeats 4000000 in
theorem wFX12_handsOf_b4 {nx : Nat} {sh : bs_Sh} {R : Nat → Nat → Option Nat} {m : Nat} (HM : fg_S (bs_tM m) R m sh) {mu : bs_Mm} {l1 : Int32} {Ph : bs_Po} {s : Int32 × Int32} {r : (Int32 × Int32) ⊕ (Int32)} (ka : ∀ s, r = .inl s → bs_W Ph mX12_handsOf (bs_rm 1 0 0) 4 (bs_mk [(0, .ref m), (1, .int l1), (2, .int s.1), (3, .int s.2)]) [] 0 0 nx sh mu) (ke : ∀ s, r = .inr s → bs_W Ph mX12_handsOf (bs_rm 1 0 0) 97 (bs_mk [(0, .ref m), (1, .int l1), (2, .int s)]) [] 0 0 nx sh mu) (hR : fg_R R mu) (h : FX12_handsOf_b4 m mu l1 s = some r) : bs_W Ph mX12_handsOf (bs_rm 1 0 0) 4 (bs_mk [(0, .ref m), (1, .int l1), (2, .int s.1), (3, .int s.2)]) [] 0 0 nx sh mu := by
  unfold FX12_handsOf_b4 at h
  refine bs_iload_n dX12_handsOf_4 rfl ?_
  refine bs_aload_n dX12_handsOf_5 rfl ?_
  refine fg_getR (b := (m + 8)) dX12_handsOf_6 fX12_31 (HM.s 0 rfl rfl rfl) hR (HM.r 0 13 rfl rfl rfl) ?_
  refine bs_iload_n dX12_handsOf_9 rfl ?_
  obtain ⟨g1, h⟩ := fg_gdE h
  refine bs_iald dX12_handsOf_10 (HM.ss 8 rfl rfl) (fg_in_ix g1) ?_
  refine bs_icmp_ge (tgt := 97) dX12_handsOf_11 (by decide) (fun c => ?_) (fun c => ?_)
  · replace h := fg_ip c h
    cases h
    refine bs_W.mk [(0, .ref m), (1, .int l1), (2, .int s.1)] (by intro q hq; simp only [List.mem_cons, List.not_mem_nil, or_false] at hq; rcases hq with rfl | rfl | rfl <;> rfl) (ke _ rfl)
  · replace h := fg_iN c h
    refine bs_iconst (v := (nI 1)) dX12_handsOf_14 (by decide) ?_
    refine bs_iload_n dX12_handsOf_15 rfl ?_
    refine bs_iconst (v := (nI 1)) dX12_handsOf_16 (by decide) ?_
    refine bs_iadd dX12_handsOf_17 ?_
    refine bs_ishl dX12_handsOf_18 ?_
    refine bs_iconst (v := (nI 1)) dX12_handsOf_19 (by decide) ?_
    refine bs_isub dX12_handsOf_20 ?_
    refine bs_istore dX12_handsOf_21 rfl (by decide) ?_
    refine bs_iconst (v := (nI 0)) dX12_handsOf_23 (by decide) ?_
    refine bs_istore dX12_handsOf_24 rfl (by decide) ?_
    refine bs_iconst (v := (nI 0)) dX12_handsOf_26 (by decide) ?_
    refine bs_istore dX12_handsOf_27 rfl (by decide) ?_
    obtain ⟨t7, k8, h⟩ := fg_bdE h
    refine bs_W.mk [(0, .ref m), (1, .int l1), (2, .int s.1), (3, .int s.2), (4, .int (((nI 1) <<< ((s.2 + (nI 1)) &&& 31)) - (nI 1))), (5, .int (nI 0)), (6, .int (nI 0))] (by intro q hq; simp only [List.mem_cons, List.not_mem_nil, or_false] at hq; rcases hq with rfl | rfl | rfl | rfl | rfl | rfl | rfl <;> rfl) ?_
    refine wFX12_handsOf_l29_L4 HM _ _ _ k8 hR ?_
    intro s e
    subst e
    refine bs_iload_n dX12_handsOf_84 rfl ?_
    refine bs_iload dX12_handsOf_85 rfl ?_
    refine bs_mmax dX12_handsOf_87 xX12_149 (by first | decide | (simp only [bs_rm]; omega)) (by first | exact Nat.le_of_ble_eq_true rfl | (simp only [bs_rm, List.map, List.sum_cons, List.sum_nil, Value.category]; omega)) (Nat.zero_le _) (Nat.zero_le _) ?_
    refine bs_istore_n dX12_handsOf_90 rfl (by decide) ?_
    refine fg_iinc (m := (nI 1)) dX12_handsOf_91 rfl rfl (by decide) ?_
    refine bs_goto (tgt := 4) dX12_handsOf_94 (by decide) ?_
    cases h
    refine bs_W.mk [(0, .ref m), (1, .int l1), (2, .int (if s.1 < t7 then t7 else s.1)), (3, .int (s.2 + (nI 1)))] (by intro q hq; simp only [List.mem_cons, List.not_mem_nil, or_false] at hq; rcases hq with rfl | rfl | rfl | rfl <;> rfl) (by have k := ka _ rfl; dsimp only at k; exact k)
theorem wFX12_handsOf_l4 {nx : Nat} {sh : bs_Sh} {R : Nat → Nat → Option Nat} {m : Nat} (HM : fg_S (bs_tM m) R m sh) {mu : bs_Mm} {l1 : Int32} {Ph : bs_Po} {t : Int32} : ∀ n (y0 : Int32) (y1 : Int32), fg_lp (FX12_handsOf_b4 m mu l1) n (y0, y1) = some t → fg_R R mu → (ke : ∀ s, t = s → bs_W Ph mX12_handsOf (bs_rm 1 0 0) 97 (bs_mk [(0, .ref m), (1, .int l1), (2, .int s)]) [] 0 0 nx sh mu) → bs_W Ph mX12_handsOf (bs_rm 1 0 0) 4 (bs_mk [(0, .ref m), (1, .int l1), (2, .int y0), (3, .int y1)]) [] 0 0 nx sh mu := by
  intro n
  induction n with
  | zero => intro y0 y1 h; exact absurd h (fun z => fg_lp0 z)
  | succ n ih =>
    intro y0 y1 h hR ke
    obtain ⟨r, hb, h1, h2⟩ := fg_lpE h
    exact wFX12_handsOf_b4 (s := (y0, y1)) HM (fun s' e => ih s'.1 s'.2 (h1 s' e) hR ke) (fun s' e => ke s' (h2 _ e).symm) hR hb
noncomputable def FX12_handsOf (m : Nat) (mu : bs_Mm) (p1 : Int32) : Option (Int32) :=
  fg_bd (fg_lp (FX12_handsOf_b4 m mu p1) fg_fu ((nI 0), (nI 0))) (fun t9 => 
    some (t9)
  )
set_option maxHeartbeats 4000000 in
theorem wX12_handsOf {nx : Nat} {sh : bs_Sh} {R : Nat → Nat → Option Nat} {m : Nat} (HM : fg_S (bs_tM m) R m sh) {mu : bs_Mm} (hR : fg_R R mu) {p1 : Int32} {r : Int32} (h : FX12_handsOf m mu p1 = some r) : bs_C mX12_handsOf (bs_rm 1 0 0) [.ref m, .int p1] nx sh mu (fg_po R nx sh (some (.int r)) mu) := by
  refine bs_ct (by decide +kernel) (Nat.le_of_ble_eq_true rfl) ?_
  have kr : ∀ q, r = q → fg_R R mu → (fg_po R nx sh (some (.int r)) mu) (some (.int q)) nx sh mu := fun q e hq => by subst e; exact ⟨rfl, rfl, rfl, rfl, hq⟩
  unfold FX12_handsOf at h
  refine bs_iconst (v := (nI 0)) dX12_handsOf_0 (by decide) ?_
  refine bs_istore_n dX12_handsOf_1 rfl (by decide) ?_
  refine bs_iconst (v := (nI 0)) dX12_handsOf_2 (by decide) ?_
  refine bs_istore_n dX12_handsOf_3 rfl (by decide) ?_
  obtain ⟨t9, k10, h⟩ := fg_bdE h
  refine bs_W.mk [(0, .ref m), (1, .int p1), (2, .int (nI 0)), (3, .int (nI 0))] (by intro q hq; simp only [List.mem_cons, List.not_mem_nil, or_false] at hq; rcases hq with rfl | rfl | rfl | rfl <;> rfl) ?_
  refine wFX12_handsOf_l4 HM _ _ _ k10 hR ?_
  intro s e
  subst e
  refine bs_iload_n dX12_handsOf_97 rfl ?_
  cases h
  exact bs_iret dX12_handsOf_98 rfl (Nat.zero_le _) (Nat.zero_le _) (kr _ rfl hR)
noncomputable def FX12_endFigure_j29_L4 (m : Nat) (mu : bs_Mm) (l1 : Int32) (l2 : Int32) (l3 : Int32) (t1 : Int32) (t2 : Int32) : Option ((Int32 × Int32 × bs_Mm) ⊕ (Int32 × bs_Mm)) :=
  fg_gd (fg_in t1 60) (
  fg_wr mu (m + 17) t1.toNatClampNeg (.int t2) (fun mu3 => 
  fg_gd (fg_in l3 60) (
  if (bs_iv (mu3 (m + 15) l3.toNatClampNeg)) = l3 then (
    some (.inl ((l2 + (nI 1)), (l3 + (nI 1)), mu3))
  ) else (
    some (.inl ((l2 + (nI 0)), (l3 + (nI 1)), mu3))
  ))))
set_option maxHeartbeats 4000000 in
theorem wFX12_endFigure_j29_L4 {nx : Nat} {sh : bs_Sh} {R : Nat → Nat → Option Nat} {m : Nat} (HM : fg_S (bs_tM m) R m sh) {mu : bs_Mm} {l1 : Int32} {l2 : Int32} {l3 : Int32} {t1 : Int32} {t2 : Int32} {Ph : bs_Po} {r : (Int32 × Int32 × bs_Mm) ⊕ (Int32 × bs_Mm)} (ka : ∀ s, r = .inl s → fg_R R s.2.2 → bs_W Ph mX12_endFigure (bs_rm 2 0 0) 4 (bs_mk [(0, .ref m), (1, .int l1), (2, .int s.1), (3, .int s.2.1)]) [] 0 0 nx sh s.2.2) (ke : ∀ s, r = .inr s → fg_R R s.2 → bs_W Ph mX12_endFigure (bs_rm 2 0 0) 54 (bs_mk [(0, .ref m), (1, .int l1), (2, .int s.1)]) [] 0 0 nx sh s.2) (hR : fg_R R mu) (h : FX12_endFigure_j29_L4 m mu l1 l2 l3 t1 t2 = some r) : bs_W Ph mX12_endFigure (bs_rm 2 0 0) 29 (bs_mk [(0, .ref m), (1, .int l1), (2, .int l2), (3, .int l3)]) [.int t2, .int t1, .ref (m + 17)] 0 0 nx sh mu := by
  unfold FX12_endFigure_j29_L4 at h
  obtain ⟨g2, h⟩ := fg_gdE h
  refine fg_iast dX12_endFigure_29 (HM.ss 17 rfl rfl) (fun j => HM.n 17 j rfl rfl rfl) g2 hR h (fun mu3 hR h => ?_)
  refine bs_iload_n dX12_endFigure_30 rfl ?_
  refine bs_aload_n dX12_endFigure_31 rfl ?_
  refine fg_getR (b := (m + 15)) dX12_endFigure_32 fX12_52 (HM.s 0 rfl rfl rfl) hR (HM.r 0 21 rfl rfl rfl) ?_
  refine bs_iload_n dX12_endFigure_35 rfl ?_
  obtain ⟨g4, h⟩ := fg_gdE h
  refine bs_iald dX12_endFigure_36 (HM.ss 15 rfl rfl) (fg_in_ix g4) ?_
  refine bs_iload_n dX12_endFigure_37 rfl ?_
  refine bs_icmp_ne (tgt := 45) dX12_endFigure_38 (by decide) (fun c => ?_) (fun c => ?_)
  · replace h := fg_iN c h
    refine bs_iconst (v := (nI 0)) dX12_endFigure_45 (by decide) ?_
    refine bs_iadd dX12_endFigure_46 ?_
    refine bs_istore_n dX12_endFigure_47 rfl (by decide) ?_
    refine fg_iinc (m := (nI 1)) dX12_endFigure_48 rfl rfl (by decide) ?_
    refine bs_goto (tgt := 4) dX12_endFigure_51 (by decide) ?_
    cases h
    refine bs_W.mk [(0, .ref m), (1, .int l1), (2, .int (l2 + (nI 0))), (3, .int (l3 + (nI 1)))] (by intro q hq; simp only [List.mem_cons, List.not_mem_nil, or_false] at hq; rcases hq with rfl | rfl | rfl | rfl <;> rfl) (by have k := ka _ rfl hR; dsimp only at k; exact k)
  · replace h := fg_ip c h
    refine bs_iconst (v := (nI 1)) dX12_endFigure_41 (by decide) ?_
    refine bs_goto (tgt := 46) dX12_endFigure_42 (by decide) ?_
    refine bs_iadd dX12_endFigure_46 ?_
    refine bs_istore_n dX12_endFigure_47 rfl (by decide) ?_
    refine fg_iinc (m := (nI 1)) dX12_endFigure_48 rfl rfl (by decide) ?_
    refine bs_goto (tgt := 4) dX12_endFigure_51 (by decide) ?_
    cases h
    refine bs_W.mk [(0, .ref m), (1, .int l1), (2, .int (l2 + (nI 1))), (3, .int (l3 + (nI 1)))] (by intro q hq; simp only [List.mem_cons, List.not_mem_nil, or_false] at hq; rcases hq with rfl | rfl | rfl | rfl <;> rfl) (by have k := ka _ rfl hR; dsimp only at k; exact k)
noncomputable def FX12_endFigure_b4 (m : Nat)  (l1 : Int32) (s : Int32 × Int32 × bs_Mm) : Option ((Int32 × Int32 × bs_Mm) ⊕ (Int32 × bs_Mm)) :=
  if l1 ≤ s.2.1 then (
    some (.inr (s.1, s.2.2))
  ) else (
    fg_gd (fg_in s.2.1 60) (
    if (bs_iv (s.2.2 (m + 15) s.2.1.toNatClampNeg)) = s.2.1 then (
      FX12_endFigure_j29_L4 m s.2.2 l1 s.1 s.2.1 s.2.1 s.1
    ) else (
      FX12_endFigure_j29_L4 m s.2.2 l1 s.1 s.2.1 s.2.1 (-1)
    ))
  )
set_option maxHeartbeats 4000000 in
theorem wFX12_endFigure_b4 {nx : Nat} {sh : bs_Sh} {R : Nat → Nat → Option Nat} {m : Nat} (HM : fg_S (bs_tM m) R m sh) {l1 : Int32} {Ph : bs_Po} {s : Int32 × Int32 × bs_Mm} {r : (Int32 × Int32 × bs_Mm) ⊕ (Int32 × bs_Mm)} (ka : ∀ s, r = .inl s → fg_R R s.2.2 → bs_W Ph mX12_endFigure (bs_rm 2 0 0) 4 (bs_mk [(0, .ref m), (1, .int l1), (2, .int s.1), (3, .int s.2.1)]) [] 0 0 nx sh s.2.2) (ke : ∀ s, r = .inr s → fg_R R s.2 → bs_W Ph mX12_endFigure (bs_rm 2 0 0) 54 (bs_mk [(0, .ref m), (1, .int l1), (2, .int s.1)]) [] 0 0 nx sh s.2) (hR : fg_R R s.2.2) (h : FX12_endFigure_b4 m l1 s = some r) : bs_W Ph mX12_endFigure (bs_rm 2 0 0) 4 (bs_mk [(0, .ref m), (1, .int l1), (2, .int s.1), (3, .int s.2.1)]) [] 0 0 nx sh s.2.2 := by
  unfold FX12_endFigure_b4 at h
  refine bs_iload_n dX12_endFigure_4 rfl ?_
  refine bs_iload_n dX12_endFigure_5 rfl ?_
  refine bs_icmp_ge (tgt := 54) dX12_endFigure_6 (by decide) (fun c => ?_) (fun c => ?_)
  · replace h := fg_ip c h
    cases h
    refine bs_W.mk [(0, .ref m), (1, .int l1), (2, .int s.1)] (by intro q hq; simp only [List.mem_cons, List.not_mem_nil, or_false] at hq; rcases hq with rfl | rfl | rfl <;> rfl) (ke _ rfl hR)
  · replace h := fg_iN c h
    refine bs_aload_n dX12_endFigure_9 rfl ?_
    refine fg_getR (b := (m + 17)) dX12_endFigure_10 fX12_58 (HM.s 0 rfl rfl rfl) hR (HM.r 0 26 rfl rfl rfl) ?_
    refine bs_iload_n dX12_endFigure_13 rfl ?_
    refine bs_aload_n dX12_endFigure_14 rfl ?_
    refine fg_getR (b := (m + 15)) dX12_endFigure_15 fX12_52 (HM.s 0 rfl rfl rfl) hR (HM.r 0 21 rfl rfl rfl) ?_
    refine bs_iload_n dX12_endFigure_18 rfl ?_
    obtain ⟨g1, h⟩ := fg_gdE h
    refine bs_iald dX12_endFigure_19 (HM.ss 15 rfl rfl) (fg_in_ix g1) ?_
    refine bs_iload_n dX12_endFigure_20 rfl ?_
    refine bs_icmp_ne (tgt := 28) dX12_endFigure_21 (by decide) (fun c => ?_) (fun c => ?_)
    · replace h := fg_iN c h
      refine bs_iconst (v := (-1)) dX12_endFigure_28 (by decide) ?_
      refine bs_W.mk [(0, .ref m), (1, .int l1), (2, .int s.1), (3, .int s.2.1)] (by intro q hq; simp only [List.mem_cons, List.not_mem_nil, or_false] at hq; rcases hq with rfl | rfl | rfl | rfl <;> rfl) ?_
      exact wFX12_endFigure_j29_L4 HM ka ke hR h
    · replace h := fg_ip c h
      refine bs_iload_n dX12_endFigure_24 rfl ?_
      refine bs_goto (tgt := 29) dX12_endFigure_25 (by decide) ?_
      refine bs_W.mk [(0, .ref m), (1, .int l1), (2, .int s.1), (3, .int s.2.1)] (by intro q hq; simp only [List.mem_cons, List.not_mem_nil, or_false] at hq; rcases hq with rfl | rfl | rfl | rfl <;> rfl) ?_
      exact wFX12_endFigure_j29_L4 HM ka ke hR h
theorem wFX12_endFigure_l4 {nx : Nat} {sh : bs_Sh} {R : Nat → Nat → Option Nat} {m : Nat} (HM : fg_S (bs_tM m) R m sh) {l1 : Int32} {Ph : bs_Po} {t : Int32 × bs_Mm} : ∀ n (y0 : Int32) (y1 : Int32) (mu1 : bs_Mm), fg_lp (FX12_endFigure_b4 m l1) n (y0, y1, mu1) = some t → fg_R R mu1 → (ke : ∀ s, t = s → fg_R R s.2 → bs_W Ph mX12_endFigure (bs_rm 2 0 0) 54 (bs_mk [(0, .ref m), (1, .int l1), (2, .int s.1)]) [] 0 0 nx sh s.2) → bs_W Ph mX12_endFigure (bs_rm 2 0 0) 4 (bs_mk [(0, .ref m), (1, .int l1), (2, .int y0), (3, .int y1)]) [] 0 0 nx sh mu1 := by
  intro n
  induction n with
  | zero => intro y0 y1 mu1 h; exact absurd h (fun z => fg_lp0 z)
  | succ n ih =>
    intro y0 y1 mu1 h hR ke
    obtain ⟨r, hb, h1, h2⟩ := fg_lpE h
    exact wFX12_endFigure_b4 (s := (y0, y1, mu1)) HM (fun s' e hR' => ih s'.1 s'.2.1 s'.2.2 (h1 s' e) hR' ke) (fun s' e => ke s' (h2 _ e).symm) hR hb
noncomputable def FX12_endFigure_b62 (m : Nat)  (l1 : Int32) (l2 : Int32) (s : Int32 × bs_Mm) : Option ((Int32 × bs_Mm) ⊕ (bs_Mm)) :=
  fg_gd (fg_in (bs_iv (s.2 m 20)) 13) (
  if (((nI 24) * (bs_iv (s.2 m 20))) + (bs_iv (s.2 (m + 8) (bs_iv (s.2 m 20)).toNatClampNeg))) ≤ s.1 then (
    some (.inr s.2)
  ) else (
    fg_gd (fg_in s.1 312) (
    fg_bd (FX12_find m s.2 (bs_iv (s.2 (m + 11) s.1.toNatClampNeg))) (fun v10 => 
    fg_gd (fg_in v10 60) (
    fg_gd (fg_in s.1 312) (
    fg_wr s.2 (m + 11) s.1.toNatClampNeg (.int (bs_iv (s.2 (m + 17) v10.toNatClampNeg))) (fun mu13 => 
    fg_gd (fg_in s.1 312) (
    fg_bd (FX12_find m mu13 (bs_iv (mu13 (m + 12) s.1.toNatClampNeg))) (fun v16 => 
    fg_gd (fg_in v16 60) (
    fg_gd (fg_in s.1 312) (
    fg_wr mu13 (m + 12) s.1.toNatClampNeg (.int (bs_iv (mu13 (m + 17) v16.toNatClampNeg))) (fun mu19 => 
    some (.inl ((s.1 + (nI 1)), mu19))))))))))))
  ))
set_option maxHeartbeats 4000000 in
theorem wFX12_endFigure_b62 {nx : Nat} {sh : bs_Sh} {R : Nat → Nat → Option Nat} {m : Nat} (HM : fg_S (bs_tM m) R m sh) {l1 : Int32} {l2 : Int32} {Ph : bs_Po} {s : Int32 × bs_Mm} {r : (Int32 × bs_Mm) ⊕ (bs_Mm)} (ka : ∀ s, r = .inl s → fg_R R s.2 → bs_W Ph mX12_endFigure (bs_rm 2 0 0) 62 (bs_mk [(0, .ref m), (1, .int l1), (2, .int l2), (3, .int s.1)]) [] 0 0 nx sh s.2) (ke : ∀ s, r = .inr s → fg_R R s → bs_W Ph mX12_endFigure (bs_rm 2 0 0) 131 (bs_mk [(0, .ref m), (1, .int l1), (2, .int l2)]) [] 0 0 nx sh s) (hR : fg_R R s.2) (h : FX12_endFigure_b62 m l1 l2 s = some r) : bs_W Ph mX12_endFigure (bs_rm 2 0 0) 62 (bs_mk [(0, .ref m), (1, .int l1), (2, .int l2), (3, .int s.1)]) [] 0 0 nx sh s.2 := by
  unfold FX12_endFigure_b62 at h
  refine bs_iload_n dX12_endFigure_62 rfl ?_
  refine bs_bipush (v := (nI 24)) dX12_endFigure_63 (by decide) ?_
  refine bs_aload_n dX12_endFigure_65 rfl ?_
  refine bs_getI dX12_endFigure_66 fX12_252 (HM.s 0 rfl rfl rfl) ?_
  refine bs_imul dX12_endFigure_69 ?_
  refine bs_aload_n dX12_endFigure_70 rfl ?_
  refine fg_getR (b := (m + 8)) dX12_endFigure_71 fX12_31 (HM.s 0 rfl rfl rfl) hR (HM.r 0 13 rfl rfl rfl) ?_
  refine bs_aload_n dX12_endFigure_74 rfl ?_
  refine bs_getI dX12_endFigure_75 fX12_252 (HM.s 0 rfl rfl rfl) ?_
  obtain ⟨g7, h⟩ := fg_gdE h
  refine bs_iald dX12_endFigure_78 (HM.ss 8 rfl rfl) (fg_in_ix g7) ?_
  refine bs_iadd dX12_endFigure_79 ?_
  refine bs_icmp_ge (tgt := 131) dX12_endFigure_80 (by decide) (fun c => ?_) (fun c => ?_)
  · replace h := fg_ip c h
    cases h
    refine bs_W.mk [(0, .ref m), (1, .int l1), (2, .int l2)] (by intro q hq; simp only [List.mem_cons, List.not_mem_nil, or_false] at hq; rcases hq with rfl | rfl | rfl <;> rfl) (ke _ rfl hR)
  · replace h := fg_iN c h
    refine bs_aload_n dX12_endFigure_83 rfl ?_
    refine fg_getR (b := (m + 11)) dX12_endFigure_84 fX12_40 (HM.s 0 rfl rfl rfl) hR (HM.r 0 16 rfl rfl rfl) ?_
    refine bs_iload_n dX12_endFigure_87 rfl ?_
    refine bs_aload_n dX12_endFigure_88 rfl ?_
    refine fg_getR (b := (m + 17)) dX12_endFigure_89 fX12_58 (HM.s 0 rfl rfl rfl) hR (HM.r 0 26 rfl rfl rfl) ?_
    refine bs_aload_n dX12_endFigure_92 rfl ?_
    refine bs_aload_n dX12_endFigure_93 rfl ?_
    refine fg_getR (b := (m + 11)) dX12_endFigure_94 fX12_40 (HM.s 0 rfl rfl rfl) hR (HM.r 0 16 rfl rfl rfl) ?_
    refine bs_iload_n dX12_endFigure_97 rfl ?_
    obtain ⟨g8, h⟩ := fg_gdE h
    refine bs_iald dX12_endFigure_98 (HM.ss 11 rfl rfl) (fg_in_ix g8) ?_
    obtain ⟨v10, k9, h⟩ := fg_bdE h
    refine fg_callV dX12_endFigure_99 qX12_145 (wX12_find HM hR k9) rfl (HM.s 0 rfl rfl rfl) rfl (Nat.le_of_ble_eq_true rfl) (fg_cr (by first | decide | omega) (by decide)) (fun hR => ?_)
    obtain ⟨g11, h⟩ := fg_gdE h
    refine bs_iald dX12_endFigure_102 (HM.ss 17 rfl rfl) (fg_in_ix g11) ?_
    obtain ⟨g12, h⟩ := fg_gdE h
    refine fg_iast dX12_endFigure_103 (HM.ss 11 rfl rfl) (fun j => HM.n 11 j rfl rfl rfl) g12 hR h (fun mu13 hR h => ?_)
    refine bs_aload_n dX12_endFigure_104 rfl ?_
    refine fg_getR (b := (m + 12)) dX12_endFigure_105 fX12_43 (HM.s 0 rfl rfl rfl) hR (HM.r 0 17 rfl rfl rfl) ?_
    refine bs_iload_n dX12_endFigure_108 rfl ?_
    refine bs_aload_n dX12_endFigure_109 rfl ?_
    refine fg_getR (b := (m + 17)) dX12_endFigure_110 fX12_58 (HM.s 0 rfl rfl rfl) hR (HM.r 0 26 rfl rfl rfl) ?_
    refine bs_aload_n dX12_endFigure_113 rfl ?_
    refine bs_aload_n dX12_endFigure_114 rfl ?_
    refine fg_getR (b := (m + 12)) dX12_endFigure_115 fX12_43 (HM.s 0 rfl rfl rfl) hR (HM.r 0 17 rfl rfl rfl) ?_
    refine bs_iload_n dX12_endFigure_118 rfl ?_
    obtain ⟨g14, h⟩ := fg_gdE h
    refine bs_iald dX12_endFigure_119 (HM.ss 12 rfl rfl) (fg_in_ix g14) ?_
    obtain ⟨v16, k15, h⟩ := fg_bdE h
    refine fg_callV dX12_endFigure_120 qX12_145 (wX12_find HM hR k15) rfl (HM.s 0 rfl rfl rfl) rfl (Nat.le_of_ble_eq_true rfl) (fg_cr (by first | decide | omega) (by decide)) (fun hR => ?_)
    obtain ⟨g17, h⟩ := fg_gdE h
    refine bs_iald dX12_endFigure_123 (HM.ss 17 rfl rfl) (fg_in_ix g17) ?_
    obtain ⟨g18, h⟩ := fg_gdE h
    refine fg_iast dX12_endFigure_124 (HM.ss 12 rfl rfl) (fun j => HM.n 12 j rfl rfl rfl) g18 hR h (fun mu19 hR h => ?_)
    refine fg_iinc (m := (nI 1)) dX12_endFigure_125 rfl rfl (by decide) ?_
    refine bs_goto (tgt := 62) dX12_endFigure_128 (by decide) ?_
    cases h
    refine bs_W.mk [(0, .ref m), (1, .int l1), (2, .int l2), (3, .int (s.1 + (nI 1)))] (by intro q hq; simp only [List.mem_cons, List.not_mem_nil, or_false] at hq; rcases hq with rfl | rfl | rfl | rfl <;> rfl) (by have k := ka _ rfl hR; dsimp only at k; exact k)
theorem wFX12_endFigure_l62 {nx : Nat} {sh : bs_Sh} {R : Nat → Nat → Option Nat} {m : Nat} (HM : fg_S (bs_tM m) R m sh) {l1 : Int32} {l2 : Int32} {Ph : bs_Po} {t : bs_Mm} : ∀ n (y0 : Int32) (mu1 : bs_Mm), fg_lp (FX12_endFigure_b62 m l1 l2) n (y0, mu1) = some t → fg_R R mu1 → (ke : ∀ s, t = s → fg_R R s → bs_W Ph mX12_endFigure (bs_rm 2 0 0) 131 (bs_mk [(0, .ref m), (1, .int l1), (2, .int l2)]) [] 0 0 nx sh s) → bs_W Ph mX12_endFigure (bs_rm 2 0 0) 62 (bs_mk [(0, .ref m), (1, .int l1), (2, .int l2), (3, .int y0)]) [] 0 0 nx sh mu1 := by
  intro n
  induction n with
  | zero => intro y0 mu1 h; exact absurd h (fun z => fg_lp0 z)
  | succ n ih =>
    intro y0 mu1 h hR ke
    obtain ⟨r, hb, h1, h2⟩ := fg_lpE h
    exact wFX12_endFigure_b62 (s := (y0, mu1)) HM (fun s' e hR' => ih s'.1 s'.2 (h1 s' e) hR' ke) (fun s' e => ke s' (h2 _ e).symm) hR hb
noncomputable def FX12_endFigure (m : Nat) (mu : bs_Mm) (p1 : Int32) : Option (bs_Mm) :=
  fg_bd (fg_lp (FX12_endFigure_b4 m p1) fg_fu ((nI 0), (nI 0), mu)) (fun t5 => 
    fg_bd (fg_lp (FX12_endFigure_b62 m p1 t5.1) fg_fu (((nI 24) * (bs_iv (t5.2 m 20))), t5.2)) (fun t20 => 
      fg_gd (fg_in (bs_iv (t20 m 20)) 13) (
      fg_wr t20 (m + 9) (bs_iv (t20 m 20)).toNatClampNeg (.int t5.1) (fun mu23 => 
      fg_bd (FX12_handsOf m mu23 (bs_iv (mu23 m 20))) (fun v25 => 
      fg_gd (fg_in (bs_iv (mu23 m 20)) 13) (
      fg_wr mu23 (m + 14) (bs_iv (mu23 m 20)).toNatClampNeg (.int v25) (fun mu27 => 
      fg_wr mu27 m 20 (.int ((bs_iv (mu27 m 20)) + (nI 1))) (fun mu28 => 
      some mu28))))))
    )
  )
set_option maxHeartbeats 4000000 in
theorem wX12_endFigure {nx : Nat} {sh : bs_Sh} {R : Nat → Nat → Option Nat} {m : Nat} (HM : fg_S (bs_tM m) R m sh) {mu : bs_Mm} (hR : fg_R R mu) {p1 : Int32} {r : bs_Mm} (h : FX12_endFigure m mu p1 = some r) : bs_C mX12_endFigure (bs_rm 2 0 0) [.ref m, .int p1] nx sh mu (fg_po R nx sh none r) := by
  refine bs_ct (by decide +kernel) (Nat.le_of_ble_eq_true rfl) ?_
  have kr : ∀ q, r = q → fg_R R q → (fg_po R nx sh none r) none nx sh q := fun q e hq => by subst e; exact ⟨rfl, rfl, rfl, rfl, hq⟩
  unfold FX12_endFigure at h
  refine bs_iconst (v := (nI 0)) dX12_endFigure_0 (by decide) ?_
  refine bs_istore_n dX12_endFigure_1 rfl (by decide) ?_
  refine bs_iconst (v := (nI 0)) dX12_endFigure_2 (by decide) ?_
  refine bs_istore_n dX12_endFigure_3 rfl (by decide) ?_
  obtain ⟨t5, k6, h⟩ := fg_bdE h
  refine bs_W.mk [(0, .ref m), (1, .int p1), (2, .int (nI 0)), (3, .int (nI 0))] (by intro q hq; simp only [List.mem_cons, List.not_mem_nil, or_false] at hq; rcases hq with rfl | rfl | rfl | rfl <;> rfl) ?_
  refine wFX12_endFigure_l4 HM _ _ _ _ k6 hR ?_
  intro s e hR
  subst e
  refine bs_bipush (v := (nI 24)) dX12_endFigure_54 (by decide) ?_
  refine bs_aload_n dX12_endFigure_56 rfl ?_
  refine bs_getI dX12_endFigure_57 fX12_252 (HM.s 0 rfl rfl rfl) ?_
  refine bs_imul dX12_endFigure_60 ?_
  refine bs_istore_n dX12_endFigure_61 rfl (by decide) ?_
  obtain ⟨t20, k21, h⟩ := fg_bdE h
  refine bs_W.mk [(0, .ref m), (1, .int p1), (2, .int t5.1), (3, .int ((nI 24) * (bs_iv (t5.2 m 20))))] (by intro q hq; simp only [List.mem_cons, List.not_mem_nil, or_false] at hq; rcases hq with rfl | rfl | rfl | rfl <;> rfl) ?_
  refine wFX12_endFigure_l62 HM _ _ _ k21 hR ?_
  intro s e hR
  subst e
  refine bs_aload_n dX12_endFigure_131 rfl ?_
  refine fg_getR (b := (m + 9)) dX12_endFigure_132 fX12_34 (HM.s 0 rfl rfl rfl) hR (HM.r 0 14 rfl rfl rfl) ?_
  refine bs_aload_n dX12_endFigure_135 rfl ?_
  refine bs_getI dX12_endFigure_136 fX12_252 (HM.s 0 rfl rfl rfl) ?_
  refine bs_iload_n dX12_endFigure_139 rfl ?_
  obtain ⟨g22, h⟩ := fg_gdE h
  refine fg_iast dX12_endFigure_140 (HM.ss 9 rfl rfl) (fun j => HM.n 9 j rfl rfl rfl) g22 hR h (fun mu23 hR h => ?_)
  refine bs_aload_n dX12_endFigure_141 rfl ?_
  refine fg_getR (b := (m + 14)) dX12_endFigure_142 fX12_49 (HM.s 0 rfl rfl rfl) hR (HM.r 0 19 rfl rfl rfl) ?_
  refine bs_aload_n dX12_endFigure_145 rfl ?_
  refine bs_getI dX12_endFigure_146 fX12_252 (HM.s 0 rfl rfl rfl) ?_
  refine bs_aload_n dX12_endFigure_149 rfl ?_
  refine bs_aload_n dX12_endFigure_150 rfl ?_
  refine bs_getI dX12_endFigure_151 fX12_252 (HM.s 0 rfl rfl rfl) ?_
  obtain ⟨v25, k24, h⟩ := fg_bdE h
  refine fg_callV dX12_endFigure_154 qX12_313 (wX12_handsOf HM hR k24) rfl (HM.s 0 rfl rfl rfl) rfl (Nat.le_of_ble_eq_true rfl) (fg_cr (by first | decide | omega) (by decide)) (fun hR => ?_)
  obtain ⟨g26, h⟩ := fg_gdE h
  refine fg_iast dX12_endFigure_157 (HM.ss 14 rfl rfl) (fun j => HM.n 14 j rfl rfl rfl) g26 hR h (fun mu27 hR h => ?_)
  refine bs_aload_n dX12_endFigure_158 rfl ?_
  refine bs_dup dX12_endFigure_159 rfl ?_
  refine bs_getI dX12_endFigure_160 fX12_252 (HM.s 0 rfl rfl rfl) ?_
  refine bs_iconst (v := (nI 1)) dX12_endFigure_163 (by decide) ?_
  refine bs_iadd dX12_endFigure_164 ?_
  refine fg_putI dX12_endFigure_165 pX12_252 (HM.s 0 rfl rfl rfl) (HM.n 0 20 rfl rfl rfl) hR h (fun mu28 hR h => ?_)
  cases h
  exact bs_vret dX12_endFigure_168 rfl (Nat.zero_le _) (Nat.zero_le _) (kr _ rfl hR)
noncomputable def FX12_add_b73 (m : Nat)  (l1 : Int32) (l2 : Int32) (l3 : Int32) (l4 : Int32) (s : Int32 × bs_Mm) : Option ((Int32 × bs_Mm) ⊕ (bs_Mm)) :=
  fg_gd (fg_in l1 13) (
  fg_gd (fg_in l2 13) (
  if ((bs_iv (s.2 (m + 9) l1.toNatClampNeg)) + (bs_iv (s.2 (m + 9) l2.toNatClampNeg))) ≤ s.1 then (
    some (.inr s.2)
  ) else (
    fg_gd (fg_in s.1 60) (
    fg_wr s.2 (m + 15) s.1.toNatClampNeg (.int s.1) (fun mu14 => 
    some (.inl ((s.1 + (nI 1)), mu14))))
  )))
set_option maxHeartbeats 4000000 in
theorem wFX12_add_b73 {nx : Nat} {sh : bs_Sh} {R : Nat → Nat → Option Nat} {m : Nat} (HM : fg_S (bs_tM m) R m sh) {l1 : Int32} {l2 : Int32} {l3 : Int32} {l4 : Int32} {Ph : bs_Po} {s : Int32 × bs_Mm} {r : (Int32 × bs_Mm) ⊕ (bs_Mm)} (ka : ∀ s, r = .inl s → fg_R R s.2 → bs_W Ph mX12_add (bs_rm 3 0 0) 73 (bs_mk [(0, .ref m), (1, .int l1), (2, .int l2), (3, .int l3), (4, .int l4), (5, .int s.1)]) [] 0 0 nx sh s.2) (ke : ∀ s, r = .inr s → fg_R R s → bs_W Ph mX12_add (bs_rm 3 0 0) 106 (bs_mk [(0, .ref m), (1, .int l1), (2, .int l2), (3, .int l3), (4, .int l4)]) [] 0 0 nx sh s) (hR : fg_R R s.2) (h : FX12_add_b73 m l1 l2 l3 l4 s = some r) : bs_W Ph mX12_add (bs_rm 3 0 0) 73 (bs_mk [(0, .ref m), (1, .int l1), (2, .int l2), (3, .int l3), (4, .int l4), (5, .int s.1)]) [] 0 0 nx sh s.2 := by
  unfold FX12_add_b73 at h
  refine bs_iload dX12_add_73 rfl ?_
  refine bs_aload_n dX12_add_75 rfl ?_
  refine fg_getR (b := (m + 9)) dX12_add_76 fX12_34 (HM.s 0 rfl rfl rfl) hR (HM.r 0 14 rfl rfl rfl) ?_
  refine bs_iload_n dX12_add_79 rfl ?_
  obtain ⟨g11, h⟩ := fg_gdE h
  refine bs_iald dX12_add_80 (HM.ss 9 rfl rfl) (fg_in_ix g11) ?_
  refine bs_aload_n dX12_add_81 rfl ?_
  refine fg_getR (b := (m + 9)) dX12_add_82 fX12_34 (HM.s 0 rfl rfl rfl) hR (HM.r 0 14 rfl rfl rfl) ?_
  refine bs_iload_n dX12_add_85 rfl ?_
  obtain ⟨g12, h⟩ := fg_gdE h
  refine bs_iald dX12_add_86 (HM.ss 9 rfl rfl) (fg_in_ix g12) ?_
  refine bs_iadd dX12_add_87 ?_
  refine bs_icmp_ge (tgt := 106) dX12_add_88 (by decide) (fun c => ?_) (fun c => ?_)
  · replace h := fg_ip c h
    cases h
    refine bs_W.mk [(0, .ref m), (1, .int l1), (2, .int l2), (3, .int l3), (4, .int l4)] (by intro q hq; simp only [List.mem_cons, List.not_mem_nil, or_false] at hq; rcases hq with rfl | rfl | rfl | rfl | rfl <;> rfl) (ke _ rfl hR)
  · replace h := fg_iN c h
    refine bs_aload_n dX12_add_91 rfl ?_
    refine fg_getR (b := (m + 15)) dX12_add_92 fX12_52 (HM.s 0 rfl rfl rfl) hR (HM.r 0 21 rfl rfl rfl) ?_
    refine bs_iload dX12_add_95 rfl ?_
    refine bs_iload dX12_add_97 rfl ?_
    obtain ⟨g13, h⟩ := fg_gdE h
    refine fg_iast dX12_add_99 (HM.ss 15 rfl rfl) (fun j => HM.n 15 j rfl rfl rfl) g13 hR h (fun mu14 hR h => ?_)
    refine fg_iinc (m := (nI 1)) dX12_add_100 rfl rfl (by decide) ?_
    refine bs_goto (tgt := 73) dX12_add_103 (by decide) ?_
    cases h
    refine bs_W.mk [(0, .ref m), (1, .int l1), (2, .int l2), (3, .int l3), (4, .int l4), (5, .int (s.1 + (nI 1)))] (by intro q hq; simp only [List.mem_cons, List.not_mem_nil, or_false] at hq; rcases hq with rfl | rfl | rfl | rfl | rfl | rfl <;> rfl) (by have k := ka _ rfl hR; dsimp only at k; exact k)
theorem wFX12_add_l73 {nx : Nat} {sh : bs_Sh} {R : Nat → Nat → Option Nat} {m : Nat} (HM : fg_S (bs_tM m) R m sh) {l1 : Int32} {l2 : Int32} {l3 : Int32} {l4 : Int32} {Ph : bs_Po} {t : bs_Mm} : ∀ n (y0 : Int32) (mu1 : bs_Mm), fg_lp (FX12_add_b73 m l1 l2 l3 l4) n (y0, mu1) = some t → fg_R R mu1 → (ke : ∀ s, t = s → fg_R R s → bs_W Ph mX12_add (bs_rm 3 0 0) 106 (bs_mk [(0, .ref m), (1, .int l1), (2, .int l2), (3, .int l3), (4, .int l4)]) [] 0 0 nx sh s) → bs_W Ph mX12_add (bs_rm 3 0 0) 73 (bs_mk [(0, .ref m), (1, .int l1), (2, .int l2), (3, .int l3), (4, .int l4), (5, .int y0)]) [] 0 0 nx sh mu1 := by
  intro n
  induction n with
  | zero => intro y0 mu1 h; exact absurd h (fun z => fg_lp0 z)
  | succ n ih =>
    intro y0 mu1 h hR ke
    obtain ⟨r, hb, h1, h2⟩ := fg_lpE h
    exact wFX12_add_b73 (s := (y0, mu1)) HM (fun s' e hR' => ih s'.1 s'.2 (h1 s' e) hR' ke) (fun s' e => ke s' (h2 _ e).symm) hR hb
noncomputable def FX12_add (m : Nat) (mu : bs_Mm) (p1 : Int32) (p2 : Int32) (p3 : Int32) (p4 : Int32) : Option (Int32 × bs_Mm) :=
  fg_bd (FX12_isPoint m mu p1 p3) (fun v2 => 
  if v2 = 0 then (
    some ((-1), mu)
  ) else (
    fg_bd (FX12_isPoint m mu p2 p4) (fun v4 => 
    if v4 = 0 then (
      some ((-1), mu)
    ) else (
      fg_gd (fg_in p1 13) (
      fg_gd (fg_in p2 13) (
      if (nI 24) < ((bs_iv (mu (m + 8) p1.toNatClampNeg)) + (bs_iv (mu (m + 8) p2.toNatClampNeg))) then (
        some ((-1), mu)
      ) else (
        fg_gd (fg_in p1 13) (
        fg_gd (fg_in p2 13) (
        if (nI 6) < ((bs_iv (mu (m + 6) p1.toNatClampNeg)) + (bs_iv (mu (m + 6) p2.toNatClampNeg))) then (
          some ((-1), mu)
        ) else (
          if (bs_iv (mu m 20)) = (nI 12) then (
            some ((-1), mu)
          ) else (
            fg_bd (FX12_startFigure m mu) (fun mu10 => 
            fg_bd (fg_lp (FX12_add_b73 m p1 p2 p3 p4) fg_fu ((nI 0), mu10)) (fun t15 => 
              fg_gd (fg_in p1 13) (
              fg_gd (fg_in ((bs_iv (t15 (m + 9) p1.toNatClampNeg)) + p4) 60) (
              fg_wr t15 (m + 15) ((bs_iv (t15 (m + 9) p1.toNatClampNeg)) + p4).toNatClampNeg (.int p3) (fun mu19 => 
              fg_bd (FX12_addAll m mu19 p1 (nI 0) (nI 0)) (fun mu21 => 
              fg_gd (fg_in p1 13) (
              fg_gd (fg_in p1 13) (
              fg_bd (FX12_addAll m mu21 p2 (bs_iv (mu21 (m + 6) p1.toNatClampNeg)) (bs_iv (mu21 (m + 9) p1.toNatClampNeg))) (fun mu25 => 
              fg_gd (fg_in p1 13) (
              fg_gd (fg_in p2 13) (
              fg_gd (fg_in (bs_iv (mu25 m 20)) 13) (
              fg_wr mu25 (m + 6) (bs_iv (mu25 m 20)).toNatClampNeg (.int ((bs_iv (mu25 (m + 6) p1.toNatClampNeg)) + (bs_iv (mu25 (m + 6) p2.toNatClampNeg)))) (fun mu29 => 
              fg_gd (fg_in p1 13) (
              fg_gd (fg_in p2 13) (
              fg_bd (FX12_endFigure m mu29 ((bs_iv (mu29 (m + 9) p1.toNatClampNeg)) + (bs_iv (mu29 (m + 9) p2.toNatClampNeg)))) (fun mu33 => 
              some (((bs_iv (mu33 m 20)) - (nI 1)), mu33)))))))))))))))
            ))
          )
        )))
      )))
    ))
  ))
set_option maxHeartbeats 4000000 in
theorem wX12_add {nx : Nat} {sh : bs_Sh} {R : Nat → Nat → Option Nat} {m : Nat} (HM : fg_S (bs_tM m) R m sh) {mu : bs_Mm} (hR : fg_R R mu) {p1 : Int32} {p2 : Int32} {p3 : Int32} {p4 : Int32} {r : Int32 × bs_Mm} (h : FX12_add m mu p1 p2 p3 p4 = some r) : bs_C mX12_add (bs_rm 3 0 0) [.ref m, .int p1, .int p2, .int p3, .int p4] nx sh mu (fg_po R nx sh (some (.int r.1)) r.2) := by
  refine bs_ct (by decide +kernel) (Nat.le_of_ble_eq_true rfl) ?_
  have kr : ∀ q, r = q → fg_R R q.2 → (fg_po R nx sh (some (.int r.1)) r.2) (some (.int q.1)) nx sh q.2 := fun q e hq => by subst e; exact ⟨rfl, rfl, rfl, rfl, hq⟩
  unfold FX12_add at h
  refine bs_aload_n dX12_add_0 rfl ?_
  refine bs_iload_n dX12_add_1 rfl ?_
  refine bs_iload_n dX12_add_2 rfl ?_
  obtain ⟨v2, k1, h⟩ := fg_bdE h
  refine fg_callV dX12_add_3 qX12_307 (wX12_isPoint HM hR k1) rfl (HM.s 0 rfl rfl rfl) rfl (Nat.le_of_ble_eq_true rfl) (fg_cr (by first | decide | omega) (by decide)) (fun hR => ?_)
  refine bs_if_eq (tgt := 64) dX12_add_6 (by decide) (fun c => ?_) (fun c => ?_)
  · replace h := fg_ip c h
    refine bs_iconst (v := (-1)) dX12_add_64 (by decide) ?_
    cases h
    exact bs_iret dX12_add_65 rfl (Nat.zero_le _) (Nat.zero_le _) (kr _ rfl hR)
  · replace h := fg_iN c h
    refine bs_aload_n dX12_add_9 rfl ?_
    refine bs_iload_n dX12_add_10 rfl ?_
    refine bs_iload dX12_add_11 rfl ?_
    obtain ⟨v4, k3, h⟩ := fg_bdE h
    refine fg_callV dX12_add_13 qX12_307 (wX12_isPoint HM hR k3) rfl (HM.s 0 rfl rfl rfl) rfl (Nat.le_of_ble_eq_true rfl) (fg_cr (by first | decide | omega) (by decide)) (fun hR => ?_)
    refine bs_if_eq (tgt := 64) dX12_add_16 (by decide) (fun c => ?_) (fun c => ?_)
    · replace h := fg_ip c h
      refine bs_iconst (v := (-1)) dX12_add_64 (by decide) ?_
      cases h
      exact bs_iret dX12_add_65 rfl (Nat.zero_le _) (Nat.zero_le _) (kr _ rfl hR)
    · replace h := fg_iN c h
      refine bs_aload_n dX12_add_19 rfl ?_
      refine fg_getR (b := (m + 8)) dX12_add_20 fX12_31 (HM.s 0 rfl rfl rfl) hR (HM.r 0 13 rfl rfl rfl) ?_
      refine bs_iload_n dX12_add_23 rfl ?_
      obtain ⟨g5, h⟩ := fg_gdE h
      refine bs_iald dX12_add_24 (HM.ss 8 rfl rfl) (fg_in_ix g5) ?_
      refine bs_aload_n dX12_add_25 rfl ?_
      refine fg_getR (b := (m + 8)) dX12_add_26 fX12_31 (HM.s 0 rfl rfl rfl) hR (HM.r 0 13 rfl rfl rfl) ?_
      refine bs_iload_n dX12_add_29 rfl ?_
      obtain ⟨g6, h⟩ := fg_gdE h
      refine bs_iald dX12_add_30 (HM.ss 8 rfl rfl) (fg_in_ix g6) ?_
      refine bs_iadd dX12_add_31 ?_
      refine bs_bipush (v := (nI 24)) dX12_add_32 (by decide) ?_
      refine bs_icmp_gt (tgt := 64) dX12_add_34 (by decide) (fun c => ?_) (fun c => ?_)
      · replace h := fg_ip c h
        refine bs_iconst (v := (-1)) dX12_add_64 (by decide) ?_
        cases h
        exact bs_iret dX12_add_65 rfl (Nat.zero_le _) (Nat.zero_le _) (kr _ rfl hR)
      · replace h := fg_iN c h
        refine bs_aload_n dX12_add_37 rfl ?_
        refine fg_getR (b := (m + 6)) dX12_add_38 fX12_25 (HM.s 0 rfl rfl rfl) hR (HM.r 0 11 rfl rfl rfl) ?_
        refine bs_iload_n dX12_add_41 rfl ?_
        obtain ⟨g7, h⟩ := fg_gdE h
        refine bs_iald dX12_add_42 (HM.ss 6 rfl rfl) (fg_in_ix g7) ?_
        refine bs_aload_n dX12_add_43 rfl ?_
        refine fg_getR (b := (m + 6)) dX12_add_44 fX12_25 (HM.s 0 rfl rfl rfl) hR (HM.r 0 11 rfl rfl rfl) ?_
        refine bs_iload_n dX12_add_47 rfl ?_
        obtain ⟨g8, h⟩ := fg_gdE h
        refine bs_iald dX12_add_48 (HM.ss 6 rfl rfl) (fg_in_ix g8) ?_
        refine bs_iadd dX12_add_49 ?_
        refine bs_bipush (v := (nI 6)) dX12_add_50 (by decide) ?_
        refine bs_icmp_gt (tgt := 64) dX12_add_52 (by decide) (fun c => ?_) (fun c => ?_)
        · replace h := fg_ip c h
          refine bs_iconst (v := (-1)) dX12_add_64 (by decide) ?_
          cases h
          exact bs_iret dX12_add_65 rfl (Nat.zero_le _) (Nat.zero_le _) (kr _ rfl hR)
        · replace h := fg_iN c h
          refine bs_aload_n dX12_add_55 rfl ?_
          refine bs_getI dX12_add_56 fX12_252 (HM.s 0 rfl rfl rfl) ?_
          refine bs_bipush (v := (nI 12)) dX12_add_59 (by decide) ?_
          refine bs_icmp_ne (tgt := 66) dX12_add_61 (by decide) (fun c => ?_) (fun c => ?_)
          · replace h := fg_iN c h
            refine bs_aload_n dX12_add_66 rfl ?_
            obtain ⟨mu10, k9, h⟩ := fg_bdE h
            refine fg_callVv dX12_add_67 qX12_316 (wX12_startFigure HM hR k9) rfl (HM.s 0 rfl rfl rfl) rfl (Nat.le_of_ble_eq_true rfl) (fg_cr (by first | decide | omega) (by decide)) (fun hR => ?_)
            refine bs_iconst (v := (nI 0)) dX12_add_70 (by decide) ?_
            refine bs_istore dX12_add_71 rfl (by decide) ?_
            obtain ⟨t15, k16, h⟩ := fg_bdE h
            refine bs_W.mk [(0, .ref m), (1, .int p1), (2, .int p2), (3, .int p3), (4, .int p4), (5, .int (nI 0))] (by intro q hq; simp only [List.mem_cons, List.not_mem_nil, or_false] at hq; rcases hq with rfl | rfl | rfl | rfl | rfl | rfl <;> rfl) ?_
            refine wFX12_add_l73 HM _ _ _ k16 hR ?_
            intro s e hR
            subst e
            refine bs_aload_n dX12_add_106 rfl ?_
            refine fg_getR (b := (m + 15)) dX12_add_107 fX12_52 (HM.s 0 rfl rfl rfl) hR (HM.r 0 21 rfl rfl rfl) ?_
            refine bs_aload_n dX12_add_110 rfl ?_
            refine fg_getR (b := (m + 9)) dX12_add_111 fX12_34 (HM.s 0 rfl rfl rfl) hR (HM.r 0 14 rfl rfl rfl) ?_
            refine bs_iload_n dX12_add_114 rfl ?_
            obtain ⟨g17, h⟩ := fg_gdE h
            refine bs_iald dX12_add_115 (HM.ss 9 rfl rfl) (fg_in_ix g17) ?_
            refine bs_iload dX12_add_116 rfl ?_
            refine bs_iadd dX12_add_118 ?_
            refine bs_iload_n dX12_add_119 rfl ?_
            obtain ⟨g18, h⟩ := fg_gdE h
            refine fg_iast dX12_add_120 (HM.ss 15 rfl rfl) (fun j => HM.n 15 j rfl rfl rfl) g18 hR h (fun mu19 hR h => ?_)
            refine bs_aload_n dX12_add_121 rfl ?_
            refine bs_iload_n dX12_add_122 rfl ?_
            refine bs_iconst (v := (nI 0)) dX12_add_123 (by decide) ?_
            refine bs_iconst (v := (nI 0)) dX12_add_124 (by decide) ?_
            obtain ⟨mu21, k20, h⟩ := fg_bdE h
            refine fg_callVv dX12_add_125 qX12_326 (wX12_addAll HM hR k20) rfl (HM.s 0 rfl rfl rfl) rfl (Nat.le_of_ble_eq_true rfl) (fg_cr (by first | decide | omega) (by decide)) (fun hR => ?_)
            refine bs_aload_n dX12_add_128 rfl ?_
            refine bs_iload_n dX12_add_129 rfl ?_
            refine bs_aload_n dX12_add_130 rfl ?_
            refine fg_getR (b := (m + 6)) dX12_add_131 fX12_25 (HM.s 0 rfl rfl rfl) hR (HM.r 0 11 rfl rfl rfl) ?_
            refine bs_iload_n dX12_add_134 rfl ?_
            obtain ⟨g22, h⟩ := fg_gdE h
            refine bs_iald dX12_add_135 (HM.ss 6 rfl rfl) (fg_in_ix g22) ?_
            refine bs_aload_n dX12_add_136 rfl ?_
            refine fg_getR (b := (m + 9)) dX12_add_137 fX12_34 (HM.s 0 rfl rfl rfl) hR (HM.r 0 14 rfl rfl rfl) ?_
            refine bs_iload_n dX12_add_140 rfl ?_
            obtain ⟨g23, h⟩ := fg_gdE h
            refine bs_iald dX12_add_141 (HM.ss 9 rfl rfl) (fg_in_ix g23) ?_
            obtain ⟨mu25, k24, h⟩ := fg_bdE h
            refine fg_callVv dX12_add_142 qX12_326 (wX12_addAll HM hR k24) rfl (HM.s 0 rfl rfl rfl) rfl (Nat.le_of_ble_eq_true rfl) (fg_cr (by first | decide | omega) (by decide)) (fun hR => ?_)
            refine bs_aload_n dX12_add_145 rfl ?_
            refine fg_getR (b := (m + 6)) dX12_add_146 fX12_25 (HM.s 0 rfl rfl rfl) hR (HM.r 0 11 rfl rfl rfl) ?_
            refine bs_aload_n dX12_add_149 rfl ?_
            refine bs_getI dX12_add_150 fX12_252 (HM.s 0 rfl rfl rfl) ?_
            refine bs_aload_n dX12_add_153 rfl ?_
            refine fg_getR (b := (m + 6)) dX12_add_154 fX12_25 (HM.s 0 rfl rfl rfl) hR (HM.r 0 11 rfl rfl rfl) ?_
            refine bs_iload_n dX12_add_157 rfl ?_
            obtain ⟨g26, h⟩ := fg_gdE h
            refine bs_iald dX12_add_158 (HM.ss 6 rfl rfl) (fg_in_ix g26) ?_
            refine bs_aload_n dX12_add_159 rfl ?_
            refine fg_getR (b := (m + 6)) dX12_add_160 fX12_25 (HM.s 0 rfl rfl rfl) hR (HM.r 0 11 rfl rfl rfl) ?_
            refine bs_iload_n dX12_add_163 rfl ?_
            obtain ⟨g27, h⟩ := fg_gdE h
            refine bs_iald dX12_add_164 (HM.ss 6 rfl rfl) (fg_in_ix g27) ?_
            refine bs_iadd dX12_add_165 ?_
            obtain ⟨g28, h⟩ := fg_gdE h
            refine fg_iast dX12_add_166 (HM.ss 6 rfl rfl) (fun j => HM.n 6 j rfl rfl rfl) g28 hR h (fun mu29 hR h => ?_)
            refine bs_aload_n dX12_add_167 rfl ?_
            refine bs_aload_n dX12_add_168 rfl ?_
            refine fg_getR (b := (m + 9)) dX12_add_169 fX12_34 (HM.s 0 rfl rfl rfl) hR (HM.r 0 14 rfl rfl rfl) ?_
            refine bs_iload_n dX12_add_172 rfl ?_
            obtain ⟨g30, h⟩ := fg_gdE h
            refine bs_iald dX12_add_173 (HM.ss 9 rfl rfl) (fg_in_ix g30) ?_
            refine bs_aload_n dX12_add_174 rfl ?_
            refine fg_getR (b := (m + 9)) dX12_add_175 fX12_34 (HM.s 0 rfl rfl rfl) hR (HM.r 0 14 rfl rfl rfl) ?_
            refine bs_iload_n dX12_add_178 rfl ?_
            obtain ⟨g31, h⟩ := fg_gdE h
            refine bs_iald dX12_add_179 (HM.ss 9 rfl rfl) (fg_in_ix g31) ?_
            refine bs_iadd dX12_add_180 ?_
            obtain ⟨mu33, k32, h⟩ := fg_bdE h
            refine fg_callVv dX12_add_181 qX12_323 (wX12_endFigure HM hR k32) rfl (HM.s 0 rfl rfl rfl) rfl (Nat.le_of_ble_eq_true rfl) (fg_cr (by first | decide | omega) (by decide)) (fun hR => ?_)
            refine bs_aload_n dX12_add_184 rfl ?_
            refine bs_getI dX12_add_185 fX12_252 (HM.s 0 rfl rfl rfl) ?_
            refine bs_iconst (v := (nI 1)) dX12_add_188 (by decide) ?_
            refine bs_isub dX12_add_189 ?_
            cases h
            exact bs_iret dX12_add_190 rfl (Nat.zero_le _) (Nat.zero_le _) (kr _ rfl hR)
          · replace h := fg_ip c h
            refine bs_iconst (v := (-1)) dX12_add_64 (by decide) ?_
            cases h
            exact bs_iret dX12_add_65 rfl (Nat.zero_le _) (Nat.zero_le _) (kr _ rfl hR)
noncomputable def FX12_within (m : Nat) (mu : bs_Mm) (p0 : Int64) : Option (Int64) :=
  some ((if (if p0 < (1000000 : Int64) then p0 else (1000000 : Int64)) < (-1000000 : Int64) then (-1000000 : Int64) else (if p0 < (1000000 : Int64) then p0 else (1000000 : Int64))))
set_option maxHeartbeats 4000000 in
theorem wX12_within {nx : Nat} {sh : bs_Sh} {R : Nat → Nat → Option Nat} {m : Nat} (HM : fg_S (bs_tM m) R m sh) {mu : bs_Mm} (hR : fg_R R mu) {p0 : Int64} {r : Int64} (h : FX12_within m mu p0 = some r) : bs_C mX12_within (bs_rm 1 0 0) [.long p0] nx sh mu (fg_po R nx sh (some (.long r)) mu) := by
  refine bs_ct (by decide +kernel) (Nat.le_of_ble_eq_true rfl) ?_
  have kr : ∀ q, r = q → fg_R R mu → (fg_po R nx sh (some (.long r)) mu) (some (.long q)) nx sh mu := fun q e hq => by subst e; exact ⟨rfl, rfl, rfl, rfl, hq⟩
  unfold FX12_within at h
  refine bs_ldc2 (v := (-1000000)) dX12_within_0 cX12_258 ?_
  refine bs_ldc2 (v := (1000000)) dX12_within_3 cX12_260 ?_
  refine bs_lload_n dX12_within_6 rfl ?_
  refine bs_mminl dX12_within_7 xX12_262 (by first | decide | (simp only [bs_rm]; omega)) (by first | exact Nat.le_of_ble_eq_true rfl | (simp only [bs_rm, List.map, List.sum_cons, List.sum_nil, Value.category]; omega)) (Nat.zero_le _) (Nat.zero_le _) ?_
  refine bs_mmaxl dX12_within_10 xX12_265 (by first | decide | (simp only [bs_rm]; omega)) (by first | exact Nat.le_of_ble_eq_true rfl | (simp only [bs_rm, List.map, List.sum_cons, List.sum_nil, Value.category]; omega)) (Nat.zero_le _) (Nat.zero_le _) ?_
  cases h
  exact bs_lret dX12_within_13 rfl (Nat.zero_le _) (Nat.zero_le _) (kr _ rfl hR)
