noncomputable def FX12_sort (m : Nat) (mu : bs_Mm) (p1 : Int32) (p2 : Int32) (p3 : Int32) : Option (Int32 × bs_Mm) :=
  fg_bd (FX12_in m mu p1 (nI 5) (nI 200)) (fun v2 => 
  if v2 = 0 then (
    some ((-1), mu)
  ) else (
    fg_bd (FX12_in m mu p2 (nI 0) (nI 9)) (fun v4 => 
    if v4 = 0 then (
      some ((-1), mu)
    ) else (
      fg_bd (FX12_in m mu p3 (nI 0) (nI 99)) (fun v6 => 
      if v6 = 0 then (
        some ((-1), mu)
      ) else (
        if (bs_iv (mu m 5)) = (nI 6) then (
          some ((-1), mu)
        ) else (
          fg_gd (fg_in (bs_iv (mu m 5)) 6) (
          fg_wr mu (m + 1) (bs_iv (mu m 5)).toNatClampNeg (.int p1) (fun mu8 => 
          fg_gd (fg_in (bs_iv (mu8 m 5)) 6) (
          fg_wr mu8 (m + 2) (bs_iv (mu8 m 5)).toNatClampNeg (.int p2) (fun mu10 => 
          fg_gd (fg_in (bs_iv (mu10 m 5)) 6) (
          fg_wr mu10 (m + 3) (bs_iv (mu10 m 5)).toNatClampNeg (.int p3) (fun mu12 => 
          fg_wr mu12 m 5 (.int ((bs_iv (mu12 m 5)) + (nI 1))) (fun mu13 => 
          some (((bs_iv (mu13 m 5)) - (nI 1)), mu13))))))))
        )
      ))
    ))
  ))
set_option maxHeartbeats 4000000 in
theorem wX12_sort {nx : Nat} {sh : bs_Sh} {R : Nat → Nat → Option Nat} {m : Nat} (HM : fg_S (bs_tM m) R m sh) {mu : bs_Mm} (hR : fg_R R mu) {p1 : Int32} {p2 : Int32} {p3 : Int32} {r : Int32 × bs_Mm} (h : FX12_sort m mu p1 p2 p3 = some r) : bs_C mX12_sort (bs_rm 1 0 0) [.ref m, .int p1, .int p2, .int p3] nx sh mu (fg_po R nx sh (some (.int r.1)) r.2) := by
  refine bs_ct (by decide +kernel) (Nat.le_of_ble_eq_true rfl) ?_
  have kr : ∀ q, r = q → fg_R R q.2 → (fg_po R nx sh (some (.int r.1)) r.2) (some (.int q.1)) nx sh q.2 := fun q e hq => by subst e; exact ⟨rfl, rfl, rfl, rfl, hq⟩
  unfold FX12_sort at h
  refine bs_iload_n dX12_sort_0 rfl ?_
  refine bs_iconst (v := (nI 5)) dX12_sort_1 (by decide) ?_
  refine bs_sipush (v := (nI 200)) dX12_sort_2 (by decide) ?_
  obtain ⟨v2, k1, h⟩ := fg_bdE h
  refine fg_callS dX12_sort_5 qX12_121 (wX12_in HM hR k1) rfl rfl (Nat.le_of_ble_eq_true rfl) (fg_cr (by first | decide | omega) (by decide)) (fun hR => ?_)
  refine bs_if_eq (tgt := 40) dX12_sort_8 (by decide) (fun c => ?_) (fun c => ?_)
  · replace h := fg_ip c h
    refine bs_iconst (v := (-1)) dX12_sort_40 (by decide) ?_
    cases h
    exact bs_iret dX12_sort_41 rfl (Nat.zero_le _) (Nat.zero_le _) (kr _ rfl hR)
  · replace h := fg_iN c h
    refine bs_iload_n dX12_sort_11 rfl ?_
    refine bs_iconst (v := (nI 0)) dX12_sort_12 (by decide) ?_
    refine bs_bipush (v := (nI 9)) dX12_sort_13 (by decide) ?_
    obtain ⟨v4, k3, h⟩ := fg_bdE h
    refine fg_callS dX12_sort_15 qX12_121 (wX12_in HM hR k3) rfl rfl (Nat.le_of_ble_eq_true rfl) (fg_cr (by first | decide | omega) (by decide)) (fun hR => ?_)
    refine bs_if_eq (tgt := 40) dX12_sort_18 (by decide) (fun c => ?_) (fun c => ?_)
    · replace h := fg_ip c h
      refine bs_iconst (v := (-1)) dX12_sort_40 (by decide) ?_
      cases h
      exact bs_iret dX12_sort_41 rfl (Nat.zero_le _) (Nat.zero_le _) (kr _ rfl hR)
    · replace h := fg_iN c h
      refine bs_iload_n dX12_sort_21 rfl ?_
      refine bs_iconst (v := (nI 0)) dX12_sort_22 (by decide) ?_
      refine bs_bipush (v := (nI 99)) dX12_sort_23 (by decide) ?_
      obtain ⟨v6, k5, h⟩ := fg_bdE h
      refine fg_callS dX12_sort_25 qX12_121 (wX12_in HM hR k5) rfl rfl (Nat.le_of_ble_eq_true rfl) (fg_cr (by first | decide | omega) (by decide)) (fun hR => ?_)
      refine bs_if_eq (tgt := 40) dX12_sort_28 (by decide) (fun c => ?_) (fun c => ?_)
      · replace h := fg_ip c h
        refine bs_iconst (v := (-1)) dX12_sort_40 (by decide) ?_
        cases h
        exact bs_iret dX12_sort_41 rfl (Nat.zero_le _) (Nat.zero_le _) (kr _ rfl hR)
      · replace h := fg_iN c h
        refine bs_aload_n dX12_sort_31 rfl ?_
        refine bs_getI dX12_sort_32 fX12_125 (HM.s 0 rfl rfl rfl) ?_
        refine bs_bipush (v := (nI 6)) dX12_sort_35 (by decide) ?_
        refine bs_icmp_ne (tgt := 42) dX12_sort_37 (by decide) (fun c => ?_) (fun c => ?_)
        · replace h := fg_iN c h
          refine bs_aload_n dX12_sort_42 rfl ?_
          refine fg_getR (b := (m + 1)) dX12_sort_43 fX12_9 (HM.s 0 rfl rfl rfl) hR (HM.r 0 1 rfl rfl rfl) ?_
          refine bs_aload_n dX12_sort_46 rfl ?_
          refine bs_getI dX12_sort_47 fX12_125 (HM.s 0 rfl rfl rfl) ?_
          refine bs_iload_n dX12_sort_50 rfl ?_
          obtain ⟨g7, h⟩ := fg_gdE h
          refine fg_iast dX12_sort_51 (HM.ss 1 rfl rfl) (fun j => HM.n 1 j rfl rfl rfl) g7 hR h (fun mu8 hR h => ?_)
          refine bs_aload_n dX12_sort_52 rfl ?_
          refine fg_getR (b := (m + 2)) dX12_sort_53 fX12_13 (HM.s 0 rfl rfl rfl) hR (HM.r 0 2 rfl rfl rfl) ?_
          refine bs_aload_n dX12_sort_56 rfl ?_
          refine bs_getI dX12_sort_57 fX12_125 (HM.s 0 rfl rfl rfl) ?_
          refine bs_iload_n dX12_sort_60 rfl ?_
          obtain ⟨g9, h⟩ := fg_gdE h
          refine fg_iast dX12_sort_61 (HM.ss 2 rfl rfl) (fun j => HM.n 2 j rfl rfl rfl) g9 hR h (fun mu10 hR h => ?_)
          refine bs_aload_n dX12_sort_62 rfl ?_
          refine fg_getR (b := (m + 3)) dX12_sort_63 fX12_16 (HM.s 0 rfl rfl rfl) hR (HM.r 0 3 rfl rfl rfl) ?_
          refine bs_aload_n dX12_sort_66 rfl ?_
          refine bs_getI dX12_sort_67 fX12_125 (HM.s 0 rfl rfl rfl) ?_
          refine bs_iload_n dX12_sort_70 rfl ?_
          obtain ⟨g11, h⟩ := fg_gdE h
          refine fg_iast dX12_sort_71 (HM.ss 3 rfl rfl) (fun j => HM.n 3 j rfl rfl rfl) g11 hR h (fun mu12 hR h => ?_)
          refine bs_aload_n dX12_sort_72 rfl ?_
          refine bs_dup dX12_sort_73 rfl ?_
          refine bs_getI dX12_sort_74 fX12_125 (HM.s 0 rfl rfl rfl) ?_
          refine bs_iconst (v := (nI 1)) dX12_sort_77 (by decide) ?_
          refine bs_iadd dX12_sort_78 ?_
          refine fg_putI dX12_sort_79 pX12_125 (HM.s 0 rfl rfl rfl) (HM.n 0 5 rfl rfl rfl) hR h (fun mu13 hR h => ?_)
          refine bs_aload_n dX12_sort_82 rfl ?_
          refine bs_getI dX12_sort_83 fX12_125 (HM.s 0 rfl rfl rfl) ?_
          refine bs_iconst (v := (nI 1)) dX12_sort_86 (by decide) ?_
          refine bs_isub dX12_sort_87 ?_
          cases h
          exact bs_iret dX12_sort_88 rfl (Nat.zero_le _) (Nat.zero_le _) (kr _ rfl hR)
        · replace h := fg_ip c h
          refine bs_iconst (v := (-1)) dX12_sort_40 (by decide) ?_
          cases h
          exact bs_iret dX12_sort_41 rfl (Nat.zero_le _) (Nat.zero_le _) (kr _ rfl hR)
noncomputable def FX12_span_b32_L19 (m : Nat) (mu : bs_Mm) (l1 : Int32) (l3 : Int32) (s : Int32 × Int32) : Option ((Int32 × Int32) ⊕ (Int32)) :=
  fg_gd (fg_in l1 13) (
  if (bs_iv (mu (m + 9) l1.toNatClampNeg)) ≤ s.2 then (
    some (.inr s.1)
  ) else (
    fg_gd (fg_in (((nI 60) * l3) + s.2) 3600) (
    if (1000000 : Int32) ≤ (bs_iv (mu (m + 24) (((nI 60) * l3) + s.2).toNatClampNeg)) then (
      some (.inl (s.1, (s.2 + (nI 1))))
    ) else (
      fg_gd (fg_in (((nI 60) * l3) + s.2) 3600) (
      some (.inl ((if s.1 < (bs_iv (mu (m + 24) (((nI 60) * l3) + s.2).toNatClampNeg)) then (bs_iv (mu (m + 24) (((nI 60) * l3) + s.2).toNatClampNeg)) else s.1), (s.2 + (nI 1)))))
    ))
  ))
set_option maxHeartbeats 4000000 in
theorem wFX12_span_b32_L19 {nx : Nat} {sh : bs_Sh} {R : Nat → Nat → Option Nat} {m : Nat} (HM : fg_S (bs_tM m) R m sh) {mu : bs_Mm} {l1 : Int32} {l3 : Int32} {Ph : bs_Po} {s : Int32 × Int32} {r : (Int32 × Int32) ⊕ (Int32)} (ka : ∀ s, r = .inl s → bs_W Ph mX12_span (bs_rm 2 0 0) 32 (bs_mk [(0, .ref m), (1, .int l1), (2, .int s.1), (3, .int l3), (4, .int s.2)]) [] 0 0 nx sh mu) (ke : ∀ s, r = .inr s → bs_W Ph mX12_span (bs_rm 2 0 0) 88 (bs_mk [(0, .ref m), (1, .int l1), (2, .int s), (3, .int l3)]) [] 0 0 nx sh mu) (hR : fg_R R mu) (h : FX12_span_b32_L19 m mu l1 l3 s = some r) : bs_W Ph mX12_span (bs_rm 2 0 0) 32 (bs_mk [(0, .ref m), (1, .int l1), (2, .int s.1), (3, .int l3), (4, .int s.2)]) [] 0 0 nx sh mu := by
  unfold FX12_span_b32_L19 at h
  refine bs_iload dX12_span_32 rfl ?_
  refine bs_aload_n dX12_span_34 rfl ?_
  refine fg_getR (b := (m + 9)) dX12_span_35 fX12_34 (HM.s 0 rfl rfl rfl) hR (HM.r 0 14 rfl rfl rfl) ?_
  refine bs_iload_n dX12_span_38 rfl ?_
  obtain ⟨g6, h⟩ := fg_gdE h
  refine bs_iald dX12_span_39 (HM.ss 9 rfl rfl) (fg_in_ix g6) ?_
  refine bs_icmp_ge (tgt := 88) dX12_span_40 (by decide) (fun c => ?_) (fun c => ?_)
  · replace h := fg_ip c h
    cases h
    refine bs_W.mk [(0, .ref m), (1, .int l1), (2, .int s.1), (3, .int l3)] (by intro q hq; simp only [List.mem_cons, List.not_mem_nil, or_false] at hq; rcases hq with rfl | rfl | rfl | rfl <;> rfl) (ke _ rfl)
  · replace h := fg_iN c h
    refine bs_aload_n dX12_span_43 rfl ?_
    refine fg_getR (b := (m + 24)) dX12_span_44 fX12_80 (HM.s 0 rfl rfl rfl) hR (HM.r 0 36 rfl rfl rfl) ?_
    refine bs_bipush (v := (nI 60)) dX12_span_47 (by decide) ?_
    refine bs_iload_n dX12_span_49 rfl ?_
    refine bs_imul dX12_span_50 ?_
    refine bs_iload dX12_span_51 rfl ?_
    refine bs_iadd dX12_span_53 ?_
    obtain ⟨g7, h⟩ := fg_gdE h
    refine bs_iald dX12_span_54 (HM.ss 24 rfl rfl) (fg_in_ix g7) ?_
    refine bs_ldcw (v := (1000000)) dX12_span_55 cX12_365 ?_
    refine bs_icmp_ge (tgt := 80) dX12_span_58 (by decide) (fun c => ?_) (fun c => ?_)
    · replace h := fg_ip c h
      refine bs_iload_n dX12_span_80 rfl ?_
      refine bs_istore_n dX12_span_81 rfl (by decide) ?_
      refine fg_iinc (m := (nI 1)) dX12_span_82 rfl rfl (by decide) ?_
      refine bs_goto (tgt := 32) dX12_span_85 (by decide) ?_
      cases h
      refine bs_W.mk [(0, .ref m), (1, .int l1), (2, .int s.1), (3, .int l3), (4, .int (s.2 + (nI 1)))] (by intro q hq; simp only [List.mem_cons, List.not_mem_nil, or_false] at hq; rcases hq with rfl | rfl | rfl | rfl | rfl <;> rfl) (by have k := ka _ rfl; dsimp only at k; exact k)
    · replace h := fg_iN c h
      refine bs_iload_n dX12_span_61 rfl ?_
      refine bs_aload_n dX12_span_62 rfl ?_
      refine fg_getR (b := (m + 24)) dX12_span_63 fX12_80 (HM.s 0 rfl rfl rfl) hR (HM.r 0 36 rfl rfl rfl) ?_
      refine bs_bipush (v := (nI 60)) dX12_span_66 (by decide) ?_
      refine bs_iload_n dX12_span_68 rfl ?_
      refine bs_imul dX12_span_69 ?_
      refine bs_iload dX12_span_70 rfl ?_
      refine bs_iadd dX12_span_72 ?_
      obtain ⟨g8, h⟩ := fg_gdE h
      refine bs_iald dX12_span_73 (HM.ss 24 rfl rfl) (fg_in_ix g8) ?_
      refine bs_mmax dX12_span_74 xX12_149 (by first | decide | (simp only [bs_rm]; omega)) (by first | exact Nat.le_of_ble_eq_true rfl | (simp only [bs_rm, List.map, List.sum_cons, List.sum_nil, Value.category]; omega)) (Nat.zero_le _) (Nat.zero_le _) ?_
      refine bs_goto (tgt := 81) dX12_span_77 (by decide) ?_
      refine bs_istore_n dX12_span_81 rfl (by decide) ?_
      refine fg_iinc (m := (nI 1)) dX12_span_82 rfl rfl (by decide) ?_
      refine bs_goto (tgt := 32) dX12_span_85 (by decide) ?_
      cases h
      refine bs_W.mk [(0, .ref m), (1, .int l1), (2, .int (if s.1 < (bs_iv (mu (m + 24) (((nI 60) * l3) + s.2).toNatClampNeg)) then (bs_iv (mu (m + 24) (((nI 60) * l3) + s.2).toNatClampNeg)) else s.1)), (3, .int l3), (4, .int (s.2 + (nI 1)))] (by intro q hq; simp only [List.mem_cons, List.not_mem_nil, or_false] at hq; rcases hq with rfl | rfl | rfl | rfl | rfl <;> rfl) (by have k := ka _ rfl; dsimp only at k; exact k)
theorem wFX12_span_l32_L19 {nx : Nat} {sh : bs_Sh} {R : Nat → Nat → Option Nat} {m : Nat} (HM : fg_S (bs_tM m) R m sh) {mu : bs_Mm} {l1 : Int32} {l3 : Int32} {Ph : bs_Po} {t : Int32} : ∀ n (y0 : Int32) (y1 : Int32), fg_lp (FX12_span_b32_L19 m mu l1 l3) n (y0, y1) = some t → fg_R R mu → (ke : ∀ s, t = s → bs_W Ph mX12_span (bs_rm 2 0 0) 88 (bs_mk [(0, .ref m), (1, .int l1), (2, .int s), (3, .int l3)]) [] 0 0 nx sh mu) → bs_W Ph mX12_span (bs_rm 2 0 0) 32 (bs_mk [(0, .ref m), (1, .int l1), (2, .int y0), (3, .int l3), (4, .int y1)]) [] 0 0 nx sh mu := by
  intro n
  induction n with
  | zero => intro y0 y1 h; exact absurd h (fun z => fg_lp0 z)
  | succ n ih =>
    intro y0 y1 h hR ke
    obtain ⟨r, hb, h1, h2⟩ := fg_lpE h
    exact wFX12_span_b32_L19 (s := (y0, y1)) HM (fun s' e => ih s'.1 s'.2 (h1 s' e) hR ke) (fun s' e => ke s' (h2 _ e).symm) hR hb
noncomputable def FX12_span_b19 (m : Nat) (mu : bs_Mm) (l1 : Int32) (s : Int32 × Int32) : Option ((Int32 × Int32) ⊕ (Int32)) :=
  fg_gd (fg_in l1 13) (
  if (bs_iv (mu (m + 9) l1.toNatClampNeg)) ≤ s.2 then (
    some (.inr s.1)
  ) else (
    fg_bd (fg_lp (FX12_span_b32_L19 m mu l1 s.2) fg_fu (s.1, (nI 0))) (fun t9 => 
      some (.inl (t9, (s.2 + (nI 1))))
    )
  ))
set_option maxHeartbeats 4000000 in
theorem wFX12_span_b19 {nx : Nat} {sh : bs_Sh} {R : Nat → Nat → Option Nat} {m : Nat} (HM : fg_S (bs_tM m) R m sh) {mu : bs_Mm} {l1 : Int32} {Ph : bs_Po} {s : Int32 × Int32} {r : (Int32 × Int32) ⊕ (Int32)} (ka : ∀ s, r = .inl s → bs_W Ph mX12_span (bs_rm 2 0 0) 19 (bs_mk [(0, .ref m), (1, .int l1), (2, .int s.1), (3, .int s.2)]) [] 0 0 nx sh mu) (ke : ∀ s, r = .inr s → bs_W Ph mX12_span (bs_rm 2 0 0) 94 (bs_mk [(0, .ref m), (1, .int l1), (2, .int s)]) [] 0 0 nx sh mu) (hR : fg_R R mu) (h : FX12_span_b19 m mu l1 s = some r) : bs_W Ph mX12_span (bs_rm 2 0 0) 19 (bs_mk [(0, .ref m), (1, .int l1), (2, .int s.1), (3, .int s.2)]) [] 0 0 nx sh mu := by
  unfold FX12_span_b19 at h
  refine bs_iload_n dX12_span_19 rfl ?_
  refine bs_aload_n dX12_span_20 rfl ?_
  refine fg_getR (b := (m + 9)) dX12_span_21 fX12_34 (HM.s 0 rfl rfl rfl) hR (HM.r 0 14 rfl rfl rfl) ?_
  refine bs_iload_n dX12_span_24 rfl ?_
  obtain ⟨g5, h⟩ := fg_gdE h
  refine bs_iald dX12_span_25 (HM.ss 9 rfl rfl) (fg_in_ix g5) ?_
  refine bs_icmp_ge (tgt := 94) dX12_span_26 (by decide) (fun c => ?_) (fun c => ?_)
  · replace h := fg_ip c h
    cases h
    refine bs_W.mk [(0, .ref m), (1, .int l1), (2, .int s.1)] (by intro q hq; simp only [List.mem_cons, List.not_mem_nil, or_false] at hq; rcases hq with rfl | rfl | rfl <;> rfl) (ke _ rfl)
  · replace h := fg_iN c h
    refine bs_iconst (v := (nI 0)) dX12_span_29 (by decide) ?_
    refine bs_istore dX12_span_30 rfl (by decide) ?_
    obtain ⟨t9, k10, h⟩ := fg_bdE h
    refine bs_W.mk [(0, .ref m), (1, .int l1), (2, .int s.1), (3, .int s.2), (4, .int (nI 0))] (by intro q hq; simp only [List.mem_cons, List.not_mem_nil, or_false] at hq; rcases hq with rfl | rfl | rfl | rfl | rfl <;> rfl) ?_
    refine wFX12_span_l32_L19 HM _ _ _ k10 hR ?_
    intro s e
    subst e
    refine fg_iinc (m := (nI 1)) dX12_span_88 rfl rfl (by decide) ?_
    refine bs_goto (tgt := 19) dX12_span_91 (by decide) ?_
    cases h
    refine bs_W.mk [(0, .ref m), (1, .int l1), (2, .int t9), (3, .int (s.2 + (nI 1)))] (by intro q hq; simp only [List.mem_cons, List.not_mem_nil, or_false] at hq; rcases hq with rfl | rfl | rfl | rfl <;> rfl) (by have k := ka _ rfl; dsimp only at k; exact k)
theorem wFX12_span_l19 {nx : Nat} {sh : bs_Sh} {R : Nat → Nat → Option Nat} {m : Nat} (HM : fg_S (bs_tM m) R m sh) {mu : bs_Mm} {l1 : Int32} {Ph : bs_Po} {t : Int32} : ∀ n (y0 : Int32) (y1 : Int32), fg_lp (FX12_span_b19 m mu l1) n (y0, y1) = some t → fg_R R mu → (ke : ∀ s, t = s → bs_W Ph mX12_span (bs_rm 2 0 0) 94 (bs_mk [(0, .ref m), (1, .int l1), (2, .int s)]) [] 0 0 nx sh mu) → bs_W Ph mX12_span (bs_rm 2 0 0) 19 (bs_mk [(0, .ref m), (1, .int l1), (2, .int y0), (3, .int y1)]) [] 0 0 nx sh mu := by
  intro n
  induction n with
  | zero => intro y0 y1 h; exact absurd h (fun z => fg_lp0 z)
  | succ n ih =>
    intro y0 y1 h hR ke
    obtain ⟨r, hb, h1, h2⟩ := fg_lpE h
    exact wFX12_span_b19 (s := (y0, y1)) HM (fun s' e => ih s'.1 s'.2 (h1 s' e) hR ke) (fun s' e => ke s' (h2 _ e).symm) hR hb
noncomputable def FX12_span (m : Nat) (mu : bs_Mm) (p1 : Int32) : Option (Int32 × bs_Mm) :=
  fg_bd (FX12_isFigure m mu p1) (fun v2 => 
  if v2 = 0 then (
    some ((-1), mu)
  ) else (
    fg_bd (FX12_findFars m mu p1) (fun mu4 => 
    fg_bd (fg_lp (FX12_span_b19 m mu4 p1) fg_fu ((nI 0), (nI 0))) (fun t11 => 
      some (t11, mu4)
    ))
  ))
set_option maxHeartbeats 4000000 in
theorem wX12_span {nx : Nat} {sh : bs_Sh} {R : Nat → Nat → Option Nat} {m : Nat} (HM : fg_S (bs_tM m) R m sh) {mu : bs_Mm} (hR : fg_R R mu) {p1 : Int32} {r : Int32 × bs_Mm} (h : FX12_span m mu p1 = some r) : bs_C mX12_span (bs_rm 2 0 0) [.ref m, .int p1] nx sh mu (fg_po R nx sh (some (.int r.1)) r.2) := by
  refine bs_ct (by decide +kernel) (Nat.le_of_ble_eq_true rfl) ?_
  have kr : ∀ q, r = q → fg_R R q.2 → (fg_po R nx sh (some (.int r.1)) r.2) (some (.int q.1)) nx sh q.2 := fun q e hq => by subst e; exact ⟨rfl, rfl, rfl, rfl, hq⟩
  unfold FX12_span at h
  refine bs_aload_n dX12_span_0 rfl ?_
  refine bs_iload_n dX12_span_1 rfl ?_
  obtain ⟨v2, k1, h⟩ := fg_bdE h
  refine fg_callV dX12_span_2 qX12_284 (wX12_isFigure HM hR k1) rfl (HM.s 0 rfl rfl rfl) rfl (Nat.le_of_ble_eq_true rfl) (fg_cr (by first | decide | omega) (by decide)) (fun hR => ?_)
  refine bs_if_ne (tgt := 10) dX12_span_5 (by decide) (fun c => ?_) (fun c => ?_)
  · replace h := fg_iN c h
    refine bs_aload_n dX12_span_10 rfl ?_
    refine bs_iload_n dX12_span_11 rfl ?_
    obtain ⟨mu4, k3, h⟩ := fg_bdE h
    refine fg_callVv dX12_span_12 qX12_366 (wX12_findFars HM hR k3) rfl (HM.s 0 rfl rfl rfl) rfl (Nat.le_of_ble_eq_true rfl) (fg_cr (by first | decide | omega) (by decide)) (fun hR => ?_)
    refine bs_iconst (v := (nI 0)) dX12_span_15 (by decide) ?_
    refine bs_istore_n dX12_span_16 rfl (by decide) ?_
    refine bs_iconst (v := (nI 0)) dX12_span_17 (by decide) ?_
    refine bs_istore_n dX12_span_18 rfl (by decide) ?_
    obtain ⟨t11, k12, h⟩ := fg_bdE h
    refine bs_W.mk [(0, .ref m), (1, .int p1), (2, .int (nI 0)), (3, .int (nI 0))] (by intro q hq; simp only [List.mem_cons, List.not_mem_nil, or_false] at hq; rcases hq with rfl | rfl | rfl | rfl <;> rfl) ?_
    refine wFX12_span_l19 HM _ _ _ k12 hR ?_
    intro s e
    subst e
    refine bs_iload_n dX12_span_94 rfl ?_
    cases h
    exact bs_iret dX12_span_95 rfl (Nat.zero_le _) (Nat.zero_le _) (kr _ rfl hR)
  · replace h := fg_ip c h
    refine bs_iconst (v := (-1)) dX12_span_8 (by decide) ?_
    cases h
    exact bs_iret dX12_span_9 rfl (Nat.zero_le _) (Nat.zero_le _) (kr _ rfl hR)
noncomputable def FX12_stock (m : Nat) (mu : bs_Mm) (p1 : Int32) (p2 : Int32) : Option (Int32 × bs_Mm) :=
  fg_bd (FX12_isSort m mu p1) (fun v2 => 
  if v2 = 0 then (
    some ((nI 0), mu)
  ) else (
    fg_bd (FX12_in m mu p2 (nI 0) (nI 99)) (fun v4 => 
    if v4 = 0 then (
      some ((nI 0), mu)
    ) else (
      fg_gd (fg_in p1 6) (
      fg_wr mu (m + 4) p1.toNatClampNeg (.int p2) (fun mu6 => 
      some ((nI 1), mu6)))
    ))
  ))
set_option maxHeartbeats 4000000 in
theorem wX12_stock {nx : Nat} {sh : bs_Sh} {R : Nat → Nat → Option Nat} {m : Nat} (HM : fg_S (bs_tM m) R m sh) {mu : bs_Mm} (hR : fg_R R mu) {p1 : Int32} {p2 : Int32} {r : Int32 × bs_Mm} (h : FX12_stock m mu p1 p2 = some r) : bs_C mX12_stock (bs_rm 2 0 0) [.ref m, .int p1, .int p2] nx sh mu (fg_po R nx sh (some (.int r.1)) r.2) := by
  refine bs_ct (by decide +kernel) (Nat.le_of_ble_eq_true rfl) ?_
  have kr : ∀ q, r = q → fg_R R q.2 → (fg_po R nx sh (some (.int r.1)) r.2) (some (.int q.1)) nx sh q.2 := fun q e hq => by subst e; exact ⟨rfl, rfl, rfl, rfl, hq⟩
  unfold FX12_stock at h
  refine bs_aload_n dX12_stock_0 rfl ?_
  refine bs_iload_n dX12_stock_1 rfl ?_
  obtain ⟨v2, k1, h⟩ := fg_bdE h
  refine fg_callV dX12_stock_2 qX12_375 (wX12_isSort HM hR k1) rfl (HM.s 0 rfl rfl rfl) rfl (Nat.le_of_ble_eq_true rfl) (fg_cr (by first | decide | omega) (by decide)) (fun hR => ?_)
  refine bs_if_eq (tgt := 18) dX12_stock_5 (by decide) (fun c => ?_) (fun c => ?_)
  · replace h := fg_ip c h
    refine bs_iconst (v := (nI 0)) dX12_stock_18 (by decide) ?_
    cases h
    exact bs_zret dX12_stock_19 rfl (Or.inl rfl) (Nat.zero_le _) (Nat.zero_le _) (kr _ rfl hR)
  · replace h := fg_iN c h
    refine bs_iload_n dX12_stock_8 rfl ?_
    refine bs_iconst (v := (nI 0)) dX12_stock_9 (by decide) ?_
    refine bs_bipush (v := (nI 99)) dX12_stock_10 (by decide) ?_
    obtain ⟨v4, k3, h⟩ := fg_bdE h
    refine fg_callS dX12_stock_12 qX12_121 (wX12_in HM hR k3) rfl rfl (Nat.le_of_ble_eq_true rfl) (fg_cr (by first | decide | omega) (by decide)) (fun hR => ?_)
    refine bs_if_ne (tgt := 20) dX12_stock_15 (by decide) (fun c => ?_) (fun c => ?_)
    · replace h := fg_iN c h
      refine bs_aload_n dX12_stock_20 rfl ?_
      refine fg_getR (b := (m + 4)) dX12_stock_21 fX12_19 (HM.s 0 rfl rfl rfl) hR (HM.r 0 4 rfl rfl rfl) ?_
      refine bs_iload_n dX12_stock_24 rfl ?_
      refine bs_iload_n dX12_stock_25 rfl ?_
      obtain ⟨g5, h⟩ := fg_gdE h
      refine fg_iast dX12_stock_26 (HM.ss 4 rfl rfl) (fun j => HM.n 4 j rfl rfl rfl) g5 hR h (fun mu6 hR h => ?_)
      refine bs_iconst (v := (nI 1)) dX12_stock_27 (by decide) ?_
      cases h
      exact bs_zret dX12_stock_28 rfl (Or.inr rfl) (Nat.zero_le _) (Nat.zero_le _) (kr _ rfl hR)
    · replace h := fg_ip c h
      refine bs_iconst (v := (nI 0)) dX12_stock_18 (by decide) ?_
      cases h
      exact bs_zret dX12_stock_19 rfl (Or.inl rfl) (Nat.zero_le _) (Nat.zero_le _) (kr _ rfl hR)
noncomputable def FX12_strokes_b18 (m : Nat) (mu : bs_Mm) (l1 : Int32) (s : Int32 × Int32) : Option ((Int32 × Int32) ⊕ (Int32)) :=
  if s.1 = 0 then (
    some (.inr s.2)
  ) else (
    fg_bd (FX12_firstPart m mu l1 s.1) (fun v6 => 
    fg_bd (FX12_odd m mu l1 v6) (fun v8 => 
    some (.inl ((s.1 &&& (v6 ^^^ (-1))), (s.2 + (if (nI 1) < (v8 / (nI 2)) then (v8 / (nI 2)) else (nI 1)))))))
  )
set_option maxHeartbeats 4000000 in
theorem wFX12_strokes_b18 {nx : Nat} {sh : bs_Sh} {R : Nat → Nat → Option Nat} {m : Nat} (HM : fg_S (bs_tM m) R m sh) {mu : bs_Mm} {l1 : Int32} {Ph : bs_Po} {s : Int32 × Int32} {r : (Int32 × Int32) ⊕ (Int32)} (ka : ∀ s, r = .inl s → bs_W Ph mX12_strokes (bs_rm 2 0 0) 18 (bs_mk [(0, .ref m), (1, .int l1), (2, .int s.1), (3, .int s.2)]) [] 0 0 nx sh mu) (ke : ∀ s, r = .inr s → bs_W Ph mX12_strokes (bs_rm 2 0 0) 56 (bs_mk [(0, .ref m), (1, .int l1), (3, .int s)]) [] 0 0 nx sh mu) (hR : fg_R R mu) (h : FX12_strokes_b18 m mu l1 s = some r) : bs_W Ph mX12_strokes (bs_rm 2 0 0) 18 (bs_mk [(0, .ref m), (1, .int l1), (2, .int s.1), (3, .int s.2)]) [] 0 0 nx sh mu := by
  unfold FX12_strokes_b18 at h
  refine bs_iload_n dX12_strokes_18 rfl ?_
  refine bs_if_eq (tgt := 56) dX12_strokes_19 (by decide) (fun c => ?_) (fun c => ?_)
  · replace h := fg_ip c h
    cases h
    refine bs_W.mk [(0, .ref m), (1, .int l1), (3, .int s.2)] (by intro q hq; simp only [List.mem_cons, List.not_mem_nil, or_false] at hq; rcases hq with rfl | rfl | rfl <;> rfl) (ke _ rfl)
  · replace h := fg_iN c h
    refine bs_aload_n dX12_strokes_22 rfl ?_
    refine bs_iload_n dX12_strokes_23 rfl ?_
    refine bs_iload_n dX12_strokes_24 rfl ?_
    obtain ⟨v6, k5, h⟩ := fg_bdE h
    refine fg_callV dX12_strokes_25 qX12_369 (wX12_firstPart HM hR k5) rfl (HM.s 0 rfl rfl rfl) rfl (Nat.le_of_ble_eq_true rfl) (fg_cr (by first | decide | omega) (by decide)) (fun hR => ?_)
    refine bs_istore dX12_strokes_28 rfl (by decide) ?_
    refine bs_iload_n dX12_strokes_30 rfl ?_
    refine bs_iconst (v := (nI 1)) dX12_strokes_31 (by decide) ?_
    refine bs_aload_n dX12_strokes_32 rfl ?_
    refine bs_iload_n dX12_strokes_33 rfl ?_
    refine bs_iload dX12_strokes_34 rfl ?_
    obtain ⟨v8, k7, h⟩ := fg_bdE h
    refine fg_callV dX12_strokes_36 qX12_301 (wX12_odd HM hR k7) rfl (HM.s 0 rfl rfl rfl) rfl (Nat.le_of_ble_eq_true rfl) (fg_cr (by first | decide | omega) (by decide)) (fun hR => ?_)
    refine bs_iconst (v := (nI 2)) dX12_strokes_39 (by decide) ?_
    refine bs_idiv dX12_strokes_40 (by decide) ?_
    refine bs_mmax dX12_strokes_41 xX12_149 (by first | decide | (simp only [bs_rm]; omega)) (by first | exact Nat.le_of_ble_eq_true rfl | (simp only [bs_rm, List.map, List.sum_cons, List.sum_nil, Value.category]; omega)) (Nat.zero_le _) (Nat.zero_le _) ?_
    refine bs_iadd dX12_strokes_44 ?_
    refine bs_istore_n dX12_strokes_45 rfl (by decide) ?_
    refine bs_iload_n dX12_strokes_46 rfl ?_
    refine bs_iload dX12_strokes_47 rfl ?_
    refine bs_iconst (v := (-1)) dX12_strokes_49 (by decide) ?_
    refine bs_ixor dX12_strokes_50 ?_
    refine bs_iand dX12_strokes_51 ?_
    refine bs_istore_n dX12_strokes_52 rfl (by decide) ?_
    refine bs_goto (tgt := 18) dX12_strokes_53 (by decide) ?_
    cases h
    refine bs_W.mk [(0, .ref m), (1, .int l1), (2, .int (s.1 &&& (v6 ^^^ (-1)))), (3, .int (s.2 + (if (nI 1) < (v8 / (nI 2)) then (v8 / (nI 2)) else (nI 1))))] (by intro q hq; simp only [List.mem_cons, List.not_mem_nil, or_false] at hq; rcases hq with rfl | rfl | rfl | rfl <;> rfl) (by have k := ka _ rfl; dsimp only at k; exact k)
theorem wFX12_strokes_l18 {nx : Nat} {sh : bs_Sh} {R : Nat → Nat → Option Nat} {m : Nat} (HM : fg_S (bs_tM m) R m sh) {mu : bs_Mm} {l1 : Int32} {Ph : bs_Po} {t : Int32} : ∀ n (y0 : Int32) (y1 : Int32), fg_lp (FX12_strokes_b18 m mu l1) n (y0, y1) = some t → fg_R R mu → (ke : ∀ s, t = s → bs_W Ph mX12_strokes (bs_rm 2 0 0) 56 (bs_mk [(0, .ref m), (1, .int l1), (3, .int s)]) [] 0 0 nx sh mu) → bs_W Ph mX12_strokes (bs_rm 2 0 0) 18 (bs_mk [(0, .ref m), (1, .int l1), (2, .int y0), (3, .int y1)]) [] 0 0 nx sh mu := by
  intro n
  induction n with
  | zero => intro y0 y1 h; exact absurd h (fun z => fg_lp0 z)
  | succ n ih =>
    intro y0 y1 h hR ke
    obtain ⟨r, hb, h1, h2⟩ := fg_lpE h
    exact wFX12_strokes_b18 (s := (y0, y1)) HM (fun s' e => ih s'.1 s'.2 (h1 s' e) hR ke) (fun s' e => ke s' (h2 _ e).symm) hR hb
noncomputable def FX12_strokes (m : Nat) (mu : bs_Mm) (p1 : Int32) : Option (Int32) :=
  fg_bd (FX12_isFigure m mu p1) (fun v2 => 
  if v2 = 0 then (
    some ((-1))
  ) else (
    fg_bd (FX12_all m mu p1) (fun v4 => 
    fg_bd (fg_lp (FX12_strokes_b18 m mu p1) fg_fu (v4, (nI 0))) (fun t9 => 
      some (t9)
    ))
  ))
set_option maxHeartbeats 4000000 in
theorem wX12_strokes {nx : Nat} {sh : bs_Sh} {R : Nat → Nat → Option Nat} {m : Nat} (HM : fg_S (bs_tM m) R m sh) {mu : bs_Mm} (hR : fg_R R mu) {p1 : Int32} {r : Int32} (h : FX12_strokes m mu p1 = some r) : bs_C mX12_strokes (bs_rm 2 0 0) [.ref m, .int p1] nx sh mu (fg_po R nx sh (some (.int r)) mu) := by
  refine bs_ct (by decide +kernel) (Nat.le_of_ble_eq_true rfl) ?_
  have kr : ∀ q, r = q → fg_R R mu → (fg_po R nx sh (some (.int r)) mu) (some (.int q)) nx sh mu := fun q e hq => by subst e; exact ⟨rfl, rfl, rfl, rfl, hq⟩
  unfold FX12_strokes at h
  refine bs_aload_n dX12_strokes_0 rfl ?_
  refine bs_iload_n dX12_strokes_1 rfl ?_
  obtain ⟨v2, k1, h⟩ := fg_bdE h
  refine fg_callV dX12_strokes_2 qX12_284 (wX12_isFigure HM hR k1) rfl (HM.s 0 rfl rfl rfl) rfl (Nat.le_of_ble_eq_true rfl) (fg_cr (by first | decide | omega) (by decide)) (fun hR => ?_)
  refine bs_if_ne (tgt := 10) dX12_strokes_5 (by decide) (fun c => ?_) (fun c => ?_)
  · replace h := fg_iN c h
    refine bs_aload_n dX12_strokes_10 rfl ?_
    refine bs_iload_n dX12_strokes_11 rfl ?_
    obtain ⟨v4, k3, h⟩ := fg_bdE h
    refine fg_callV dX12_strokes_12 qX12_287 (wX12_all HM hR k3) rfl (HM.s 0 rfl rfl rfl) rfl (Nat.le_of_ble_eq_true rfl) (fg_cr (by first | decide | omega) (by decide)) (fun hR => ?_)
    refine bs_istore_n dX12_strokes_15 rfl (by decide) ?_
    refine bs_iconst (v := (nI 0)) dX12_strokes_16 (by decide) ?_
    refine bs_istore_n dX12_strokes_17 rfl (by decide) ?_
    obtain ⟨t9, k10, h⟩ := fg_bdE h
    refine bs_W.mk [(0, .ref m), (1, .int p1), (2, .int v4), (3, .int (nI 0))] (by intro q hq; simp only [List.mem_cons, List.not_mem_nil, or_false] at hq; rcases hq with rfl | rfl | rfl | rfl <;> rfl) ?_
    refine wFX12_strokes_l18 HM _ _ _ k10 hR ?_
    intro s e
    subst e
    refine bs_iload_n dX12_strokes_56 rfl ?_
    cases h
    exact bs_iret dX12_strokes_57 rfl (Nat.zero_le _) (Nat.zero_le _) (kr _ rfl hR)
  · replace h := fg_ip c h
    refine bs_iconst (v := (-1)) dX12_strokes_8 (by decide) ?_
    cases h
    exact bs_iret dX12_strokes_9 rfl (Nat.zero_le _) (Nat.zero_le _) (kr _ rfl hR)
noncomputable def FX12_thrown (m : Nat) (mu : bs_Mm) : Option (Int32) :=
  some ((bs_iv (mu m 0)))
set_option maxHeartbeats 4000000 in
theorem wX12_thrown {nx : Nat} {sh : bs_Sh} {R : Nat → Nat → Option Nat} {m : Nat} (HM : fg_S (bs_tM m) R m sh) {mu : bs_Mm} (hR : fg_R R mu) {r : Int32} (h : FX12_thrown m mu = some r) : bs_C mX12_thrown (bs_rm 0 0 0) [.ref m] nx sh mu (fg_po R nx sh (some (.int r)) mu) := by
  refine bs_ct (by decide +kernel) (Nat.le_of_ble_eq_true rfl) ?_
  have kr : ∀ q, r = q → fg_R R mu → (fg_po R nx sh (some (.int r)) mu) (some (.int q)) nx sh mu := fun q e hq => by subst e; exact ⟨rfl, rfl, rfl, rfl, hq⟩
  unfold FX12_thrown at h
  refine bs_aload_n dX12_thrown_0 rfl ?_
  refine bs_getI dX12_thrown_1 fX12_118 (HM.s 0 rfl rfl rfl) ?_
  cases h
  exact bs_iret dX12_thrown_4 rfl (Nat.zero_le _) (Nat.zero_le _) (kr _ rfl hR)
noncomputable def FX12_twice_b39 (m : Nat)  (l1 : Int32) (s : Int32 × Int32 × bs_Mm) : Option ((Int32 × Int32 × bs_Mm) ⊕ (Int32 × bs_Mm)) :=
  fg_gd (fg_in l1 13) (
  if (bs_iv (s.2.2 (m + 9) l1.toNatClampNeg)) ≤ s.2.1 then (
    some (.inr (s.1, s.2.2))
  ) else (
    fg_bd (FX12_all m s.2.2 l1) (fun v10 => 
    fg_bd (FX12_endsIn m s.2.2 l1 s.2.1 v10) (fun v12 => 
    if (v12 - v12 / (nI 2) * (nI 2)) = (nI 1) then (
      fg_gd (fg_in s.1 24) (
      fg_wr s.2.2 (m + 27) s.1.toNatClampNeg (.int s.2.1) (fun mu14 => 
      some (.inl ((s.1 + (nI 1)), (s.2.1 + (nI 1)), mu14))))
    ) else (
      some (.inl (s.1, (s.2.1 + (nI 1)), s.2.2))
    )))
  ))
set_option maxHeartbeats 4000000 in
theorem wFX12_twice_b39 {nx : Nat} {sh : bs_Sh} {R : Nat → Nat → Option Nat} {m : Nat} (HM : fg_S (bs_tM m) R m sh) {l1 : Int32} {Ph : bs_Po} {s : Int32 × Int32 × bs_Mm} {r : (Int32 × Int32 × bs_Mm) ⊕ (Int32 × bs_Mm)} (ka : ∀ s, r = .inl s → fg_R R s.2.2 → bs_W Ph mX12_twice (bs_rm 28 0 0) 39 (bs_mk [(0, .ref m), (1, .int l1), (2, .int s.1), (3, .int s.2.1)]) [] 0 0 nx sh s.2.2) (ke : ∀ s, r = .inr s → fg_R R s.2 → bs_W Ph mX12_twice (bs_rm 28 0 0) 82 (bs_mk [(0, .ref m), (1, .int l1), (2, .int s.1)]) [] 0 0 nx sh s.2) (hR : fg_R R s.2.2) (h : FX12_twice_b39 m l1 s = some r) : bs_W Ph mX12_twice (bs_rm 28 0 0) 39 (bs_mk [(0, .ref m), (1, .int l1), (2, .int s.1), (3, .int s.2.1)]) [] 0 0 nx sh s.2.2 := by
  unfold FX12_twice_b39 at h
  refine bs_iload_n dX12_twice_39 rfl ?_
  refine bs_aload_n dX12_twice_40 rfl ?_
  refine fg_getR (b := (m + 9)) dX12_twice_41 fX12_34 (HM.s 0 rfl rfl rfl) hR (HM.r 0 14 rfl rfl rfl) ?_
  refine bs_iload_n dX12_twice_44 rfl ?_
  obtain ⟨g8, h⟩ := fg_gdE h
  refine bs_iald dX12_twice_45 (HM.ss 9 rfl rfl) (fg_in_ix g8) ?_
  refine bs_icmp_ge (tgt := 82) dX12_twice_46 (by decide) (fun c => ?_) (fun c => ?_)
  · replace h := fg_ip c h
    cases h
    refine bs_W.mk [(0, .ref m), (1, .int l1), (2, .int s.1)] (by intro q hq; simp only [List.mem_cons, List.not_mem_nil, or_false] at hq; rcases hq with rfl | rfl | rfl <;> rfl) (ke _ rfl hR)
  · replace h := fg_iN c h
    refine bs_aload_n dX12_twice_49 rfl ?_
    refine bs_iload_n dX12_twice_50 rfl ?_
    refine bs_iload_n dX12_twice_51 rfl ?_
    refine bs_aload_n dX12_twice_52 rfl ?_
    refine bs_iload_n dX12_twice_53 rfl ?_
    obtain ⟨v10, k9, h⟩ := fg_bdE h
    refine fg_callV dX12_twice_54 qX12_287 (wX12_all HM hR k9) rfl (HM.s 0 rfl rfl rfl) rfl (Nat.le_of_ble_eq_true rfl) (fg_cr (by first | decide | omega) (by decide)) (fun hR => ?_)
    obtain ⟨v12, k11, h⟩ := fg_bdE h
    refine fg_callV dX12_twice_57 qX12_290 (wX12_endsIn HM hR k11) rfl (HM.s 0 rfl rfl rfl) rfl (Nat.le_of_ble_eq_true rfl) (fg_cr (by first | decide | omega) (by decide)) (fun hR => ?_)
    refine bs_iconst (v := (nI 2)) dX12_twice_60 (by decide) ?_
    refine bs_irem dX12_twice_61 (by decide) ?_
    refine bs_iconst (v := (nI 1)) dX12_twice_62 (by decide) ?_
    refine bs_icmp_ne (tgt := 76) dX12_twice_63 (by decide) (fun c => ?_) (fun c => ?_)
    · replace h := fg_iN c h
      refine fg_iinc (m := (nI 1)) dX12_twice_76 rfl rfl (by decide) ?_
      refine bs_goto (tgt := 39) dX12_twice_79 (by decide) ?_
      cases h
      refine bs_W.mk [(0, .ref m), (1, .int l1), (2, .int s.1), (3, .int (s.2.1 + (nI 1)))] (by intro q hq; simp only [List.mem_cons, List.not_mem_nil, or_false] at hq; rcases hq with rfl | rfl | rfl | rfl <;> rfl) (by have k := ka _ rfl hR; dsimp only at k; exact k)
    · replace h := fg_ip c h
      refine bs_aload_n dX12_twice_66 rfl ?_
      refine fg_getR (b := (m + 27)) dX12_twice_67 fX12_90 (HM.s 0 rfl rfl rfl) hR (HM.r 0 39 rfl rfl rfl) ?_
      refine bs_iload_n dX12_twice_70 rfl ?_
      refine bs_iload_n dX12_twice_71 rfl ?_
      obtain ⟨g13, h⟩ := fg_gdE h
      refine fg_iast dX12_twice_72 (HM.ss 27 rfl rfl) (fun j => HM.n 27 j rfl rfl rfl) g13 hR h (fun mu14 hR h => ?_)
      refine fg_iinc (m := (nI 1)) dX12_twice_73 rfl rfl (by decide) ?_
      refine fg_iinc (m := (nI 1)) dX12_twice_76 rfl rfl (by decide) ?_
      refine bs_goto (tgt := 39) dX12_twice_79 (by decide) ?_
      cases h
      refine bs_W.mk [(0, .ref m), (1, .int l1), (2, .int (s.1 + (nI 1))), (3, .int (s.2.1 + (nI 1)))] (by intro q hq; simp only [List.mem_cons, List.not_mem_nil, or_false] at hq; rcases hq with rfl | rfl | rfl | rfl <;> rfl) (by have k := ka _ rfl hR; dsimp only at k; exact k)
theorem wFX12_twice_l39 {nx : Nat} {sh : bs_Sh} {R : Nat → Nat → Option Nat} {m : Nat} (HM : fg_S (bs_tM m) R m sh) {l1 : Int32} {Ph : bs_Po} {t : Int32 × bs_Mm} : ∀ n (y0 : Int32) (y1 : Int32) (mu1 : bs_Mm), fg_lp (FX12_twice_b39 m l1) n (y0, y1, mu1) = some t → fg_R R mu1 → (ke : ∀ s, t = s → fg_R R s.2 → bs_W Ph mX12_twice (bs_rm 28 0 0) 82 (bs_mk [(0, .ref m), (1, .int l1), (2, .int s.1)]) [] 0 0 nx sh s.2) → bs_W Ph mX12_twice (bs_rm 28 0 0) 39 (bs_mk [(0, .ref m), (1, .int l1), (2, .int y0), (3, .int y1)]) [] 0 0 nx sh mu1 := by
  intro n
  induction n with
  | zero => intro y0 y1 mu1 h; exact absurd h (fun z => fg_lp0 z)
  | succ n ih =>
    intro y0 y1 mu1 h hR ke
    obtain ⟨r, hb, h1, h2⟩ := fg_lpE h
    exact wFX12_twice_b39 (s := (y0, y1, mu1)) HM (fun s' e hR' => ih s'.1 s'.2.1 s'.2.2 (h1 s' e) hR' ke) (fun s' e => ke s' (h2 _ e).symm) hR hb
noncomputable def FX12_twice (m : Nat) (mu : bs_Mm) (p1 : Int32) : Option (Int32 × bs_Mm) :=
  fg_bd (FX12_isFigure m mu p1) (fun v2 => 
  if v2 = 0 then (
    some ((-1), mu)
  ) else (
    fg_gd (fg_in p1 13) (
    if (nI 12) < (bs_iv (mu (m + 8) p1.toNatClampNeg)) then (
      some ((-1), mu)
    ) else (
      fg_bd (FX12_all m mu p1) (fun v5 => 
      fg_bd (FX12_partsOf m mu p1 v5) (fun v7 => 
      if v7 ≤ (nI 1) then (
        fg_bd (fg_lp (FX12_twice_b39 m p1) fg_fu ((nI 0), (nI 0), mu)) (fun t15 => 
          fg_bd (FX12_findFars m t15.2 p1) (fun mu18 => 
          if t15.1 = 0 then (
            some ((nI 0), mu18)
          ) else (
            fg_bd (FX12_pairing m (fg_rQ m 26) mu18 (((nI 1) <<< (t15.1 &&& 31)) - (nI 1)) t15.1 (nI 2)) (fun v20 => 
            some (v20, mu18))
          ))
        )
      ) else (
        some ((-1), mu)
      )))
    ))
  ))
set_option maxHeartbeats 4000000 in
theorem wX12_twice {nx : Nat} {sh : bs_Sh} {R : Nat → Nat → Option Nat} {m : Nat} (HM : fg_S (bs_tM m) R m sh) {mu : bs_Mm} (hR : fg_R R mu) {p1 : Int32} {r : Int32 × bs_Mm} (h : FX12_twice m mu p1 = some r) : bs_C mX12_twice (bs_rm 28 0 0) [.ref m, .int p1] nx sh mu (fg_po R nx sh (some (.int r.1)) r.2) := by
  refine bs_ct (by decide +kernel) (Nat.le_of_ble_eq_true rfl) ?_
  have kr : ∀ q, r = q → fg_R R q.2 → (fg_po R nx sh (some (.int r.1)) r.2) (some (.int q.1)) nx sh q.2 := fun q e hq => by subst e; exact ⟨rfl, rfl, rfl, rfl, hq⟩
  unfold FX12_twice at h
  refine bs_aload_n dX12_twice_0 rfl ?_
  refine bs_iload_n dX12_twice_1 rfl ?_
  obtain ⟨v2, k1, h⟩ := fg_bdE h
  refine fg_callV dX12_twice_2 qX12_284 (wX12_isFigure HM hR k1) rfl (HM.s 0 rfl rfl rfl) rfl (Nat.le_of_ble_eq_true rfl) (fg_cr (by first | decide | omega) (by decide)) (fun hR => ?_)
  refine bs_if_eq (tgt := 33) dX12_twice_5 (by decide) (fun c => ?_) (fun c => ?_)
  · replace h := fg_ip c h
    refine bs_iconst (v := (-1)) dX12_twice_33 (by decide) ?_
    cases h
    exact bs_iret dX12_twice_34 rfl (Nat.zero_le _) (Nat.zero_le _) (kr _ rfl hR)
  · replace h := fg_iN c h
    refine bs_aload_n dX12_twice_8 rfl ?_
    refine fg_getR (b := (m + 8)) dX12_twice_9 fX12_31 (HM.s 0 rfl rfl rfl) hR (HM.r 0 13 rfl rfl rfl) ?_
    refine bs_iload_n dX12_twice_12 rfl ?_
    obtain ⟨g3, h⟩ := fg_gdE h
    refine bs_iald dX12_twice_13 (HM.ss 8 rfl rfl) (fg_in_ix g3) ?_
    refine bs_bipush (v := (nI 12)) dX12_twice_14 (by decide) ?_
    refine bs_icmp_gt (tgt := 33) dX12_twice_16 (by decide) (fun c => ?_) (fun c => ?_)
    · replace h := fg_ip c h
      refine bs_iconst (v := (-1)) dX12_twice_33 (by decide) ?_
      cases h
      exact bs_iret dX12_twice_34 rfl (Nat.zero_le _) (Nat.zero_le _) (kr _ rfl hR)
    · replace h := fg_iN c h
      refine bs_aload_n dX12_twice_19 rfl ?_
      refine bs_iload_n dX12_twice_20 rfl ?_
      refine bs_aload_n dX12_twice_21 rfl ?_
      refine bs_iload_n dX12_twice_22 rfl ?_
      obtain ⟨v5, k4, h⟩ := fg_bdE h
      refine fg_callV dX12_twice_23 qX12_287 (wX12_all HM hR k4) rfl (HM.s 0 rfl rfl rfl) rfl (Nat.le_of_ble_eq_true rfl) (fg_cr (by first | decide | omega) (by decide)) (fun hR => ?_)
      obtain ⟨v7, k6, h⟩ := fg_bdE h
      refine fg_callV dX12_twice_26 qX12_341 (wX12_partsOf HM hR k6) rfl (HM.s 0 rfl rfl rfl) rfl (Nat.le_of_ble_eq_true rfl) (fg_cr (by first | decide | omega) (by decide)) (fun hR => ?_)
      refine bs_iconst (v := (nI 1)) dX12_twice_29 (by decide) ?_
      refine bs_icmp_le (tgt := 35) dX12_twice_30 (by decide) (fun c => ?_) (fun c => ?_)
      · replace h := fg_ip c h
        refine bs_iconst (v := (nI 0)) dX12_twice_35 (by decide) ?_
        refine bs_istore_n dX12_twice_36 rfl (by decide) ?_
        refine bs_iconst (v := (nI 0)) dX12_twice_37 (by decide) ?_
        refine bs_istore_n dX12_twice_38 rfl (by decide) ?_
        obtain ⟨t15, k16, h⟩ := fg_bdE h
        refine bs_W.mk [(0, .ref m), (1, .int p1), (2, .int (nI 0)), (3, .int (nI 0))] (by intro q hq; simp only [List.mem_cons, List.not_mem_nil, or_false] at hq; rcases hq with rfl | rfl | rfl | rfl <;> rfl) ?_
        refine wFX12_twice_l39 HM _ _ _ _ k16 hR ?_
        intro s e hR
        subst e
        refine bs_aload_n dX12_twice_82 rfl ?_
        refine bs_iload_n dX12_twice_83 rfl ?_
        obtain ⟨mu18, k17, h⟩ := fg_bdE h
        refine fg_callVv dX12_twice_84 qX12_366 (wX12_findFars HM hR k17) rfl (HM.s 0 rfl rfl rfl) rfl (Nat.le_of_ble_eq_true rfl) (fg_cr (by first | decide | omega) (by decide)) (fun hR => ?_)
        refine bs_iload_n dX12_twice_87 rfl ?_
        refine bs_if_ne (tgt := 95) dX12_twice_88 (by decide) (fun c => ?_) (fun c => ?_)
        · replace h := fg_iN c h
          refine bs_aload_n dX12_twice_95 rfl ?_
          refine bs_iconst (v := (nI 1)) dX12_twice_96 (by decide) ?_
          refine bs_iload_n dX12_twice_97 rfl ?_
          refine bs_ishl dX12_twice_98 ?_
          refine bs_iconst (v := (nI 1)) dX12_twice_99 (by decide) ?_
          refine bs_isub dX12_twice_100 ?_
          refine bs_iload_n dX12_twice_101 rfl ?_
          refine bs_iconst (v := (nI 2)) dX12_twice_102 (by decide) ?_
          obtain ⟨v20, k19, h⟩ := fg_bdE h
          refine fg_callV dX12_twice_103 qX12_387 (wX12_pairing HM (wfg_rQ HM 26) hR k19) rfl (HM.s 0 rfl rfl rfl) rfl (Nat.le_of_ble_eq_true rfl) (fg_cr (by first | decide | omega) (by decide)) (fun hR => ?_)
          cases h
          exact bs_iret dX12_twice_106 rfl (Nat.zero_le _) (Nat.zero_le _) (kr _ rfl hR)
        · replace h := fg_ip c h
          refine bs_iconst (v := (nI 0)) dX12_twice_91 (by decide) ?_
          refine bs_goto (tgt := 106) dX12_twice_92 (by decide) ?_
          cases h
          exact bs_iret dX12_twice_106 rfl (Nat.zero_le _) (Nat.zero_le _) (kr _ rfl hR)
      · replace h := fg_iN c h
        refine bs_iconst (v := (-1)) dX12_twice_33 (by decide) ?_
        cases h
        exact bs_iret dX12_twice_34 rfl (Nat.zero_le _) (Nat.zero_le _) (kr _ rfl hR)
noncomputable def FX12_weakest_b14 (m : Nat) (mu : bs_Mm) (l1 : Int32) (s : Int32 × Int32) : Option ((Int32 × Int32) ⊕ (Int32)) :=
  fg_gd (fg_in l1 13) (
  if (bs_iv (mu (m + 8) l1.toNatClampNeg)) ≤ s.2 then (
    some (.inr s.1)
  ) else (
    if s.1 = (-1) then (
      some (.inl (s.2, (s.2 + (nI 1))))
    ) else (
      fg_bd (FX12_pop m mu l1 s.2 (nI 1)) (fun v5 => 
      fg_bd (FX12_pop m mu l1 s.1 (nI 1)) (fun v7 => 
      if v5 ≤ v7 then (
        some (.inl (s.1, (s.2 + (nI 1))))
      ) else (
        some (.inl (s.2, (s.2 + (nI 1))))
      )))
    )
  ))
set_option maxHeartbeats 4000000 in
theorem wFX12_weakest_b14 {nx : Nat} {sh : bs_Sh} {R : Nat → Nat → Option Nat} {m : Nat} (HM : fg_S (bs_tM m) R m sh) {mu : bs_Mm} {l1 : Int32} {Ph : bs_Po} {s : Int32 × Int32} {r : (Int32 × Int32) ⊕ (Int32)} (ka : ∀ s, r = .inl s → bs_W Ph mX12_weakest (bs_rm 4 0 0) 14 (bs_mk [(0, .ref m), (1, .int l1), (2, .int s.1), (3, .int s.2)]) [] 0 0 nx sh mu) (ke : ∀ s, r = .inr s → bs_W Ph mX12_weakest (bs_rm 4 0 0) 58 (bs_mk [(0, .ref m), (1, .int l1), (2, .int s)]) [] 0 0 nx sh mu) (hR : fg_R R mu) (h : FX12_weakest_b14 m mu l1 s = some r) : bs_W Ph mX12_weakest (bs_rm 4 0 0) 14 (bs_mk [(0, .ref m), (1, .int l1), (2, .int s.1), (3, .int s.2)]) [] 0 0 nx sh mu := by
  unfold FX12_weakest_b14 at h
  refine bs_iload_n dX12_weakest_14 rfl ?_
  refine bs_aload_n dX12_weakest_15 rfl ?_
  refine fg_getR (b := (m + 8)) dX12_weakest_16 fX12_31 (HM.s 0 rfl rfl rfl) hR (HM.r 0 13 rfl rfl rfl) ?_
  refine bs_iload_n dX12_weakest_19 rfl ?_
  obtain ⟨g3, h⟩ := fg_gdE h
  refine bs_iald dX12_weakest_20 (HM.ss 8 rfl rfl) (fg_in_ix g3) ?_
  refine bs_icmp_ge (tgt := 58) dX12_weakest_21 (by decide) (fun c => ?_) (fun c => ?_)
  · replace h := fg_ip c h
    cases h
    refine bs_W.mk [(0, .ref m), (1, .int l1), (2, .int s.1)] (by intro q hq; simp only [List.mem_cons, List.not_mem_nil, or_false] at hq; rcases hq with rfl | rfl | rfl <;> rfl) (ke _ rfl)
  · replace h := fg_iN c h
    refine bs_iload_n dX12_weakest_24 rfl ?_
    refine bs_iconst (v := (-1)) dX12_weakest_25 (by decide) ?_
    refine bs_icmp_eq (tgt := 46) dX12_weakest_26 (by decide) (fun c => ?_) (fun c => ?_)
    · replace h := fg_ip c h
      refine bs_iload_n dX12_weakest_46 rfl ?_
      refine bs_goto (tgt := 51) dX12_weakest_47 (by decide) ?_
      refine bs_istore_n dX12_weakest_51 rfl (by decide) ?_
      refine fg_iinc (m := (nI 1)) dX12_weakest_52 rfl rfl (by decide) ?_
      refine bs_goto (tgt := 14) dX12_weakest_55 (by decide) ?_
      cases h
      refine bs_W.mk [(0, .ref m), (1, .int l1), (2, .int s.2), (3, .int (s.2 + (nI 1)))] (by intro q hq; simp only [List.mem_cons, List.not_mem_nil, or_false] at hq; rcases hq with rfl | rfl | rfl | rfl <;> rfl) (by have k := ka _ rfl; dsimp only at k; exact k)
    · replace h := fg_iN c h
      refine bs_aload_n dX12_weakest_29 rfl ?_
      refine bs_iload_n dX12_weakest_30 rfl ?_
      refine bs_iload_n dX12_weakest_31 rfl ?_
      refine bs_iconst (v := (nI 1)) dX12_weakest_32 (by decide) ?_
      obtain ⟨v5, k4, h⟩ := fg_bdE h
      refine fg_callV dX12_weakest_33 qX12_344 (wX12_pop HM hR k4) rfl (HM.s 0 rfl rfl rfl) rfl (Nat.le_of_ble_eq_true rfl) (fg_cr (by first | decide | omega) (by decide)) (fun hR => ?_)
      refine bs_aload_n dX12_weakest_36 rfl ?_
      refine bs_iload_n dX12_weakest_37 rfl ?_
      refine bs_iload_n dX12_weakest_38 rfl ?_
      refine bs_iconst (v := (nI 1)) dX12_weakest_39 (by decide) ?_
      obtain ⟨v7, k6, h⟩ := fg_bdE h
      refine fg_callV dX12_weakest_40 qX12_344 (wX12_pop HM hR k6) rfl (HM.s 0 rfl rfl rfl) rfl (Nat.le_of_ble_eq_true rfl) (fg_cr (by first | decide | omega) (by decide)) (fun hR => ?_)
      refine bs_icmp_le (tgt := 50) dX12_weakest_43 (by decide) (fun c => ?_) (fun c => ?_)
      · replace h := fg_ip c h
        refine bs_iload_n dX12_weakest_50 rfl ?_
        refine bs_istore_n dX12_weakest_51 rfl (by decide) ?_
        refine fg_iinc (m := (nI 1)) dX12_weakest_52 rfl rfl (by decide) ?_
        refine bs_goto (tgt := 14) dX12_weakest_55 (by decide) ?_
        cases h
        refine bs_W.mk [(0, .ref m), (1, .int l1), (2, .int s.1), (3, .int (s.2 + (nI 1)))] (by intro q hq; simp only [List.mem_cons, List.not_mem_nil, or_false] at hq; rcases hq with rfl | rfl | rfl | rfl <;> rfl) (by have k := ka _ rfl; dsimp only at k; exact k)
      · replace h := fg_iN c h
        refine bs_iload_n dX12_weakest_46 rfl ?_
        refine bs_goto (tgt := 51) dX12_weakest_47 (by decide) ?_
        refine bs_istore_n dX12_weakest_51 rfl (by decide) ?_
        refine fg_iinc (m := (nI 1)) dX12_weakest_52 rfl rfl (by decide) ?_
        refine bs_goto (tgt := 14) dX12_weakest_55 (by decide) ?_
        cases h
        refine bs_W.mk [(0, .ref m), (1, .int l1), (2, .int s.2), (3, .int (s.2 + (nI 1)))] (by intro q hq; simp only [List.mem_cons, List.not_mem_nil, or_false] at hq; rcases hq with rfl | rfl | rfl | rfl <;> rfl) (by have k := ka _ rfl; dsimp only at k; exact k)
theorem wFX12_weakest_l14 {nx : Nat} {sh : bs_Sh} {R : Nat → Nat → Option Nat} {m : Nat} (HM : fg_S (bs_tM m) R m sh) {mu : bs_Mm} {l1 : Int32} {Ph : bs_Po} {t : Int32} : ∀ n (y0 : Int32) (y1 : Int32), fg_lp (FX12_weakest_b14 m mu l1) n (y0, y1) = some t → fg_R R mu → (ke : ∀ s, t = s → bs_W Ph mX12_weakest (bs_rm 4 0 0) 58 (bs_mk [(0, .ref m), (1, .int l1), (2, .int s)]) [] 0 0 nx sh mu) → bs_W Ph mX12_weakest (bs_rm 4 0 0) 14 (bs_mk [(0, .ref m), (1, .int l1), (2, .int y0), (3, .int y1)]) [] 0 0 nx sh mu := by
  intro n
  induction n with
  | zero => intro y0 y1 h; exact absurd h (fun z => fg_lp0 z)
  | succ n ih =>
    intro y0 y1 h hR ke
    obtain ⟨r, hb, h1, h2⟩ := fg_lpE h
    exact wFX12_weakest_b14 (s := (y0, y1)) HM (fun s' e => ih s'.1 s'.2 (h1 s' e) hR ke) (fun s' e => ke s' (h2 _ e).symm) hR hb
noncomputable def FX12_weakest (m : Nat) (mu : bs_Mm) (p1 : Int32) : Option (Int32) :=
  fg_bd (FX12_isFigure m mu p1) (fun v2 => 
  if v2 = 0 then (
    some ((-1))
  ) else (
    fg_bd (fg_lp (FX12_weakest_b14 m mu p1) fg_fu ((-1), (nI 0))) (fun t8 => 
      some (t8)
    )
  ))
set_option maxHeartbeats 4000000 in
theorem wX12_weakest {nx : Nat} {sh : bs_Sh} {R : Nat → Nat → Option Nat} {m : Nat} (HM : fg_S (bs_tM m) R m sh) {mu : bs_Mm} (hR : fg_R R mu) {p1 : Int32} {r : Int32} (h : FX12_weakest m mu p1 = some r) : bs_C mX12_weakest (bs_rm 4 0 0) [.ref m, .int p1] nx sh mu (fg_po R nx sh (some (.int r)) mu) := by
  refine bs_ct (by decide +kernel) (Nat.le_of_ble_eq_true rfl) ?_
  have kr : ∀ q, r = q → fg_R R mu → (fg_po R nx sh (some (.int r)) mu) (some (.int q)) nx sh mu := fun q e hq => by subst e; exact ⟨rfl, rfl, rfl, rfl, hq⟩
  unfold FX12_weakest at h
  refine bs_aload_n dX12_weakest_0 rfl ?_
  refine bs_iload_n dX12_weakest_1 rfl ?_
  obtain ⟨v2, k1, h⟩ := fg_bdE h
  refine fg_callV dX12_weakest_2 qX12_284 (wX12_isFigure HM hR k1) rfl (HM.s 0 rfl rfl rfl) rfl (Nat.le_of_ble_eq_true rfl) (fg_cr (by first | decide | omega) (by decide)) (fun hR => ?_)
  refine bs_if_ne (tgt := 10) dX12_weakest_5 (by decide) (fun c => ?_) (fun c => ?_)
  · replace h := fg_iN c h
    refine bs_iconst (v := (-1)) dX12_weakest_10 (by decide) ?_
    refine bs_istore_n dX12_weakest_11 rfl (by decide) ?_
    refine bs_iconst (v := (nI 0)) dX12_weakest_12 (by decide) ?_
    refine bs_istore_n dX12_weakest_13 rfl (by decide) ?_
    obtain ⟨t8, k9, h⟩ := fg_bdE h
    refine bs_W.mk [(0, .ref m), (1, .int p1), (2, .int (-1)), (3, .int (nI 0))] (by intro q hq; simp only [List.mem_cons, List.not_mem_nil, or_false] at hq; rcases hq with rfl | rfl | rfl | rfl <;> rfl) ?_
    refine wFX12_weakest_l14 HM _ _ _ k9 hR ?_
    intro s e
    subst e
    refine bs_iload_n dX12_weakest_58 rfl ?_
    cases h
    exact bs_iret dX12_weakest_59 rfl (Nat.zero_le _) (Nat.zero_le _) (kr _ rfl hR)
  · replace h := fg_ip c h
    refine bs_iconst (v := (-1)) dX12_weakest_8 (by decide) ?_
    cases h
    exact bs_iret dX12_weakest_9 rfl (Nat.zero_le _) (Nat.zero_le _) (kr _ rfl hR)
noncomputable def FX12_worth_j20 (m : Nat) (mu : bs_Mm) (l1 : Int32) (l2 : Int32) (l3 : Int32) (l4 : Int32) (l5 : Int32) (l6 : Int32) (t1 : Int32) : Option (Int32 × bs_Mm) :=
  fg_wr mu m 0 (.int t1) (fun mu3 => 
  if (bs_iv (mu3 m 0)) = (nI 1) then (
    some ((nI 0), mu3)
  ) else (
    fg_b2 (FX12_worthOf m mu3 l1 l2 l3 l4 l5 l6) (fun v6 mu5 => 
    some (v6, mu5))
  ))
set_option maxHeartbeats 4000000 in
theorem wFX12_worth_j20 {nx : Nat} {sh : bs_Sh} {R : Nat → Nat → Option Nat} {m : Nat} (HM : fg_S (bs_tM m) R m sh) {mu : bs_Mm} {l1 : Int32} {l2 : Int32} {l3 : Int32} {l4 : Int32} {l5 : Int32} {l6 : Int32} {t1 : Int32} {Ph : bs_Po} {r : Int32 × bs_Mm} (kr : ∀ q, r = q → fg_R R q.2 → Ph (some (.int q.1)) nx sh q.2) (hR : fg_R R mu) (h : FX12_worth_j20 m mu l1 l2 l3 l4 l5 l6 t1 = some r) : bs_W Ph mX12_worth (bs_rm 5 0 0) 20 (bs_mk [(0, .ref m), (1, .int l1), (2, .int l2), (3, .int l3), (4, .int l4), (5, .int l5), (6, .int l6)]) [.int t1, .ref m] 0 0 nx sh mu := by
  unfold FX12_worth_j20 at h
  refine fg_putI dX12_worth_20 pX12_118 (HM.s 0 rfl rfl rfl) (HM.n 0 0 rfl rfl rfl) hR h (fun mu3 hR h => ?_)
  refine bs_aload_n dX12_worth_23 rfl ?_
  refine bs_getI dX12_worth_24 fX12_118 (HM.s 0 rfl rfl rfl) ?_
  refine bs_iconst (v := (nI 1)) dX12_worth_27 (by decide) ?_
  refine bs_icmp_ne (tgt := 35) dX12_worth_28 (by decide) (fun c => ?_) (fun c => ?_)
  · replace h := fg_iN c h
    refine bs_aload_n dX12_worth_35 rfl ?_
    refine bs_iload_n dX12_worth_36 rfl ?_
    refine bs_iload_n dX12_worth_37 rfl ?_
    refine bs_iload_n dX12_worth_38 rfl ?_
    refine bs_iload dX12_worth_39 rfl ?_
    refine bs_iload dX12_worth_41 rfl ?_
    refine bs_iload dX12_worth_43 rfl ?_
    obtain ⟨v6, mu5, k4, h⟩ := fg_b2E h
    refine fg_callV dX12_worth_45 qX12_281 (wX12_worthOf HM hR k4) rfl (HM.s 0 rfl rfl rfl) rfl (Nat.le_of_ble_eq_true rfl) (fg_cr (by first | decide | omega) (by decide)) (fun hR => ?_)
    cases h
    exact bs_iret dX12_worth_48 rfl (Nat.zero_le _) (Nat.zero_le _) (kr _ rfl hR)
  · replace h := fg_ip c h
    refine bs_iconst (v := (nI 0)) dX12_worth_31 (by decide) ?_
    refine bs_goto (tgt := 48) dX12_worth_32 (by decide) ?_
    cases h
    exact bs_iret dX12_worth_48 rfl (Nat.zero_le _) (Nat.zero_le _) (kr _ rfl hR)
noncomputable def FX12_worth (m : Nat) (mu : bs_Mm) (p1 : Int32) (p2 : Int32) (p3 : Int32) (p4 : Int32) (p5 : Int32) (p6 : Int32) : Option (Int32 × bs_Mm) :=
  fg_bd (FX12_in m mu p1 (nI 0) ((bs_iv (mu m 31)) - (nI 1))) (fun v2 => 
  if v2 = 0 then (
    FX12_worth_j20 m mu p1 p2 p3 p4 p5 p6 (nI 1)
  ) else (
    FX12_worth_j20 m mu p1 p2 p3 p4 p5 p6 (nI 0)
  ))
set_option maxHeartbeats 4000000 in
theorem wX12_worth {nx : Nat} {sh : bs_Sh} {R : Nat → Nat → Option Nat} {m : Nat} (HM : fg_S (bs_tM m) R m sh) {mu : bs_Mm} (hR : fg_R R mu) {p1 : Int32} {p2 : Int32} {p3 : Int32} {p4 : Int32} {p5 : Int32} {p6 : Int32} {r : Int32 × bs_Mm} (h : FX12_worth m mu p1 p2 p3 p4 p5 p6 = some r) : bs_C mX12_worth (bs_rm 5 0 0) [.ref m, .int p1, .int p2, .int p3, .int p4, .int p5, .int p6] nx sh mu (fg_po R nx sh (some (.int r.1)) r.2) := by
  refine bs_ct (by decide +kernel) (Nat.le_of_ble_eq_true rfl) ?_
  have kr : ∀ q, r = q → fg_R R q.2 → (fg_po R nx sh (some (.int r.1)) r.2) (some (.int q.1)) nx sh q.2 := fun q e hq => by subst e; exact ⟨rfl, rfl, rfl, rfl, hq⟩
  unfold FX12_worth at h
  refine bs_aload_n dX12_worth_0 rfl ?_
  refine bs_iload_n dX12_worth_1 rfl ?_
  refine bs_iconst (v := (nI 0)) dX12_worth_2 (by decide) ?_
  refine bs_aload_n dX12_worth_3 rfl ?_
  refine bs_getI dX12_worth_4 fX12_255 (HM.s 0 rfl rfl rfl) ?_
  refine bs_iconst (v := (nI 1)) dX12_worth_7 (by decide) ?_
  refine bs_isub dX12_worth_8 ?_
  obtain ⟨v2, k1, h⟩ := fg_bdE h
  refine fg_callS dX12_worth_9 qX12_121 (wX12_in HM hR k1) rfl rfl (Nat.le_of_ble_eq_true rfl) (fg_cr (by first | decide | omega) (by decide)) (fun hR => ?_)
  refine bs_if_eq (tgt := 19) dX12_worth_12 (by decide) (fun c => ?_) (fun c => ?_)
  · replace h := fg_ip c h
    refine bs_iconst (v := (nI 1)) dX12_worth_19 (by decide) ?_
    refine bs_W.mk [(0, .ref m), (1, .int p1), (2, .int p2), (3, .int p3), (4, .int p4), (5, .int p5), (6, .int p6)] (by intro q hq; simp only [List.mem_cons, List.not_mem_nil, or_false] at hq; rcases hq with rfl | rfl | rfl | rfl | rfl | rfl | rfl <;> rfl) ?_
    exact wFX12_worth_j20 HM kr hR h
  · replace h := fg_iN c h
    refine bs_iconst (v := (nI 0)) dX12_worth_15 (by decide) ?_
    refine bs_goto (tgt := 20) dX12_worth_16 (by decide) ?_
    refine bs_W.mk [(0, .ref m), (1, .int p1), (2, .int p2), (3, .int p3), (4, .int p4), (5, .int p5), (6, .int p6)] (by intro q hq; simp only [List.mem_cons, List.not_mem_nil, or_false] at hq; rcases hq with rfl | rfl | rfl | rfl | rfl | rfl | rfl <;> rfl) ?_
    exact wFX12_worth_j20 HM kr hR h
