noncomputable def FX11_add (x : Nat) (mu : bs_Mm) (p1 : Int32) (p2 : Int32) (p3 : Int32) (p4 : Int32) : Option (Int32 × bs_Mm) :=
  fg_bd (FX11_figureAt x mu p1) (fun v2 => 
  fg_oq v2 (
    fg_bd (FX11_figureAt x mu p2) (fun v6 => 
    fg_oq v6 (
      fg_bd (FX11_freeFigure x mu) (fun v10 => 
      fg_oq v10 (
        some ((-1), mu)
      ) (fun b11 => fg_gd (fg_isF x b11) (
        some ((-1), mu)
      )))
    ) (fun b7 => fg_gd (fg_isF x b7) (
      fg_bd (FX11_freeFigure x mu) (fun v14 => 
      fg_oq v14 (
        some ((-1), mu)
      ) (fun b15 => fg_gd (fg_isF x b15) (
        some ((-1), mu)
      )))
    )))
  ) (fun b3 => fg_gd (fg_isF x b3) (
    fg_bd (FX11_figureAt x mu p2) (fun v18 => 
    fg_oq v18 (
      fg_bd (FX11_freeFigure x mu) (fun v22 => 
      fg_oq v22 (
        some ((-1), mu)
      ) (fun b23 => fg_gd (fg_isF x b23) (
        some ((-1), mu)
      )))
    ) (fun b19 => fg_gd (fg_isF x b19) (
      fg_bd (FX11_freeFigure x mu) (fun v26 => 
      fg_oq v26 (
        some ((-1), mu)
      ) (fun b27 => fg_gd (fg_isF x b27) (
        fg_bd (FX1_hasPoint x b3 mu p3) (fun v30 => 
        if v30 = 0 then (
          some ((-1), mu)
        ) else (
          fg_bd (FX1_hasPoint x b19 mu p4) (fun v32 => 
          if v32 = 0 then (
            some ((-1), mu)
          ) else (
            if (nI 24) < ((bs_iv (mu b3 7)) + (bs_iv (mu b19 7))) then (
              some ((-1), mu)
            ) else (
              if ((bs_iv (mu b3 6)) + (bs_iv (mu b19 6))) ≤ (nI 6) then (
                fg_bd (FX1_joinTwo x b27 mu b3 b19 p3 p4) (fun mu34 => 
                fg_wr mu34 x 13 (.int ((bs_iv (mu34 x 13)) + (nI 1))) (fun mu35 => 
                some ((bs_iv (mu34 x 13)), mu35)))
              ) else (
                some ((-1), mu)
              )
            )
          ))
        ))
      )))
    )))
  )))
set_option maxHeartbeats 4000000 in
theorem wX11_add {nx : Nat} {sh : bs_Sh} {R : Nat → Nat → Option Nat} {x : Nat} (HX : fg_S (bs_tS x) R x sh) {mu : bs_Mm} (hR : fg_R R mu) {p1 : Int32} {p2 : Int32} {p3 : Int32} {p4 : Int32} {r : Int32 × bs_Mm} (h : FX11_add x mu p1 p2 p3 p4 = some r) : bs_C mX11_add (bs_rm 3 0 0) [.ref x, .int p1, .int p2, .int p3, .int p4] nx sh mu (fg_po R nx sh (some (.int r.1)) r.2) := by
  refine bs_ct (by decide +kernel) (Nat.le_of_ble_eq_true rfl) ?_
  have kr : ∀ q, r = q → fg_R R q.2 → (fg_po R nx sh (some (.int r.1)) r.2) (some (.int q.1)) nx sh q.2 := fun q e hq => by subst e; exact ⟨rfl, rfl, rfl, rfl, hq⟩
  unfold FX11_add at h
  refine bs_aload_n dX11_add_0 rfl ?_
  refine bs_iload_n dX11_add_1 rfl ?_
  obtain ⟨v2, k1, h⟩ := fg_bdE h
  refine fg_callV dX11_add_2 qX11_143 (wX11_figureAt HX hR k1) rfl (HX.s 0 rfl rfl rfl) rfl (Nat.le_of_ble_eq_true rfl) (fg_cr (by first | decide | omega) (by decide)) (fun hR => ?_)
  cases v2 with
  | none =>
    replace h := fg_oq0 h
    refine bs_astoreN dX11_add_5 rfl (by decide) ?_
    refine bs_aload_n dX11_add_7 rfl ?_
    refine bs_iload_n dX11_add_8 rfl ?_
    obtain ⟨v6, k5, h⟩ := fg_bdE h
    refine fg_callV dX11_add_9 qX11_143 (wX11_figureAt HX hR k5) rfl (HX.s 0 rfl rfl rfl) rfl (Nat.le_of_ble_eq_true rfl) (fg_cr (by first | decide | omega) (by decide)) (fun hR => ?_)
    cases v6 with
    | none =>
      replace h := fg_oq0 h
      refine bs_astoreN dX11_add_12 rfl (by decide) ?_
      refine bs_aload_n dX11_add_14 rfl ?_
      obtain ⟨v10, k9, h⟩ := fg_bdE h
      refine fg_callV dX11_add_15 qX11_119 (wX11_freeFigure HX hR k9) rfl (HX.s 0 rfl rfl rfl) rfl (Nat.le_of_ble_eq_true rfl) (fg_cr (by first | decide | omega) (by decide)) (fun hR => ?_)
      cases v10 with
      | none =>
        replace h := fg_oq0 h
        refine bs_astoreN dX11_add_18 rfl (by decide) ?_
        refine bs_aloadN dX11_add_20 rfl ?_
        refine bs_ifnullN (tgt := 54) dX11_add_22 (by decide) ?_
        refine bs_iconst (v := (-1)) dX11_add_54 (by decide) ?_
        cases h
        exact bs_iret dX11_add_55 rfl (Nat.zero_le _) (Nat.zero_le _) (kr _ rfl hR)
      | some b11 =>
        replace h := fg_oq1 h
        obtain ⟨g12, h⟩ := fg_gdE h
        have h_b11 := fg_isF_F HX g12
        refine bs_astore dX11_add_18 rfl (by decide) ?_
        refine bs_aloadN dX11_add_20 rfl ?_
        refine bs_ifnullN (tgt := 54) dX11_add_22 (by decide) ?_
        refine bs_iconst (v := (-1)) dX11_add_54 (by decide) ?_
        cases h
        exact bs_iret dX11_add_55 rfl (Nat.zero_le _) (Nat.zero_le _) (kr _ rfl hR)
    | some b7 =>
      replace h := fg_oq1 h
      obtain ⟨g8, h⟩ := fg_gdE h
      have h_b7 := fg_isF_F HX g8
      refine bs_astore dX11_add_12 rfl (by decide) ?_
      refine bs_aload_n dX11_add_14 rfl ?_
      obtain ⟨v14, k13, h⟩ := fg_bdE h
      refine fg_callV dX11_add_15 qX11_119 (wX11_freeFigure HX hR k13) rfl (HX.s 0 rfl rfl rfl) rfl (Nat.le_of_ble_eq_true rfl) (fg_cr (by first | decide | omega) (by decide)) (fun hR => ?_)
      cases v14 with
      | none =>
        replace h := fg_oq0 h
        refine bs_astoreN dX11_add_18 rfl (by decide) ?_
        refine bs_aloadN dX11_add_20 rfl ?_
        refine bs_ifnullN (tgt := 54) dX11_add_22 (by decide) ?_
        refine bs_iconst (v := (-1)) dX11_add_54 (by decide) ?_
        cases h
        exact bs_iret dX11_add_55 rfl (Nat.zero_le _) (Nat.zero_le _) (kr _ rfl hR)
      | some b15 =>
        replace h := fg_oq1 h
        obtain ⟨g16, h⟩ := fg_gdE h
        have h_b15 := fg_isF_F HX g16
        refine bs_astore dX11_add_18 rfl (by decide) ?_
        refine bs_aloadN dX11_add_20 rfl ?_
        refine bs_ifnullN (tgt := 54) dX11_add_22 (by decide) ?_
        refine bs_iconst (v := (-1)) dX11_add_54 (by decide) ?_
        cases h
        exact bs_iret dX11_add_55 rfl (Nat.zero_le _) (Nat.zero_le _) (kr _ rfl hR)
  | some b3 =>
    replace h := fg_oq1 h
    obtain ⟨g4, h⟩ := fg_gdE h
    have h_b3 := fg_isF_F HX g4
    refine bs_astore dX11_add_5 rfl (by decide) ?_
    refine bs_aload_n dX11_add_7 rfl ?_
    refine bs_iload_n dX11_add_8 rfl ?_
    obtain ⟨v18, k17, h⟩ := fg_bdE h
    refine fg_callV dX11_add_9 qX11_143 (wX11_figureAt HX hR k17) rfl (HX.s 0 rfl rfl rfl) rfl (Nat.le_of_ble_eq_true rfl) (fg_cr (by first | decide | omega) (by decide)) (fun hR => ?_)
    cases v18 with
    | none =>
      replace h := fg_oq0 h
      refine bs_astoreN dX11_add_12 rfl (by decide) ?_
      refine bs_aload_n dX11_add_14 rfl ?_
      obtain ⟨v22, k21, h⟩ := fg_bdE h
      refine fg_callV dX11_add_15 qX11_119 (wX11_freeFigure HX hR k21) rfl (HX.s 0 rfl rfl rfl) rfl (Nat.le_of_ble_eq_true rfl) (fg_cr (by first | decide | omega) (by decide)) (fun hR => ?_)
      cases v22 with
      | none =>
        replace h := fg_oq0 h
        refine bs_astoreN dX11_add_18 rfl (by decide) ?_
        refine bs_aload dX11_add_20 rfl ?_
        refine bs_ifnull dX11_add_22 ?_
        refine bs_aloadN dX11_add_25 rfl ?_
        refine bs_ifnullN (tgt := 54) dX11_add_27 (by decide) ?_
        refine bs_iconst (v := (-1)) dX11_add_54 (by decide) ?_
        cases h
        exact bs_iret dX11_add_55 rfl (Nat.zero_le _) (Nat.zero_le _) (kr _ rfl hR)
      | some b23 =>
        replace h := fg_oq1 h
        obtain ⟨g24, h⟩ := fg_gdE h
        have h_b23 := fg_isF_F HX g24
        refine bs_astore dX11_add_18 rfl (by decide) ?_
        refine bs_aload dX11_add_20 rfl ?_
        refine bs_ifnull dX11_add_22 ?_
        refine bs_aloadN dX11_add_25 rfl ?_
        refine bs_ifnullN (tgt := 54) dX11_add_27 (by decide) ?_
        refine bs_iconst (v := (-1)) dX11_add_54 (by decide) ?_
        cases h
        exact bs_iret dX11_add_55 rfl (Nat.zero_le _) (Nat.zero_le _) (kr _ rfl hR)
    | some b19 =>
      replace h := fg_oq1 h
      obtain ⟨g20, h⟩ := fg_gdE h
      have h_b19 := fg_isF_F HX g20
      refine bs_astore dX11_add_12 rfl (by decide) ?_
      refine bs_aload_n dX11_add_14 rfl ?_
      obtain ⟨v26, k25, h⟩ := fg_bdE h
      refine fg_callV dX11_add_15 qX11_119 (wX11_freeFigure HX hR k25) rfl (HX.s 0 rfl rfl rfl) rfl (Nat.le_of_ble_eq_true rfl) (fg_cr (by first | decide | omega) (by decide)) (fun hR => ?_)
      cases v26 with
      | none =>
        replace h := fg_oq0 h
        refine bs_astoreN dX11_add_18 rfl (by decide) ?_
        refine bs_aload dX11_add_20 rfl ?_
        refine bs_ifnull dX11_add_22 ?_
        refine bs_aload dX11_add_25 rfl ?_
        refine bs_ifnull dX11_add_27 ?_
        refine bs_aloadN dX11_add_30 rfl ?_
        refine bs_ifnullN (tgt := 54) dX11_add_32 (by decide) ?_
        refine bs_iconst (v := (-1)) dX11_add_54 (by decide) ?_
        cases h
        exact bs_iret dX11_add_55 rfl (Nat.zero_le _) (Nat.zero_le _) (kr _ rfl hR)
      | some b27 =>
        replace h := fg_oq1 h
        obtain ⟨g28, h⟩ := fg_gdE h
        have h_b27 := fg_isF_F HX g28
        refine bs_astore dX11_add_18 rfl (by decide) ?_
        refine bs_aload dX11_add_20 rfl ?_
        refine bs_ifnull dX11_add_22 ?_
        refine bs_aload dX11_add_25 rfl ?_
        refine bs_ifnull dX11_add_27 ?_
        refine bs_aload dX11_add_30 rfl ?_
        refine bs_ifnull dX11_add_32 ?_
        refine bs_aload dX11_add_35 rfl ?_
        refine bs_iload_n dX11_add_37 rfl ?_
        obtain ⟨v30, k29, h⟩ := fg_bdE h
        refine fg_callV dX11_add_38 qX11_198 (wX1_hasPoint HX h_b3 hR k29) rfl (h_b3.s0) rfl (Nat.le_of_ble_eq_true rfl) (fg_cr (by first | decide | omega) (by decide)) (fun hR => ?_)
        refine bs_if_eq (tgt := 54) dX11_add_41 (by decide) (fun c => ?_) (fun c => ?_)
        · replace h := fg_ip c h
          refine bs_iconst (v := (-1)) dX11_add_54 (by decide) ?_
          cases h
          exact bs_iret dX11_add_55 rfl (Nat.zero_le _) (Nat.zero_le _) (kr _ rfl hR)
        · replace h := fg_iN c h
          refine bs_aload dX11_add_44 rfl ?_
          refine bs_iload dX11_add_46 rfl ?_
          obtain ⟨v32, k31, h⟩ := fg_bdE h
          refine fg_callV dX11_add_48 qX11_198 (wX1_hasPoint HX h_b19 hR k31) rfl (h_b19.s0) rfl (Nat.le_of_ble_eq_true rfl) (fg_cr (by first | decide | omega) (by decide)) (fun hR => ?_)
          refine bs_if_ne (tgt := 56) dX11_add_51 (by decide) (fun c => ?_) (fun c => ?_)
          · replace h := fg_iN c h
            refine bs_aload dX11_add_56 rfl ?_
            refine bs_getI dX11_add_58 fX11_150 (h_b3.s0) ?_
            refine bs_aload dX11_add_61 rfl ?_
            refine bs_getI dX11_add_63 fX11_150 (h_b19.s0) ?_
            refine bs_iadd dX11_add_66 ?_
            refine bs_bipush (v := (nI 24)) dX11_add_67 (by decide) ?_
            refine bs_icmp_gt (tgt := 88) dX11_add_69 (by decide) (fun c => ?_) (fun c => ?_)
            · replace h := fg_ip c h
              refine bs_iconst (v := (-1)) dX11_add_88 (by decide) ?_
              cases h
              exact bs_iret dX11_add_89 rfl (Nat.zero_le _) (Nat.zero_le _) (kr _ rfl hR)
            · replace h := fg_iN c h
              refine bs_aload dX11_add_72 rfl ?_
              refine bs_getI dX11_add_74 fX11_147 (h_b3.s0) ?_
              refine bs_aload dX11_add_77 rfl ?_
              refine bs_getI dX11_add_79 fX11_147 (h_b19.s0) ?_
              refine bs_iadd dX11_add_82 ?_
              refine bs_bipush (v := (nI 6)) dX11_add_83 (by decide) ?_
              refine bs_icmp_le (tgt := 90) dX11_add_85 (by decide) (fun c => ?_) (fun c => ?_)
              · replace h := fg_ip c h
                refine bs_aload dX11_add_90 rfl ?_
                refine bs_aload dX11_add_92 rfl ?_
                refine bs_aload dX11_add_94 rfl ?_
                refine bs_iload_n dX11_add_96 rfl ?_
                refine bs_iload dX11_add_97 rfl ?_
                obtain ⟨mu34, k33, h⟩ := fg_bdE h
                refine fg_callVv dX11_add_99 qX11_249 (wX1_joinTwo HX h_b27 h_b3 h_b19 hR k33) rfl (h_b27.s0) rfl (Nat.le_of_ble_eq_true rfl) (fg_cr (by first | decide | omega) (by decide)) (fun hR => ?_)
                refine bs_aload_n dX11_add_102 rfl ?_
                refine bs_dup dX11_add_103 rfl ?_
                refine bs_getI dX11_add_104 fX11_131 (HX.s 0 rfl rfl rfl) ?_
                refine bs_dup_x1 dX11_add_107 rfl rfl ?_
                refine bs_iconst (v := (nI 1)) dX11_add_108 (by decide) ?_
                refine bs_iadd dX11_add_109 ?_
                refine fg_putI dX11_add_110 pX11_131 (HX.s 0 rfl rfl rfl) (HX.n 0 13 rfl rfl rfl) hR h (fun mu35 hR h => ?_)
                cases h
                exact bs_iret dX11_add_113 rfl (Nat.zero_le _) (Nat.zero_le _) (kr _ rfl hR)
              · replace h := fg_iN c h
                refine bs_iconst (v := (-1)) dX11_add_88 (by decide) ?_
                cases h
                exact bs_iret dX11_add_89 rfl (Nat.zero_le _) (Nat.zero_le _) (kr _ rfl hR)
          · replace h := fg_ip c h
            refine bs_iconst (v := (-1)) dX11_add_54 (by decide) ?_
            cases h
            exact bs_iret dX11_add_55 rfl (Nat.zero_le _) (Nat.zero_le _) (kr _ rfl hR)
noncomputable def FX11_ruleAt (x : Nat) (mu : bs_Mm) (p1 : Int32) : Option (Option Nat) :=
  if p1 < 0 then (
    some (none)
  ) else (
    if p1 < (bs_iv (mu x 14)) then (
      fg_gd (fg_in p1 6) (
      fg_let (x + 147 + 2 * p1.toNatClampNeg) (fun b2 => 
      some (some b2)))
    ) else (
      some (none)
    )
  )
set_option maxHeartbeats 4000000 in
theorem wX11_ruleAt {nx : Nat} {sh : bs_Sh} {R : Nat → Nat → Option Nat} {x : Nat} (HX : fg_S (bs_tS x) R x sh) {mu : bs_Mm} (hR : fg_R R mu) {p1 : Int32} {r : Option Nat} (h : FX11_ruleAt x mu p1 = some r) : bs_C mX11_ruleAt (bs_rm 0 0 0) [.ref x, .int p1] nx sh mu (fg_po R nx sh (some (va_rf r)) mu) := by
  refine bs_ct (by decide +kernel) (Nat.le_of_ble_eq_true rfl) ?_
  have kr : ∀ q, r = q → fg_R R mu → (fg_po R nx sh (some (va_rf r)) mu) (some (va_rf q)) nx sh mu := fun q e hq => by subst e; exact ⟨rfl, rfl, rfl, rfl, hq⟩
  unfold FX11_ruleAt at h
  refine bs_iload_n dX11_ruleAt_0 rfl ?_
  refine bs_if_lt (tgt := 12) dX11_ruleAt_1 (by decide) (fun c => ?_) (fun c => ?_)
  · replace h := fg_ip c h
    refine bs_null dX11_ruleAt_12 ?_
    refine bs_goto (tgt := 22) dX11_ruleAt_13 (by decide) ?_
    cases h
    exact bs_aret dX11_ruleAt_22 rfl (Or.inl ⟨_, rfl⟩) (Or.inl rfl) (Nat.zero_le _) (Nat.zero_le _) (kr _ rfl hR)
  · replace h := fg_iN c h
    refine bs_iload_n dX11_ruleAt_4 rfl ?_
    refine bs_aload_n dX11_ruleAt_5 rfl ?_
    refine bs_getI dX11_ruleAt_6 fX11_134 (HX.s 0 rfl rfl rfl) ?_
    refine bs_icmp_lt (tgt := 16) dX11_ruleAt_9 (by decide) (fun c => ?_) (fun c => ?_)
    · replace h := fg_ip c h
      refine bs_aload_n dX11_ruleAt_16 rfl ?_
      refine fg_getR (b := (x + 8)) dX11_ruleAt_17 fX11_31 (HX.s 0 rfl rfl rfl) hR (HX.r 0 3 rfl rfl rfl) ?_
      refine bs_iload_n dX11_ruleAt_20 rfl ?_
      obtain ⟨g1, h⟩ := fg_gdE h
      refine fg_aald dX11_ruleAt_21 (HX.ss 8 rfl rfl) (Or.inr rfl) (fg_in_ix g1) hR (fg_uR HX _ (fg_in_lt g1)) ?_
      have h_b2 := fg_U6 HX _ (fg_in_lt g1)
      generalize x + 147 + 2 * p1.toNatClampNeg = b2 at h h_b2 ⊢
      replace h := fg_letE h
      cases h
      exact bs_aret dX11_ruleAt_22 rfl (Or.inl ⟨_, rfl⟩) (Or.inr ⟨_, rfl⟩) (Nat.zero_le _) (Nat.zero_le _) (kr _ rfl hR)
    · replace h := fg_iN c h
      refine bs_null dX11_ruleAt_12 ?_
      refine bs_goto (tgt := 22) dX11_ruleAt_13 (by decide) ?_
      cases h
      exact bs_aret dX11_ruleAt_22 rfl (Or.inl ⟨_, rfl⟩) (Or.inl rfl) (Nat.zero_le _) (Nat.zero_le _) (kr _ rfl hR)
noncomputable def FX1_hasBubble (x : Nat) (f : Nat) (mu : bs_Mm) (p1 : Int32) : Option (Int32) :=
  if p1 < 0 then (
    some ((nI 0))
  ) else (
    if (bs_iv (mu f 7)) ≤ p1 then (
      some ((nI 0))
    ) else (
      some ((nI 1))
    )
  )
set_option maxHeartbeats 4000000 in
theorem wX1_hasBubble {nx : Nat} {sh : bs_Sh} {R : Nat → Nat → Option Nat} {x : Nat} (HX : fg_S (bs_tS x) R x sh) {f : Nat} (h_f : fg_F R sh f) {mu : bs_Mm} (hR : fg_R R mu) {p1 : Int32} {r : Int32} (h : FX1_hasBubble x f mu p1 = some r) : bs_C mX1_hasBubble (bs_rm 0 0 0) [.ref f, .int p1] nx sh mu (fg_po R nx sh (some (.int r)) mu) := by
  refine bs_ct (by decide +kernel) (Nat.le_of_ble_eq_true rfl) ?_
  have kr : ∀ q, r = q → fg_R R mu → (fg_po R nx sh (some (.int r)) mu) (some (.int q)) nx sh mu := fun q e hq => by subst e; exact ⟨rfl, rfl, rfl, rfl, hq⟩
  unfold FX1_hasBubble at h
  refine bs_iload_n dX1_hasBubble_0 rfl ?_
  refine bs_if_lt (tgt := 16) dX1_hasBubble_1 (by decide) (fun c => ?_) (fun c => ?_)
  · replace h := fg_ip c h
    refine bs_iconst (v := (nI 0)) dX1_hasBubble_16 (by decide) ?_
    cases h
    exact bs_zret dX1_hasBubble_17 rfl (Or.inl rfl) (Nat.zero_le _) (Nat.zero_le _) (kr _ rfl hR)
  · replace h := fg_iN c h
    refine bs_iload_n dX1_hasBubble_4 rfl ?_
    refine bs_aload_n dX1_hasBubble_5 rfl ?_
    refine bs_getI dX1_hasBubble_6 fX1_40 (h_f.s0) ?_
    refine bs_icmp_ge (tgt := 16) dX1_hasBubble_9 (by decide) (fun c => ?_) (fun c => ?_)
    · replace h := fg_ip c h
      refine bs_iconst (v := (nI 0)) dX1_hasBubble_16 (by decide) ?_
      cases h
      exact bs_zret dX1_hasBubble_17 rfl (Or.inl rfl) (Nat.zero_le _) (Nat.zero_le _) (kr _ rfl hR)
    · replace h := fg_iN c h
      refine bs_iconst (v := (nI 1)) dX1_hasBubble_12 (by decide) ?_
      refine bs_goto (tgt := 17) dX1_hasBubble_13 (by decide) ?_
      cases h
      exact bs_zret dX1_hasBubble_17 rfl (Or.inr rfl) (Nat.zero_le _) (Nat.zero_le _) (kr _ rfl hR)
noncomputable def FX11_aged (x : Nat) (mu : bs_Mm) (p1 : Int32) (p2 : Int32) (p3 : Int32) (p4 : Int32) : Option (Int32 × bs_Mm) :=
  fg_bd (FX11_figureAt x mu p1) (fun v2 => 
  fg_oq v2 (
    fg_bd (FX11_ruleAt x mu p2) (fun v6 => 
    fg_oq v6 (
      some ((-1), mu)
    ) (fun b7 => fg_gd (fg_isU x b7) (
      some ((-1), mu)
    )))
  ) (fun b3 => fg_gd (fg_isF x b3) (
    fg_bd (FX11_ruleAt x mu p2) (fun v10 => 
    fg_oq v10 (
      some ((-1), mu)
    ) (fun b11 => fg_gd (fg_isU x b11) (
      fg_bd (FX1_hasBubble x b3 mu p4) (fun v14 => 
      if v14 = 0 then (
        some ((-1), mu)
      ) else (
        if p3 < 0 then (
          some ((-1), mu)
        ) else (
          if p3 ≤ (nI 60) then (
            fg_bd (FX0_turnTo x mu b3 b11) (fun mu16 => 
            fg_bd (FX0_reach x mu16 p3 b3 b11) (fun mu18 => 
            fg_bd (FX0_lengthAt x mu18 p3 p4) (fun v20 => 
            some (v20, mu18))))
          ) else (
            some ((-1), mu)
          )
        )
      ))
    )))
  )))
set_option maxHeartbeats 4000000 in
theorem wX11_aged {nx : Nat} {sh : bs_Sh} {R : Nat → Nat → Option Nat} {x : Nat} (HX : fg_S (bs_tS x) R x sh) {mu : bs_Mm} (hR : fg_R R mu) {p1 : Int32} {p2 : Int32} {p3 : Int32} {p4 : Int32} {r : Int32 × bs_Mm} (h : FX11_aged x mu p1 p2 p3 p4 = some r) : bs_C mX11_aged (bs_rm 7 0 0) [.ref x, .int p1, .int p2, .int p3, .int p4] nx sh mu (fg_po R nx sh (some (.int r.1)) r.2) := by
  refine bs_ct (by decide +kernel) (Nat.le_of_ble_eq_true rfl) ?_
  have kr : ∀ q, r = q → fg_R R q.2 → (fg_po R nx sh (some (.int r.1)) r.2) (some (.int q.1)) nx sh q.2 := fun q e hq => by subst e; exact ⟨rfl, rfl, rfl, rfl, hq⟩
  unfold FX11_aged at h
  refine bs_aload_n dX11_aged_0 rfl ?_
  refine bs_iload_n dX11_aged_1 rfl ?_
  obtain ⟨v2, k1, h⟩ := fg_bdE h
  refine fg_callV dX11_aged_2 qX11_143 (wX11_figureAt HX hR k1) rfl (HX.s 0 rfl rfl rfl) rfl (Nat.le_of_ble_eq_true rfl) (fg_cr (by first | decide | omega) (by decide)) (fun hR => ?_)
  cases v2 with
  | none =>
    replace h := fg_oq0 h
    refine bs_astoreN dX11_aged_5 rfl (by decide) ?_
    refine bs_aload_n dX11_aged_7 rfl ?_
    refine bs_iload_n dX11_aged_8 rfl ?_
    obtain ⟨v6, k5, h⟩ := fg_bdE h
    refine fg_callV dX11_aged_9 qX11_331 (wX11_ruleAt HX hR k5) rfl (HX.s 0 rfl rfl rfl) rfl (Nat.le_of_ble_eq_true rfl) (fg_cr (by first | decide | omega) (by decide)) (fun hR => ?_)
    cases v6 with
    | none =>
      replace h := fg_oq0 h
      refine bs_astoreN dX11_aged_12 rfl (by decide) ?_
      refine bs_aloadN dX11_aged_14 rfl ?_
      refine bs_ifnullN (tgt := 44) dX11_aged_16 (by decide) ?_
      refine bs_iconst (v := (-1)) dX11_aged_44 (by decide) ?_
      cases h
      exact bs_iret dX11_aged_45 rfl (Nat.zero_le _) (Nat.zero_le _) (kr _ rfl hR)
    | some b7 =>
      replace h := fg_oq1 h
      obtain ⟨g8, h⟩ := fg_gdE h
      have h_b7 := fg_isU_U HX g8
      refine bs_astore dX11_aged_12 rfl (by decide) ?_
      refine bs_aloadN dX11_aged_14 rfl ?_
      refine bs_ifnullN (tgt := 44) dX11_aged_16 (by decide) ?_
      refine bs_iconst (v := (-1)) dX11_aged_44 (by decide) ?_
      cases h
      exact bs_iret dX11_aged_45 rfl (Nat.zero_le _) (Nat.zero_le _) (kr _ rfl hR)
  | some b3 =>
    replace h := fg_oq1 h
    obtain ⟨g4, h⟩ := fg_gdE h
    have h_b3 := fg_isF_F HX g4
    refine bs_astore dX11_aged_5 rfl (by decide) ?_
    refine bs_aload_n dX11_aged_7 rfl ?_
    refine bs_iload_n dX11_aged_8 rfl ?_
    obtain ⟨v10, k9, h⟩ := fg_bdE h
    refine fg_callV dX11_aged_9 qX11_331 (wX11_ruleAt HX hR k9) rfl (HX.s 0 rfl rfl rfl) rfl (Nat.le_of_ble_eq_true rfl) (fg_cr (by first | decide | omega) (by decide)) (fun hR => ?_)
    cases v10 with
    | none =>
      replace h := fg_oq0 h
      refine bs_astoreN dX11_aged_12 rfl (by decide) ?_
      refine bs_aload dX11_aged_14 rfl ?_
      refine bs_ifnull dX11_aged_16 ?_
      refine bs_aloadN dX11_aged_19 rfl ?_
      refine bs_ifnullN (tgt := 44) dX11_aged_21 (by decide) ?_
      refine bs_iconst (v := (-1)) dX11_aged_44 (by decide) ?_
      cases h
      exact bs_iret dX11_aged_45 rfl (Nat.zero_le _) (Nat.zero_le _) (kr _ rfl hR)
    | some b11 =>
      replace h := fg_oq1 h
      obtain ⟨g12, h⟩ := fg_gdE h
      have h_b11 := fg_isU_U HX g12
      refine bs_astore dX11_aged_12 rfl (by decide) ?_
      refine bs_aload dX11_aged_14 rfl ?_
      refine bs_ifnull dX11_aged_16 ?_
      refine bs_aload dX11_aged_19 rfl ?_
      refine bs_ifnull dX11_aged_21 ?_
      refine bs_aload dX11_aged_24 rfl ?_
      refine bs_iload dX11_aged_26 rfl ?_
      obtain ⟨v14, k13, h⟩ := fg_bdE h
      refine fg_callV dX11_aged_28 qX11_171 (wX1_hasBubble HX h_b3 hR k13) rfl (h_b3.s0) rfl (Nat.le_of_ble_eq_true rfl) (fg_cr (by first | decide | omega) (by decide)) (fun hR => ?_)
      refine bs_if_eq (tgt := 44) dX11_aged_31 (by decide) (fun c => ?_) (fun c => ?_)
      · replace h := fg_ip c h
        refine bs_iconst (v := (-1)) dX11_aged_44 (by decide) ?_
        cases h
        exact bs_iret dX11_aged_45 rfl (Nat.zero_le _) (Nat.zero_le _) (kr _ rfl hR)
      · replace h := fg_iN c h
        refine bs_iload_n dX11_aged_34 rfl ?_
        refine bs_if_lt (tgt := 44) dX11_aged_35 (by decide) (fun c => ?_) (fun c => ?_)
        · replace h := fg_ip c h
          refine bs_iconst (v := (-1)) dX11_aged_44 (by decide) ?_
          cases h
          exact bs_iret dX11_aged_45 rfl (Nat.zero_le _) (Nat.zero_le _) (kr _ rfl hR)
        · replace h := fg_iN c h
          refine bs_iload_n dX11_aged_38 rfl ?_
          refine bs_bipush (v := (nI 60)) dX11_aged_39 (by decide) ?_
          refine bs_icmp_le (tgt := 46) dX11_aged_41 (by decide) (fun c => ?_) (fun c => ?_)
          · replace h := fg_ip c h
            refine bs_aload_n dX11_aged_46 rfl ?_
            refine fg_getR (b := (x + 45)) dX11_aged_47 fX11_73 (HX.s 0 rfl rfl rfl) hR (HX.r 0 9 rfl rfl rfl) ?_
            refine bs_aload dX11_aged_50 rfl ?_
            refine bs_aload dX11_aged_52 rfl ?_
            obtain ⟨mu16, k15, h⟩ := fg_bdE h
            refine fg_callVv dX11_aged_54 qX11_345 (wX0_turnTo HX h_b3 h_b11 hR k15) rfl (HX.s 45 rfl rfl rfl) rfl (Nat.le_of_ble_eq_true rfl) (fg_cr (by first | decide | omega) (by decide)) (fun hR => ?_)
            refine bs_aload_n dX11_aged_57 rfl ?_
            refine fg_getR (b := (x + 45)) dX11_aged_58 fX11_73 (HX.s 0 rfl rfl rfl) hR (HX.r 0 9 rfl rfl rfl) ?_
            refine bs_iload_n dX11_aged_61 rfl ?_
            refine bs_aload dX11_aged_62 rfl ?_
            refine bs_aload dX11_aged_64 rfl ?_
            refine bs_aload_n dX11_aged_66 rfl ?_
            refine fg_getR (b := (x + 1)) dX11_aged_67 fX11_12 (HX.s 0 rfl rfl rfl) hR (HX.r 0 0 rfl rfl rfl) ?_
            refine bs_aload_n dX11_aged_70 rfl ?_
            refine fg_getR (b := (x + 26)) dX11_aged_71 fX11_52 (HX.s 0 rfl rfl rfl) hR (HX.r 0 6 rfl rfl rfl) ?_
            obtain ⟨mu18, k17, h⟩ := fg_bdE h
            refine fg_callVv dX11_aged_74 qX11_349 (wX0_reach HX h_b3 h_b11 hR k17) rfl (HX.s 45 rfl rfl rfl) rfl (Nat.le_of_ble_eq_true rfl) (fg_cr (by first | decide | omega) (by decide)) (fun hR => ?_)
            refine bs_aload_n dX11_aged_77 rfl ?_
            refine fg_getR (b := (x + 45)) dX11_aged_78 fX11_73 (HX.s 0 rfl rfl rfl) hR (HX.r 0 9 rfl rfl rfl) ?_
            refine bs_iload_n dX11_aged_81 rfl ?_
            refine bs_iload dX11_aged_82 rfl ?_
            obtain ⟨v20, k19, h⟩ := fg_bdE h
            refine fg_callV dX11_aged_84 qX11_353 (wX0_lengthAt HX hR k19) rfl (HX.s 45 rfl rfl rfl) rfl (Nat.le_of_ble_eq_true rfl) (fg_cr (by first | decide | omega) (by decide)) (fun hR => ?_)
            cases h
            exact bs_iret dX11_aged_87 rfl (Nat.zero_le _) (Nat.zero_le _) (kr _ rfl hR)
          · replace h := fg_iN c h
            refine bs_iconst (v := (-1)) dX11_aged_44 (by decide) ?_
            cases h
            exact bs_iret dX11_aged_45 rfl (Nat.zero_le _) (Nat.zero_le _) (kr _ rfl hR)
noncomputable def FX4_mayCompare (x : Nat) (mu : bs_Mm) (p0 : Option Nat) : Option (Int32) :=
  fg_oq p0 (
  some ((nI 0))
  ) (fun b1 => fg_gd (fg_isF x b1) (
  if (nI 8) < (bs_iv (mu b1 8)) then (
    some ((nI 0))
  ) else (
    some ((nI 1))
  )
  ))
set_option maxHeartbeats 4000000 in
theorem wX4_mayCompare {nx : Nat} {sh : bs_Sh} {R : Nat → Nat → Option Nat} {x : Nat} (HX : fg_S (bs_tS x) R x sh) {mu : bs_Mm} (hR : fg_R R mu) {p0 : Option Nat} {r : Int32} (h : FX4_mayCompare x mu p0 = some r) : bs_C mX4_mayCompare (bs_rm 0 0 0) [va_rf p0] nx sh mu (fg_po R nx sh (some (.int r)) mu) := by
  have kr : ∀ q, r = q → fg_R R mu → (fg_po R nx sh (some (.int r)) mu) (some (.int q)) nx sh mu := fun q e hq => by subst e; exact ⟨rfl, rfl, rfl, rfl, hq⟩
  unfold FX4_mayCompare at h
  cases p0 with
  | none =>
    replace h := fg_oq0 h
    refine bs_ct (by decide +kernel) (Nat.le_of_ble_eq_true rfl) ?_
    refine bs_aloadN_n dX4_mayCompare_0 rfl ?_
    refine bs_ifnullN (tgt := 17) dX4_mayCompare_1 (by decide) ?_
    refine bs_iconst (v := (nI 0)) dX4_mayCompare_17 (by decide) ?_
    cases h
    exact bs_zret dX4_mayCompare_18 rfl (Or.inl rfl) (Nat.zero_le _) (Nat.zero_le _) (kr _ rfl hR)
  | some b1 =>
    replace h := fg_oq1 h
    obtain ⟨g2, h⟩ := fg_gdE h
    have h_b1 := fg_isF_F HX g2
    refine bs_ct (by decide +kernel) (Nat.le_of_ble_eq_true rfl) ?_
    refine bs_aload_n dX4_mayCompare_0 rfl ?_
    refine bs_ifnull dX4_mayCompare_1 ?_
    refine bs_aload_n dX4_mayCompare_4 rfl ?_
    refine bs_getI dX4_mayCompare_5 fX4_27 (h_b1.s0) ?_
    refine bs_bipush (v := (nI 8)) dX4_mayCompare_8 (by decide) ?_
    refine bs_icmp_gt (tgt := 17) dX4_mayCompare_10 (by decide) (fun c => ?_) (fun c => ?_)
    · replace h := fg_ip c h
      refine bs_iconst (v := (nI 0)) dX4_mayCompare_17 (by decide) ?_
      cases h
      exact bs_zret dX4_mayCompare_18 rfl (Or.inl rfl) (Nat.zero_le _) (Nat.zero_le _) (kr _ rfl hR)
    · replace h := fg_iN c h
      refine bs_iconst (v := (nI 1)) dX4_mayCompare_13 (by decide) ?_
      refine bs_goto (tgt := 18) dX4_mayCompare_14 (by decide) ?_
      cases h
      exact bs_zret dX4_mayCompare_18 rfl (Or.inr rfl) (Nat.zero_le _) (Nat.zero_le _) (kr _ rfl hR)
noncomputable def FX4_shortest_b8 (x : Nat) (p0 : Nat) (mu : bs_Mm) (l1 : Int32) (s : Int32 × Int32 × Int32) : Option ((Int32 × Int32 × Int32) ⊕ (Int32)) :=
  if (bs_iv (mu p0 7)) ≤ s.2.2 then (
    some (.inr s.1)
  ) else (
    if (l1 &&& ((nI 1) <<< (s.2.2 &&& 31))) = 0 then (
      fg_gd (fg_in s.2.2 24) (
      if s.2.1 ≤ (bs_iv (mu (p0 + 2) s.2.2.toNatClampNeg)) then (
        some (.inl (s.1, s.2.1, (s.2.2 + (nI 1))))
      ) else (
        fg_gd (fg_in s.2.2 24) (
        some (.inl (s.2.2, (bs_iv (mu (p0 + 2) s.2.2.toNatClampNeg)), (s.2.2 + (nI 1)))))
      ))
    ) else (
      some (.inl (s.1, s.2.1, (s.2.2 + (nI 1))))
    )
  )
set_option maxHeartbeats 4000000 in
theorem wFX4_shortest_b8 {nx : Nat} {sh : bs_Sh} {R : Nat → Nat → Option Nat} {x : Nat} (HX : fg_S (bs_tS x) R x sh) {p0 : Nat} (h_p0 : fg_F R sh p0) {mu : bs_Mm} {l1 : Int32} {Ph : bs_Po} {s : Int32 × Int32 × Int32} {r : (Int32 × Int32 × Int32) ⊕ (Int32)} (ka : ∀ s, r = .inl s → bs_W Ph mX4_shortest (bs_rm 0 0 0) 8 (bs_mk [(0, .ref p0), (1, .int l1), (2, .int s.1), (3, .int s.2.1), (4, .int s.2.2)]) [] 0 0 nx sh mu) (ke : ∀ s, r = .inr s → bs_W Ph mX4_shortest (bs_rm 0 0 0) 54 (bs_mk [(0, .ref p0), (1, .int l1), (2, .int s)]) [] 0 0 nx sh mu) (hR : fg_R R mu) (h : FX4_shortest_b8 x p0 mu l1 s = some r) : bs_W Ph mX4_shortest (bs_rm 0 0 0) 8 (bs_mk [(0, .ref p0), (1, .int l1), (2, .int s.1), (3, .int s.2.1), (4, .int s.2.2)]) [] 0 0 nx sh mu := by
  unfold FX4_shortest_b8 at h
  refine bs_iload dX4_shortest_8 rfl ?_
  refine bs_aload_n dX4_shortest_10 rfl ?_
  refine bs_getI dX4_shortest_11 fX4_40 (h_p0.s0) ?_
  refine bs_icmp_ge (tgt := 54) dX4_shortest_14 (by decide) (fun c => ?_) (fun c => ?_)
  · replace h := fg_ip c h
    cases h
    refine bs_W.mk [(0, .ref p0), (1, .int l1), (2, .int s.1)] (by intro q hq; simp only [List.mem_cons, List.not_mem_nil, or_false] at hq; rcases hq with rfl | rfl | rfl <;> rfl) (ke _ rfl)
  · replace h := fg_iN c h
    refine bs_iload_n dX4_shortest_17 rfl ?_
    refine bs_iconst (v := (nI 1)) dX4_shortest_18 (by decide) ?_
    refine bs_iload dX4_shortest_19 rfl ?_
    refine bs_ishl dX4_shortest_21 ?_
    refine bs_iand dX4_shortest_22 ?_
    refine bs_if_ne (tgt := 48) dX4_shortest_23 (by decide) (fun c => ?_) (fun c => ?_)
    · replace h := fg_iN c h
      refine fg_iinc (m := (nI 1)) dX4_shortest_48 rfl rfl (by decide) ?_
      refine bs_goto (tgt := 8) dX4_shortest_51 (by decide) ?_
      cases h
      refine bs_W.mk [(0, .ref p0), (1, .int l1), (2, .int s.1), (3, .int s.2.1), (4, .int (s.2.2 + (nI 1)))] (by intro q hq; simp only [List.mem_cons, List.not_mem_nil, or_false] at hq; rcases hq with rfl | rfl | rfl | rfl | rfl <;> rfl) (by have k := ka _ rfl; dsimp only at k; exact k)
    · replace h := fg_ip c h
      refine bs_aload_n dX4_shortest_26 rfl ?_
      refine fg_getR (b := (p0 + 2)) dX4_shortest_27 fX4_79 (h_p0.s0) hR (h_p0.r1) ?_
      refine bs_iload dX4_shortest_30 rfl ?_
      obtain ⟨g1, h⟩ := fg_gdE h
      refine bs_iald dX4_shortest_32 (h_p0.s2) (fg_in_ix g1) ?_
      refine bs_iload_n dX4_shortest_33 rfl ?_
      refine bs_icmp_ge (tgt := 48) dX4_shortest_34 (by decide) (fun c => ?_) (fun c => ?_)
      · replace h := fg_ip c h
        refine fg_iinc (m := (nI 1)) dX4_shortest_48 rfl rfl (by decide) ?_
        refine bs_goto (tgt := 8) dX4_shortest_51 (by decide) ?_
        cases h
        refine bs_W.mk [(0, .ref p0), (1, .int l1), (2, .int s.1), (3, .int s.2.1), (4, .int (s.2.2 + (nI 1)))] (by intro q hq; simp only [List.mem_cons, List.not_mem_nil, or_false] at hq; rcases hq with rfl | rfl | rfl | rfl | rfl <;> rfl) (by have k := ka _ rfl; dsimp only at k; exact k)
      · replace h := fg_iN c h
        refine bs_aload_n dX4_shortest_37 rfl ?_
        refine fg_getR (b := (p0 + 2)) dX4_shortest_38 fX4_79 (h_p0.s0) hR (h_p0.r1) ?_
        refine bs_iload dX4_shortest_41 rfl ?_
        obtain ⟨g2, h⟩ := fg_gdE h
        refine bs_iald dX4_shortest_43 (h_p0.s2) (fg_in_ix g2) ?_
        refine bs_istore_n dX4_shortest_44 rfl (by decide) ?_
        refine bs_iload dX4_shortest_45 rfl ?_
        refine bs_istore_n dX4_shortest_47 rfl (by decide) ?_
        refine fg_iinc (m := (nI 1)) dX4_shortest_48 rfl rfl (by decide) ?_
        refine bs_goto (tgt := 8) dX4_shortest_51 (by decide) ?_
        cases h
        refine bs_W.mk [(0, .ref p0), (1, .int l1), (2, .int s.2.2), (3, .int (bs_iv (mu (p0 + 2) s.2.2.toNatClampNeg))), (4, .int (s.2.2 + (nI 1)))] (by intro q hq; simp only [List.mem_cons, List.not_mem_nil, or_false] at hq; rcases hq with rfl | rfl | rfl | rfl | rfl <;> rfl) (by have k := ka _ rfl; dsimp only at k; exact k)
theorem wFX4_shortest_l8 {nx : Nat} {sh : bs_Sh} {R : Nat → Nat → Option Nat} {x : Nat} (HX : fg_S (bs_tS x) R x sh) {p0 : Nat} (h_p0 : fg_F R sh p0) {mu : bs_Mm} {l1 : Int32} {Ph : bs_Po} {t : Int32} : ∀ n (y0 : Int32) (y1 : Int32) (y2 : Int32), fg_lp (FX4_shortest_b8 x p0 mu l1) n (y0, y1, y2) = some t → fg_R R mu → (ke : ∀ s, t = s → bs_W Ph mX4_shortest (bs_rm 0 0 0) 54 (bs_mk [(0, .ref p0), (1, .int l1), (2, .int s)]) [] 0 0 nx sh mu) → bs_W Ph mX4_shortest (bs_rm 0 0 0) 8 (bs_mk [(0, .ref p0), (1, .int l1), (2, .int y0), (3, .int y1), (4, .int y2)]) [] 0 0 nx sh mu := by
  intro n
  induction n with
  | zero => intro y0 y1 y2 h; exact absurd h (fun z => fg_lp0 z)
  | succ n ih =>
    intro y0 y1 y2 h hR ke
    obtain ⟨r, hb, h1, h2⟩ := fg_lpE h
    exact wFX4_shortest_b8 (s := (y0, y1, y2)) HX h_p0 (fun s' e => ih s'.1 s'.2.1 s'.2.2 (h1 s' e) hR ke) (fun s' e => ke s' (h2 _ e).symm) hR hb
noncomputable def FX4_shortest (x : Nat) (mu : bs_Mm) (p0 : Nat) (p1 : Int32) : Option (Int32) :=
  fg_bd (fg_lp (FX4_shortest_b8 x p0 mu p1) fg_fu ((nI 0), (1000000 : Int32), (nI 0))) (fun t3 => 
    some (t3)
  )
set_option maxHeartbeats 4000000 in
theorem wX4_shortest {nx : Nat} {sh : bs_Sh} {R : Nat → Nat → Option Nat} {x : Nat} (HX : fg_S (bs_tS x) R x sh) {p0 : Nat} (h_p0 : fg_F R sh p0) {mu : bs_Mm} (hR : fg_R R mu) {p1 : Int32} {r : Int32} (h : FX4_shortest x mu p0 p1 = some r) : bs_C mX4_shortest (bs_rm 0 0 0) [.ref p0, .int p1] nx sh mu (fg_po R nx sh (some (.int r)) mu) := by
  refine bs_ct (by decide +kernel) (Nat.le_of_ble_eq_true rfl) ?_
  have kr : ∀ q, r = q → fg_R R mu → (fg_po R nx sh (some (.int r)) mu) (some (.int q)) nx sh mu := fun q e hq => by subst e; exact ⟨rfl, rfl, rfl, rfl, hq⟩
  unfold FX4_shortest at h
  refine bs_iconst (v := (nI 0)) dX4_shortest_0 (by decide) ?_
  refine bs_istore_n dX4_shortest_1 rfl (by decide) ?_
  refine bs_ldc (v := (1000000)) dX4_shortest_2 cX4_86 ?_
  refine bs_istore_n dX4_shortest_4 rfl (by decide) ?_
  refine bs_iconst (v := (nI 0)) dX4_shortest_5 (by decide) ?_
  refine bs_istore dX4_shortest_6 rfl (by decide) ?_
  obtain ⟨t3, k4, h⟩ := fg_bdE h
  refine bs_W.mk [(0, .ref p0), (1, .int p1), (2, .int (nI 0)), (3, .int (1000000 : Int32)), (4, .int (nI 0))] (by intro q hq; simp only [List.mem_cons, List.not_mem_nil, or_false] at hq; rcases hq with rfl | rfl | rfl | rfl | rfl <;> rfl) ?_
  refine wFX4_shortest_l8 HX h_p0 _ _ _ _ k4 hR ?_
  intro s e
  subst e
  refine bs_iload_n dX4_shortest_54 rfl ?_
  cases h
  exact bs_iret dX4_shortest_55 rfl (Nat.zero_le _) (Nat.zero_le _) (kr _ rfl hR)
noncomputable def FX4_kindBehind_b2 (x : Nat) (mu : bs_Mm) (l1 : Int32) (l2 : Int32) (s : Int32) : Option ((Int32) ⊕ ((Unit) ⊕ (Int32 × bs_Mm))) :=
  if (bs_iv (mu (x + 30) 5)) ≤ s then (
    some (.inr (.inl ()))
  ) else (
    fg_gd (fg_in s 48) (
    if (bs_iv (mu (x + 34) s.toNatClampNeg)) = l1 then (
      fg_gd (fg_in s 48) (
      if (bs_iv (mu (x + 35) s.toNatClampNeg)) = l2 then (
        some (.inr (.inr (s, mu)))
      ) else (
        some (.inl (s + (nI 1)))
      ))
    ) else (
      some (.inl (s + (nI 1)))
    ))
  )
set_option maxHeartbeats 4000000 in
theorem wFX4_kindBehind_b2 {nx : Nat} {sh : bs_Sh} {R : Nat → Nat → Option Nat} {x : Nat} (HX : fg_S (bs_tS x) R x sh) {mu : bs_Mm} {l1 : Int32} {l2 : Int32} {Ph : bs_Po} {s : Int32} {r : (Int32) ⊕ ((Unit) ⊕ (Int32 × bs_Mm))} (ka : ∀ s, r = .inl s → bs_W Ph mX4_kindBehind (bs_rm 0 0 0) 2 (bs_mk [(0, .ref (x + 30)), (1, .int l1), (2, .int l2), (3, .int s)]) [] 0 0 nx sh mu) (ke : ∀ s, r = .inr (.inl s) → bs_W Ph mX4_kindBehind (bs_rm 0 0 0) 38 (bs_mk [(0, .ref (x + 30)), (1, .int l1), (2, .int l2)]) [] 0 0 nx sh mu) (kr : ∀ q, r = .inr (.inr q) → fg_R R q.2 → Ph (some (.int q.1)) nx sh q.2) (hR : fg_R R mu) (h : FX4_kindBehind_b2 x mu l1 l2 s = some r) : bs_W Ph mX4_kindBehind (bs_rm 0 0 0) 2 (bs_mk [(0, .ref (x + 30)), (1, .int l1), (2, .int l2), (3, .int s)]) [] 0 0 nx sh mu := by
  unfold FX4_kindBehind_b2 at h
  refine bs_iload_n dX4_kindBehind_2 rfl ?_
  refine bs_aload_n dX4_kindBehind_3 rfl ?_
  refine bs_getI dX4_kindBehind_4 fX4_52 (HX.s 30 rfl rfl rfl) ?_
  refine bs_icmp_ge (tgt := 38) dX4_kindBehind_7 (by decide) (fun c => ?_) (fun c => ?_)
  · replace h := fg_ip c h
    cases h
    refine bs_W.mk [(0, .ref (x + 30)), (1, .int l1), (2, .int l2)] (by intro q hq; simp only [List.mem_cons, List.not_mem_nil, or_false] at hq; rcases hq with rfl | rfl | rfl <;> rfl) (ke _ rfl)
  · replace h := fg_iN c h
    refine bs_aload_n dX4_kindBehind_10 rfl ?_
    refine fg_getR (b := (x + 34)) dX4_kindBehind_11 fX4_21 (HX.s 30 rfl rfl rfl) hR (HX.r 30 3 rfl rfl rfl) ?_
    refine bs_iload_n dX4_kindBehind_14 rfl ?_
    obtain ⟨g1, h⟩ := fg_gdE h
    refine bs_iald dX4_kindBehind_15 (HX.ss 34 rfl rfl) (fg_in_ix g1) ?_
    refine bs_iload_n dX4_kindBehind_16 rfl ?_
    refine bs_icmp_ne (tgt := 32) dX4_kindBehind_17 (by decide) (fun c => ?_) (fun c => ?_)
    · replace h := fg_iN c h
      refine fg_iinc (m := (nI 1)) dX4_kindBehind_32 rfl rfl (by decide) ?_
      refine bs_goto (tgt := 2) dX4_kindBehind_35 (by decide) ?_
      cases h
      refine bs_W.mk [(0, .ref (x + 30)), (1, .int l1), (2, .int l2), (3, .int (s + (nI 1)))] (by intro q hq; simp only [List.mem_cons, List.not_mem_nil, or_false] at hq; rcases hq with rfl | rfl | rfl | rfl <;> rfl) (ka _ rfl)
    · replace h := fg_ip c h
      refine bs_aload_n dX4_kindBehind_20 rfl ?_
      refine fg_getR (b := (x + 35)) dX4_kindBehind_21 fX4_24 (HX.s 30 rfl rfl rfl) hR (HX.r 30 4 rfl rfl rfl) ?_
      refine bs_iload_n dX4_kindBehind_24 rfl ?_
      obtain ⟨g2, h⟩ := fg_gdE h
      refine bs_iald dX4_kindBehind_25 (HX.ss 35 rfl rfl) (fg_in_ix g2) ?_
      refine bs_iload_n dX4_kindBehind_26 rfl ?_
      refine bs_icmp_ne (tgt := 32) dX4_kindBehind_27 (by decide) (fun c => ?_) (fun c => ?_)
      · replace h := fg_iN c h
        refine fg_iinc (m := (nI 1)) dX4_kindBehind_32 rfl rfl (by decide) ?_
        refine bs_goto (tgt := 2) dX4_kindBehind_35 (by decide) ?_
        cases h
        refine bs_W.mk [(0, .ref (x + 30)), (1, .int l1), (2, .int l2), (3, .int (s + (nI 1)))] (by intro q hq; simp only [List.mem_cons, List.not_mem_nil, or_false] at hq; rcases hq with rfl | rfl | rfl | rfl <;> rfl) (ka _ rfl)
      · replace h := fg_ip c h
        refine bs_iload_n dX4_kindBehind_30 rfl ?_
        cases h
        exact bs_iret dX4_kindBehind_31 rfl (Nat.zero_le _) (Nat.zero_le _) (kr _ rfl hR)
theorem wFX4_kindBehind_l2 {nx : Nat} {sh : bs_Sh} {R : Nat → Nat → Option Nat} {x : Nat} (HX : fg_S (bs_tS x) R x sh) {mu : bs_Mm} {l1 : Int32} {l2 : Int32} {Ph : bs_Po} {t : (Unit) ⊕ (Int32 × bs_Mm)} : ∀ n (y0 : Int32), fg_lp (FX4_kindBehind_b2 x mu l1 l2) n y0 = some t → fg_R R mu → (ke : ∀ s, t = .inl s → bs_W Ph mX4_kindBehind (bs_rm 0 0 0) 38 (bs_mk [(0, .ref (x + 30)), (1, .int l1), (2, .int l2)]) [] 0 0 nx sh mu) → (kr : ∀ q, t = .inr q → fg_R R q.2 → Ph (some (.int q.1)) nx sh q.2) → bs_W Ph mX4_kindBehind (bs_rm 0 0 0) 2 (bs_mk [(0, .ref (x + 30)), (1, .int l1), (2, .int l2), (3, .int y0)]) [] 0 0 nx sh mu := by
  intro n
  induction n with
  | zero => intro y0 h; exact absurd h (fun z => fg_lp0 z)
  | succ n ih =>
    intro y0 h hR ke kr
    obtain ⟨r, hb, h1, h2⟩ := fg_lpE h
    exact wFX4_kindBehind_b2 (s := y0) HX (fun s' e => ih s' (h1 s' e) hR ke kr) (fun s' e => ke s' (h2 _ e).symm) (fun q e => kr q (h2 _ e).symm) hR hb
noncomputable def FX4_kindBehind (x : Nat) (mu : bs_Mm) (p1 : Int32) (p2 : Int32) : Option (Int32 × bs_Mm) :=
  fg_l3 (fg_lp (FX4_kindBehind_b2 x mu p1 p2) fg_fu (nI 0)) (fun t3 => 
    if (nI 48) ≤ (bs_iv (mu (x + 30) 5)) then (
      some (((bs_iv (mu (x + 30) 5)) - (nI 1)), mu)
    ) else (
      fg_gd (fg_in (bs_iv (mu (x + 30) 5)) 48) (
      fg_wr mu (x + 34) (bs_iv (mu (x + 30) 5)).toNatClampNeg (.int p1) (fun mu6 => 
      fg_gd (fg_in (bs_iv (mu6 (x + 30) 5)) 48) (
      fg_wr mu6 (x + 35) (bs_iv (mu6 (x + 30) 5)).toNatClampNeg (.int p2) (fun mu8 => 
      fg_wr mu8 (x + 30) 5 (.int ((bs_iv (mu8 (x + 30) 5)) + (nI 1))) (fun mu9 => 
      some (((bs_iv (mu9 (x + 30) 5)) - (nI 1)), mu9))))))
    )
  ) (fun q10 => some q10)
set_option maxHeartbeats 4000000 in
theorem wX4_kindBehind {nx : Nat} {sh : bs_Sh} {R : Nat → Nat → Option Nat} {x : Nat} (HX : fg_S (bs_tS x) R x sh) {mu : bs_Mm} (hR : fg_R R mu) {p1 : Int32} {p2 : Int32} {r : Int32 × bs_Mm} (h : FX4_kindBehind x mu p1 p2 = some r) : bs_C mX4_kindBehind (bs_rm 0 0 0) [.ref (x + 30), .int p1, .int p2] nx sh mu (fg_po R nx sh (some (.int r.1)) r.2) := by
  refine bs_ct (by decide +kernel) (Nat.le_of_ble_eq_true rfl) ?_
  have kr : ∀ q, r = q → fg_R R q.2 → (fg_po R nx sh (some (.int r.1)) r.2) (some (.int q.1)) nx sh q.2 := fun q e hq => by subst e; exact ⟨rfl, rfl, rfl, rfl, hq⟩
  unfold FX4_kindBehind at h
  refine bs_iconst (v := (nI 0)) dX4_kindBehind_0 (by decide) ?_
  refine bs_istore_n dX4_kindBehind_1 rfl (by decide) ?_
  obtain ⟨t30, k4, h1, h2⟩ := fg_l3E h
  refine bs_W.mk [(0, .ref (x + 30)), (1, .int p1), (2, .int p2), (3, .int (nI 0))] (by intro q hq; simp only [List.mem_cons, List.not_mem_nil, or_false] at hq; rcases hq with rfl | rfl | rfl | rfl <;> rfl) ?_
  refine wFX4_kindBehind_l2 HX _ _ k4 hR ?_ ?_
  · intro t3 e
    replace h := h1 t3 e
    refine bs_aload_n dX4_kindBehind_38 rfl ?_
    refine bs_getI dX4_kindBehind_39 fX4_52 (HX.s 30 rfl rfl rfl) ?_
    refine bs_aload_n dX4_kindBehind_42 rfl ?_
    refine fg_getR (b := (x + 34)) dX4_kindBehind_43 fX4_21 (HX.s 30 rfl rfl rfl) hR (HX.r 30 3 rfl rfl rfl) ?_
    refine bs_alen dX4_kindBehind_46 (HX.ss 34 rfl rfl) (by decide) ?_
    refine bs_icmp_ge (tgt := 80) dX4_kindBehind_47 (by decide) (fun c => ?_) (fun c => ?_)
    · replace h := fg_ip c h
      refine bs_aload_n dX4_kindBehind_80 rfl ?_
      refine bs_getI dX4_kindBehind_81 fX4_52 (HX.s 30 rfl rfl rfl) ?_
      refine bs_iconst (v := (nI 1)) dX4_kindBehind_84 (by decide) ?_
      refine bs_isub dX4_kindBehind_85 ?_
      cases h
      exact bs_iret dX4_kindBehind_86 rfl (Nat.zero_le _) (Nat.zero_le _) (kr _ rfl hR)
    · replace h := fg_iN c h
      refine bs_aload_n dX4_kindBehind_50 rfl ?_
      refine fg_getR (b := (x + 34)) dX4_kindBehind_51 fX4_21 (HX.s 30 rfl rfl rfl) hR (HX.r 30 3 rfl rfl rfl) ?_
      refine bs_aload_n dX4_kindBehind_54 rfl ?_
      refine bs_getI dX4_kindBehind_55 fX4_52 (HX.s 30 rfl rfl rfl) ?_
      refine bs_iload_n dX4_kindBehind_58 rfl ?_
      obtain ⟨g5, h⟩ := fg_gdE h
      refine fg_iast dX4_kindBehind_59 (HX.ss 34 rfl rfl) (fun j => HX.n 34 j rfl rfl rfl) g5 hR h (fun mu6 hR h => ?_)
      refine bs_aload_n dX4_kindBehind_60 rfl ?_
      refine fg_getR (b := (x + 35)) dX4_kindBehind_61 fX4_24 (HX.s 30 rfl rfl rfl) hR (HX.r 30 4 rfl rfl rfl) ?_
      refine bs_aload_n dX4_kindBehind_64 rfl ?_
      refine bs_getI dX4_kindBehind_65 fX4_52 (HX.s 30 rfl rfl rfl) ?_
      refine bs_iload_n dX4_kindBehind_68 rfl ?_
      obtain ⟨g7, h⟩ := fg_gdE h
      refine fg_iast dX4_kindBehind_69 (HX.ss 35 rfl rfl) (fun j => HX.n 35 j rfl rfl rfl) g7 hR h (fun mu8 hR h => ?_)
      refine bs_aload_n dX4_kindBehind_70 rfl ?_
      refine bs_dup dX4_kindBehind_71 rfl ?_
      refine bs_getI dX4_kindBehind_72 fX4_52 (HX.s 30 rfl rfl rfl) ?_
      refine bs_iconst (v := (nI 1)) dX4_kindBehind_75 (by decide) ?_
      refine bs_iadd dX4_kindBehind_76 ?_
      refine fg_putI dX4_kindBehind_77 pX4_52 (HX.s 30 rfl rfl rfl) (HX.n 30 5 rfl rfl rfl) hR h (fun mu9 hR h => ?_)
      refine bs_aload_n dX4_kindBehind_80 rfl ?_
      refine bs_getI dX4_kindBehind_81 fX4_52 (HX.s 30 rfl rfl rfl) ?_
      refine bs_iconst (v := (nI 1)) dX4_kindBehind_84 (by decide) ?_
      refine bs_isub dX4_kindBehind_85 ?_
      cases h
      exact bs_iret dX4_kindBehind_86 rfl (Nat.zero_le _) (Nat.zero_le _) (kr _ rfl hR)
  · intro q10 e hR
    replace h := h2 q10 e
    cases h
    exact kr _ rfl hR
noncomputable def FX4_tellKinds_b10 (x : Nat) (p1 : Nat) (p2 : Nat)  (s : Int32 × Int32 × bs_Mm) : Option ((Int32 × Int32 × bs_Mm) ⊕ (bs_Mm)) :=
  if (bs_iv (s.2.2 p1 7)) ≤ s.2.1 then (
    some (.inr s.2.2)
  ) else (
    fg_bd (FX4_shortest x s.2.2 p1 s.1) (fun v3 => 
    fg_gd (fg_in v3 24) (
    fg_gd (fg_in v3 24) (
    fg_gd (fg_in v3 24) (
    fg_gd (fg_in v3 24) (
    fg_gd (fg_in (((bs_iv (s.2.2 (p1 + 3) v3.toNatClampNeg)) * (nI 8)) + (bs_iv (s.2.2 (p1 + 4) v3.toNatClampNeg))) 64) (
    fg_gd (fg_in v3 24) (
    fg_b2 (FX4_kindBehind x s.2.2 (bs_iv (s.2.2 p2 (((bs_iv (s.2.2 (p1 + 3) v3.toNatClampNeg)) * (nI 8)) + (bs_iv (s.2.2 (p1 + 4) v3.toNatClampNeg))).toNatClampNeg)) (bs_iv (s.2.2 (p1 + 2) v3.toNatClampNeg))) (fun v12 mu11 => 
    fg_gd (fg_in (((bs_iv (s.2.2 (p1 + 3) v3.toNatClampNeg)) * (nI 8)) + (bs_iv (s.2.2 (p1 + 4) v3.toNatClampNeg))) 64) (
    fg_wr mu11 p2 (((bs_iv (s.2.2 (p1 + 3) v3.toNatClampNeg)) * (nI 8)) + (bs_iv (s.2.2 (p1 + 4) v3.toNatClampNeg))).toNatClampNeg (.int v12) (fun mu14 => 
    fg_gd (fg_in (((bs_iv (s.2.2 (p1 + 4) v3.toNatClampNeg)) * (nI 8)) + (bs_iv (s.2.2 (p1 + 3) v3.toNatClampNeg))) 64) (
    fg_wr mu14 p2 (((bs_iv (s.2.2 (p1 + 4) v3.toNatClampNeg)) * (nI 8)) + (bs_iv (s.2.2 (p1 + 3) v3.toNatClampNeg))).toNatClampNeg (.int v12) (fun mu16 => 
    some (.inl ((s.1 ||| ((nI 1) <<< (v3 &&& 31))), (s.2.1 + (nI 1)), mu16))))))))))))))
  )
set_option maxHeartbeats 4000000 in
theorem wFX4_tellKinds_b10 {nx : Nat} {sh : bs_Sh} {R : Nat → Nat → Option Nat} {x : Nat} (HX : fg_S (bs_tS x) R x sh) {p1 : Nat} (h_p1 : fg_F R sh p1) {p2 : Nat} (h_p2 : fg_A R sh p2 64) {Ph : bs_Po} {s : Int32 × Int32 × bs_Mm} {r : (Int32 × Int32 × bs_Mm) ⊕ (bs_Mm)} (ka : ∀ s, r = .inl s → fg_R R s.2.2 → bs_W Ph mX4_tellKinds (bs_rm 1 0 0) 10 (bs_mk [(0, .ref (x + 30)), (1, .ref p1), (2, .ref p2), (3, .int s.1), (4, .int s.2.1)]) [] 0 0 nx sh s.2.2) (ke : ∀ s, r = .inr s → fg_R R s → bs_W Ph mX4_tellKinds (bs_rm 1 0 0) 108 (bs_mk [(0, .ref (x + 30)), (1, .ref p1), (2, .ref p2)]) [] 0 0 nx sh s) (hR : fg_R R s.2.2) (h : FX4_tellKinds_b10 x p1 p2 s = some r) : bs_W Ph mX4_tellKinds (bs_rm 1 0 0) 10 (bs_mk [(0, .ref (x + 30)), (1, .ref p1), (2, .ref p2), (3, .int s.1), (4, .int s.2.1)]) [] 0 0 nx sh s.2.2 := by
  unfold FX4_tellKinds_b10 at h
  refine bs_iload dX4_tellKinds_10 rfl ?_
  refine bs_aload_n dX4_tellKinds_12 rfl ?_
  refine bs_getI dX4_tellKinds_13 fX4_40 (h_p1.s0) ?_
  refine bs_icmp_ge (tgt := 108) dX4_tellKinds_16 (by decide) (fun c => ?_) (fun c => ?_)
  · replace h := fg_ip c h
    cases h
    refine bs_W.mk [(0, .ref (x + 30)), (1, .ref p1), (2, .ref p2)] (by intro q hq; simp only [List.mem_cons, List.not_mem_nil, or_false] at hq; rcases hq with rfl | rfl | rfl <;> rfl) (ke _ rfl hR)
  · replace h := fg_iN c h
    refine bs_aload_n dX4_tellKinds_19 rfl ?_
    refine bs_iload_n dX4_tellKinds_20 rfl ?_
    obtain ⟨v3, k2, h⟩ := fg_bdE h
    refine fg_callS dX4_tellKinds_21 qX4_69 (wX4_shortest HX h_p1 hR k2) rfl rfl (Nat.le_of_ble_eq_true rfl) (fg_cr (by first | decide | omega) (by decide)) (fun hR => ?_)
    refine bs_istore dX4_tellKinds_24 rfl (by decide) ?_
    refine bs_iload_n dX4_tellKinds_26 rfl ?_
    refine bs_iconst (v := (nI 1)) dX4_tellKinds_27 (by decide) ?_
    refine bs_iload dX4_tellKinds_28 rfl ?_
    refine bs_ishl dX4_tellKinds_30 ?_
    refine bs_ior dX4_tellKinds_31 ?_
    refine bs_istore_n dX4_tellKinds_32 rfl (by decide) ?_
    refine bs_aload_n dX4_tellKinds_33 rfl ?_
    refine fg_getR (b := (p1 + 3)) dX4_tellKinds_34 fX4_73 (h_p1.s0) hR (h_p1.r2) ?_
    refine bs_iload dX4_tellKinds_37 rfl ?_
    obtain ⟨g4, h⟩ := fg_gdE h
    refine bs_iald dX4_tellKinds_39 (h_p1.s3) (fg_in_ix g4) ?_
    refine bs_bipush (v := (nI 8)) dX4_tellKinds_40 (by decide) ?_
    refine bs_imul dX4_tellKinds_42 ?_
    refine bs_aload_n dX4_tellKinds_43 rfl ?_
    refine fg_getR (b := (p1 + 4)) dX4_tellKinds_44 fX4_76 (h_p1.s0) hR (h_p1.r3) ?_
    refine bs_iload dX4_tellKinds_47 rfl ?_
    obtain ⟨g5, h⟩ := fg_gdE h
    refine bs_iald dX4_tellKinds_49 (h_p1.s4) (fg_in_ix g5) ?_
    refine bs_iadd dX4_tellKinds_50 ?_
    refine bs_istore dX4_tellKinds_51 rfl (by decide) ?_
    refine bs_aload_n dX4_tellKinds_53 rfl ?_
    refine fg_getR (b := (p1 + 4)) dX4_tellKinds_54 fX4_76 (h_p1.s0) hR (h_p1.r3) ?_
    refine bs_iload dX4_tellKinds_57 rfl ?_
    obtain ⟨g6, h⟩ := fg_gdE h
    refine bs_iald dX4_tellKinds_59 (h_p1.s4) (fg_in_ix g6) ?_
    refine bs_bipush (v := (nI 8)) dX4_tellKinds_60 (by decide) ?_
    refine bs_imul dX4_tellKinds_62 ?_
    refine bs_aload_n dX4_tellKinds_63 rfl ?_
    refine fg_getR (b := (p1 + 3)) dX4_tellKinds_64 fX4_73 (h_p1.s0) hR (h_p1.r2) ?_
    refine bs_iload dX4_tellKinds_67 rfl ?_
    obtain ⟨g7, h⟩ := fg_gdE h
    refine bs_iald dX4_tellKinds_69 (h_p1.s3) (fg_in_ix g7) ?_
    refine bs_iadd dX4_tellKinds_70 ?_
    refine bs_istore dX4_tellKinds_71 rfl (by decide) ?_
    refine bs_aload_n dX4_tellKinds_73 rfl ?_
    refine bs_aload_n dX4_tellKinds_74 rfl ?_
    refine bs_iload dX4_tellKinds_75 rfl ?_
    obtain ⟨g8, h⟩ := fg_gdE h
    refine bs_iald dX4_tellKinds_77 (h_p2.1) (fg_in_ix g8) ?_
    refine bs_aload_n dX4_tellKinds_78 rfl ?_
    refine fg_getR (b := (p1 + 2)) dX4_tellKinds_79 fX4_79 (h_p1.s0) hR (h_p1.r1) ?_
    refine bs_iload dX4_tellKinds_82 rfl ?_
    obtain ⟨g9, h⟩ := fg_gdE h
    refine bs_iald dX4_tellKinds_84 (h_p1.s2) (fg_in_ix g9) ?_
    obtain ⟨v12, mu11, k10, h⟩ := fg_b2E h
    refine fg_callV dX4_tellKinds_85 qX4_82 (wX4_kindBehind HX hR k10) rfl (HX.s 30 rfl rfl rfl) rfl (Nat.le_of_ble_eq_true rfl) (fg_cr (by first | decide | omega) (by decide)) (fun hR => ?_)
    refine bs_istore dX4_tellKinds_88 rfl (by decide) ?_
    refine bs_aload_n dX4_tellKinds_90 rfl ?_
    refine bs_iload dX4_tellKinds_91 rfl ?_
    refine bs_iload dX4_tellKinds_93 rfl ?_
    obtain ⟨g13, h⟩ := fg_gdE h
    refine fg_iast dX4_tellKinds_95 (h_p2.1) (h_p2.2.1) g13 hR h (fun mu14 hR h => ?_)
    refine bs_aload_n dX4_tellKinds_96 rfl ?_
    refine bs_iload dX4_tellKinds_97 rfl ?_
    refine bs_iload dX4_tellKinds_99 rfl ?_
    obtain ⟨g15, h⟩ := fg_gdE h
    refine fg_iast dX4_tellKinds_101 (h_p2.1) (h_p2.2.1) g15 hR h (fun mu16 hR h => ?_)
    refine fg_iinc (m := (nI 1)) dX4_tellKinds_102 rfl rfl (by decide) ?_
    refine bs_goto (tgt := 10) dX4_tellKinds_105 (by decide) ?_
    cases h
    refine bs_W.mk [(0, .ref (x + 30)), (1, .ref p1), (2, .ref p2), (3, .int (s.1 ||| ((nI 1) <<< (v3 &&& 31)))), (4, .int (s.2.1 + (nI 1)))] (by intro q hq; simp only [List.mem_cons, List.not_mem_nil, or_false] at hq; rcases hq with rfl | rfl | rfl | rfl | rfl <;> rfl) (by have k := ka _ rfl hR; dsimp only at k; exact k)
theorem wFX4_tellKinds_l10 {nx : Nat} {sh : bs_Sh} {R : Nat → Nat → Option Nat} {x : Nat} (HX : fg_S (bs_tS x) R x sh) {p1 : Nat} (h_p1 : fg_F R sh p1) {p2 : Nat} (h_p2 : fg_A R sh p2 64) {Ph : bs_Po} {t : bs_Mm} : ∀ n (y0 : Int32) (y1 : Int32) (mu1 : bs_Mm), fg_lp (FX4_tellKinds_b10 x p1 p2) n (y0, y1, mu1) = some t → fg_R R mu1 → (ke : ∀ s, t = s → fg_R R s → bs_W Ph mX4_tellKinds (bs_rm 1 0 0) 108 (bs_mk [(0, .ref (x + 30)), (1, .ref p1), (2, .ref p2)]) [] 0 0 nx sh s) → bs_W Ph mX4_tellKinds (bs_rm 1 0 0) 10 (bs_mk [(0, .ref (x + 30)), (1, .ref p1), (2, .ref p2), (3, .int y0), (4, .int y1)]) [] 0 0 nx sh mu1 := by
  intro n
  induction n with
  | zero => intro y0 y1 mu1 h; exact absurd h (fun z => fg_lp0 z)
  | succ n ih =>
    intro y0 y1 mu1 h hR ke
    obtain ⟨r, hb, h1, h2⟩ := fg_lpE h
    exact wFX4_tellKinds_b10 (s := (y0, y1, mu1)) HX h_p1 h_p2 (fun s' e hR' => ih s'.1 s'.2.1 s'.2.2 (h1 s' e) hR' ke) (fun s' e => ke s' (h2 _ e).symm) hR hb
noncomputable def FX4_tellKinds (x : Nat) (mu : bs_Mm) (p1 : Nat) (p2 : Nat) : Option (bs_Mm) :=
  fg_wf mu p2 64 (.int (-1)) (fun mu1 => 
  fg_bd (fg_lp (FX4_tellKinds_b10 x p1 p2) fg_fu ((nI 0), (nI 0), mu1)) (fun t17 => 
    some t17
  ))
set_option maxHeartbeats 4000000 in
theorem wX4_tellKinds {nx : Nat} {sh : bs_Sh} {R : Nat → Nat → Option Nat} {x : Nat} (HX : fg_S (bs_tS x) R x sh) {p1 : Nat} (h_p1 : fg_F R sh p1) {p2 : Nat} (h_p2 : fg_A R sh p2 64) {mu : bs_Mm} (hR : fg_R R mu) {r : bs_Mm} (h : FX4_tellKinds x mu p1 p2 = some r) : bs_C mX4_tellKinds (bs_rm 1 0 0) [.ref (x + 30), .ref p1, .ref p2] nx sh mu (fg_po R nx sh none r) := by
  refine bs_ct (by decide +kernel) (Nat.le_of_ble_eq_true rfl) ?_
  have kr : ∀ q, r = q → fg_R R q → (fg_po R nx sh none r) none nx sh q := fun q e hq => by subst e; exact ⟨rfl, rfl, rfl, rfl, hq⟩
  unfold FX4_tellKinds at h
  refine bs_aload_n dX4_tellKinds_0 rfl ?_
  refine bs_iconst (v := (-1)) dX4_tellKinds_1 (by decide) ?_
  refine fg_fill dX4_tellKinds_2 qX4_63 (h_p2.1) (h_p2.2.1) (by decide) (Nat.le_of_ble_eq_true rfl) (fg_cr (by first | decide | omega) (by decide)) hR h (fun mu1 hR h => ?_)
  refine bs_iconst (v := (nI 0)) dX4_tellKinds_5 (by decide) ?_
  refine bs_istore_n dX4_tellKinds_6 rfl (by decide) ?_
  refine bs_iconst (v := (nI 0)) dX4_tellKinds_7 (by decide) ?_
  refine bs_istore dX4_tellKinds_8 rfl (by decide) ?_
  obtain ⟨t17, k18, h⟩ := fg_bdE h
  refine bs_W.mk [(0, .ref (x + 30)), (1, .ref p1), (2, .ref p2), (3, .int (nI 0)), (4, .int (nI 0))] (by intro q hq; simp only [List.mem_cons, List.not_mem_nil, or_false] at hq; rcases hq with rfl | rfl | rfl | rfl | rfl <;> rfl) ?_
  refine wFX4_tellKinds_l10 HX h_p1 h_p2 _ _ _ _ k18 hR ?_
  intro s e hR
  subst e
  cases h
  exact bs_vret dX4_tellKinds_108 rfl (Nat.zero_le _) (Nat.zero_le _) (kr _ rfl hR)
noncomputable def FX4_fits_b52 (x : Nat) (b3 : Nat) (b6 : Nat) (mu : bs_Mm) (l1 : Int32) (l2 : Int32) (s : Int32) : Option ((Int32) ⊕ ((Unit) ⊕ (Int32))) :=
  if l1 ≤ s then (
    some (.inr (.inl ()))
  ) else (
    fg_gd (fg_in ((l1 * (nI 8)) + s) 64) (
    fg_gd (fg_in s 8) (
    fg_gd (fg_in ((l2 * (nI 8)) + (bs_iv (mu (x + 31) s.toNatClampNeg))) 64) (
    if (bs_iv (mu (x + 32) ((l1 * (nI 8)) + s).toNatClampNeg)) = (bs_iv (mu (x + 33) ((l2 * (nI 8)) + (bs_iv (mu (x + 31) s.toNatClampNeg))).toNatClampNeg)) then (
      some (.inl (s + (nI 1)))
    ) else (
      some (.inr (.inr ((nI 0))))
    ))))
  )
set_option maxHeartbeats 4000000 in
theorem wFX4_fits_b52 {nx : Nat} {sh : bs_Sh} {R : Nat → Nat → Option Nat} {x : Nat} (HX : fg_S (bs_tS x) R x sh) {b3 : Nat} (h_b3 : fg_F R sh b3) {b6 : Nat} (h_b6 : fg_F R sh b6) {mu : bs_Mm} {l1 : Int32} {l2 : Int32} {Ph : bs_Po} {s : Int32} {r : (Int32) ⊕ ((Unit) ⊕ (Int32))} (ka : ∀ s, r = .inl s → bs_W Ph mX4_fits (bs_rm 0 0 0) 52 (bs_mk [(0, .ref (x + 30)), (1, .int l1), (2, .int l2), (3, .int s)]) [] 0 0 nx sh mu) (ke : ∀ s, r = .inr (.inl s) → bs_W Ph mX4_fits (bs_rm 0 0 0) 95 (bs_mk [(0, .ref (x + 30)), (1, .int l1), (2, .int l2)]) [] 0 0 nx sh mu) (kr : ∀ q, r = .inr (.inr q) → fg_R R mu → Ph (some (.int q)) nx sh mu) (hR : fg_R R mu) (h : FX4_fits_b52 x b3 b6 mu l1 l2 s = some r) : bs_W Ph mX4_fits (bs_rm 0 0 0) 52 (bs_mk [(0, .ref (x + 30)), (1, .int l1), (2, .int l2), (3, .int s)]) [] 0 0 nx sh mu := by
  unfold FX4_fits_b52 at h
  refine bs_iload_n dX4_fits_52 rfl ?_
  refine bs_iload_n dX4_fits_53 rfl ?_
  refine bs_icmp_ge (tgt := 95) dX4_fits_54 (by decide) (fun c => ?_) (fun c => ?_)
  · replace h := fg_ip c h
    cases h
    refine bs_W.mk [(0, .ref (x + 30)), (1, .int l1), (2, .int l2)] (by intro q hq; simp only [List.mem_cons, List.not_mem_nil, or_false] at hq; rcases hq with rfl | rfl | rfl <;> rfl) (ke _ rfl)
  · replace h := fg_iN c h
    refine bs_aload_n dX4_fits_57 rfl ?_
    refine fg_getR (b := (x + 32)) dX4_fits_58 fX4_15 (HX.s 30 rfl rfl rfl) hR (HX.r 30 1 rfl rfl rfl) ?_
    refine bs_iload_n dX4_fits_61 rfl ?_
    refine bs_bipush (v := (nI 8)) dX4_fits_62 (by decide) ?_
    refine bs_imul dX4_fits_64 ?_
    refine bs_iload_n dX4_fits_65 rfl ?_
    refine bs_iadd dX4_fits_66 ?_
    obtain ⟨g9, h⟩ := fg_gdE h
    refine bs_iald dX4_fits_67 (HX.ss 32 rfl rfl) (fg_in_ix g9) ?_
    refine bs_aload_n dX4_fits_68 rfl ?_
    refine fg_getR (b := (x + 33)) dX4_fits_69 fX4_18 (HX.s 30 rfl rfl rfl) hR (HX.r 30 2 rfl rfl rfl) ?_
    refine bs_iload_n dX4_fits_72 rfl ?_
    refine bs_bipush (v := (nI 8)) dX4_fits_73 (by decide) ?_
    refine bs_imul dX4_fits_75 ?_
    refine bs_aload_n dX4_fits_76 rfl ?_
    refine fg_getR (b := (x + 31)) dX4_fits_77 fX4_11 (HX.s 30 rfl rfl rfl) hR (HX.r 30 0 rfl rfl rfl) ?_
    refine bs_iload_n dX4_fits_80 rfl ?_
    obtain ⟨g10, h⟩ := fg_gdE h
    refine bs_iald dX4_fits_81 (HX.ss 31 rfl rfl) (fg_in_ix g10) ?_
    refine bs_iadd dX4_fits_82 ?_
    obtain ⟨g11, h⟩ := fg_gdE h
    refine bs_iald dX4_fits_83 (HX.ss 33 rfl rfl) (fg_in_ix g11) ?_
    refine bs_icmp_eq (tgt := 89) dX4_fits_84 (by decide) (fun c => ?_) (fun c => ?_)
    · replace h := fg_ip c h
      refine fg_iinc (m := (nI 1)) dX4_fits_89 rfl rfl (by decide) ?_
      refine bs_goto (tgt := 52) dX4_fits_92 (by decide) ?_
      cases h
      refine bs_W.mk [(0, .ref (x + 30)), (1, .int l1), (2, .int l2), (3, .int (s + (nI 1)))] (by intro q hq; simp only [List.mem_cons, List.not_mem_nil, or_false] at hq; rcases hq with rfl | rfl | rfl | rfl <;> rfl) (ka _ rfl)
    · replace h := fg_iN c h
      refine bs_iconst (v := (nI 0)) dX4_fits_87 (by decide) ?_
      cases h
      exact bs_zret dX4_fits_88 rfl (Or.inl rfl) (Nat.zero_le _) (Nat.zero_le _) (kr _ rfl hR)
theorem wFX4_fits_l52 {nx : Nat} {sh : bs_Sh} {R : Nat → Nat → Option Nat} {x : Nat} (HX : fg_S (bs_tS x) R x sh) {b3 : Nat} (h_b3 : fg_F R sh b3) {b6 : Nat} (h_b6 : fg_F R sh b6) {mu : bs_Mm} {l1 : Int32} {l2 : Int32} {Ph : bs_Po} {t : (Unit) ⊕ (Int32)} : ∀ n (y0 : Int32), fg_lp (FX4_fits_b52 x b3 b6 mu l1 l2) n y0 = some t → fg_R R mu → (ke : ∀ s, t = .inl s → bs_W Ph mX4_fits (bs_rm 0 0 0) 95 (bs_mk [(0, .ref (x + 30)), (1, .int l1), (2, .int l2)]) [] 0 0 nx sh mu) → (kr : ∀ q, t = .inr q → fg_R R mu → Ph (some (.int q)) nx sh mu) → bs_W Ph mX4_fits (bs_rm 0 0 0) 52 (bs_mk [(0, .ref (x + 30)), (1, .int l1), (2, .int l2), (3, .int y0)]) [] 0 0 nx sh mu := by
  intro n
  induction n with
  | zero => intro y0 h; exact absurd h (fun z => fg_lp0 z)
  | succ n ih =>
    intro y0 h hR ke kr
    obtain ⟨r, hb, h1, h2⟩ := fg_lpE h
    exact wFX4_fits_b52 (s := y0) HX h_b3 h_b6 (fun s' e => ih s' (h1 s' e) hR ke kr) (fun s' e => ke s' (h2 _ e).symm) (fun q e => kr q (h2 _ e).symm) hR hb
noncomputable def FX4_fits (x : Nat) (mu : bs_Mm) (p1 : Int32) (p2 : Int32) : Option (Int32) :=
  fg_gd (fg_in ((p1 * (nI 8)) + p1) 64) (
  fg_gd (fg_in ((p2 * (nI 8)) + p2) 64) (
  if (bs_iv (mu (x + 32) ((p1 * (nI 8)) + p1).toNatClampNeg)) = (bs_iv (mu (x + 33) ((p2 * (nI 8)) + p2).toNatClampNeg)) then (
    fg_oq (bs_rv (mu (x + 30) 7)) none (fun b3 => fg_gd (fg_isF x b3) (
    fg_gd (fg_in p1 30) (
    fg_oq (bs_rv (mu (x + 30) 8)) none (fun b6 => fg_gd (fg_isF x b6) (
    fg_gd (fg_in p2 30) (
    if (bs_iv (mu (b3 + 6) p1.toNatClampNeg)) = (bs_iv (mu (b6 + 6) p2.toNatClampNeg)) then (
      fg_l3 (fg_lp (FX4_fits_b52 x b3 b6 mu p1 p2) fg_fu (nI 0)) (fun t12 => 
        some ((nI 1))
      ) (fun q14 => some q14)
    ) else (
      some ((nI 0))
    )))))))
  ) else (
    some ((nI 0))
  )))
set_option maxHeartbeats 4000000 in
theorem wX4_fits {nx : Nat} {sh : bs_Sh} {R : Nat → Nat → Option Nat} {x : Nat} (HX : fg_S (bs_tS x) R x sh) {mu : bs_Mm} (hR : fg_R R mu) {p1 : Int32} {p2 : Int32} {r : Int32} (h : FX4_fits x mu p1 p2 = some r) : bs_C mX4_fits (bs_rm 0 0 0) [.ref (x + 30), .int p1, .int p2] nx sh mu (fg_po R nx sh (some (.int r)) mu) := by
  refine bs_ct (by decide +kernel) (Nat.le_of_ble_eq_true rfl) ?_
  have kr : ∀ q, r = q → fg_R R mu → (fg_po R nx sh (some (.int r)) mu) (some (.int q)) nx sh mu := fun q e hq => by subst e; exact ⟨rfl, rfl, rfl, rfl, hq⟩
  unfold FX4_fits at h
  refine bs_aload_n dX4_fits_0 rfl ?_
  refine fg_getR (b := (x + 32)) dX4_fits_1 fX4_15 (HX.s 30 rfl rfl rfl) hR (HX.r 30 1 rfl rfl rfl) ?_
  refine bs_iload_n dX4_fits_4 rfl ?_
  refine bs_bipush (v := (nI 8)) dX4_fits_5 (by decide) ?_
  refine bs_imul dX4_fits_7 ?_
  refine bs_iload_n dX4_fits_8 rfl ?_
  refine bs_iadd dX4_fits_9 ?_
  obtain ⟨g1, h⟩ := fg_gdE h
  refine bs_iald dX4_fits_10 (HX.ss 32 rfl rfl) (fg_in_ix g1) ?_
  refine bs_aload_n dX4_fits_11 rfl ?_
  refine fg_getR (b := (x + 33)) dX4_fits_12 fX4_18 (HX.s 30 rfl rfl rfl) hR (HX.r 30 2 rfl rfl rfl) ?_
  refine bs_iload_n dX4_fits_15 rfl ?_
  refine bs_bipush (v := (nI 8)) dX4_fits_16 (by decide) ?_
  refine bs_imul dX4_fits_18 ?_
  refine bs_iload_n dX4_fits_19 rfl ?_
  refine bs_iadd dX4_fits_20 ?_
  obtain ⟨g2, h⟩ := fg_gdE h
  refine bs_iald dX4_fits_21 (HX.ss 33 rfl rfl) (fg_in_ix g2) ?_
  refine bs_icmp_eq (tgt := 27) dX4_fits_22 (by decide) (fun c => ?_) (fun c => ?_)
  · replace h := fg_ip c h
    refine bs_aload_n dX4_fits_27 rfl ?_
    refine fg_getQ dX4_fits_28 fX4_33 (HX.s 30 rfl rfl rfl) ?_
    obtain ⟨b3, e_b3, h⟩ := fg_oqE h
    obtain ⟨g4, h⟩ := fg_gdE h
    have h_b3 := fg_isF_F HX g4
    rw [e_b3]
    refine fg_getR (b := (b3 + 6)) dX4_fits_31 fX4_95 (h_b3.s0) hR (h_b3.r5) ?_
    refine bs_iload_n dX4_fits_34 rfl ?_
    obtain ⟨g5, h⟩ := fg_gdE h
    refine bs_iald dX4_fits_35 (h_b3.s6) (fg_in_ix g5) ?_
    refine bs_aload_n dX4_fits_36 rfl ?_
    refine fg_getQ dX4_fits_37 fX4_37 (HX.s 30 rfl rfl rfl) ?_
    obtain ⟨b6, e_b6, h⟩ := fg_oqE h
    obtain ⟨g7, h⟩ := fg_gdE h
    have h_b6 := fg_isF_F HX g7
    rw [e_b6]
    refine fg_getR (b := (b6 + 6)) dX4_fits_40 fX4_95 (h_b6.s0) hR (h_b6.r5) ?_
    refine bs_iload_n dX4_fits_43 rfl ?_
    obtain ⟨g8, h⟩ := fg_gdE h
    refine bs_iald dX4_fits_44 (h_b6.s6) (fg_in_ix g8) ?_
    refine bs_icmp_eq (tgt := 50) dX4_fits_45 (by decide) (fun c => ?_) (fun c => ?_)
    · replace h := fg_ip c h
      refine bs_iconst (v := (nI 0)) dX4_fits_50 (by decide) ?_
      refine bs_istore_n dX4_fits_51 rfl (by decide) ?_
      obtain ⟨t120, k13, h1, h2⟩ := fg_l3E h
      refine bs_W.mk [(0, .ref (x + 30)), (1, .int p1), (2, .int p2), (3, .int (nI 0))] (by intro q hq; simp only [List.mem_cons, List.not_mem_nil, or_false] at hq; rcases hq with rfl | rfl | rfl | rfl <;> rfl) ?_
      refine wFX4_fits_l52 HX h_b3 h_b6 _ _ k13 hR ?_ ?_
      · intro t12 e
        replace h := h1 t12 e
        refine bs_iconst (v := (nI 1)) dX4_fits_95 (by decide) ?_
        cases h
        exact bs_zret dX4_fits_96 rfl (Or.inr rfl) (Nat.zero_le _) (Nat.zero_le _) (kr _ rfl hR)
      · intro q14 e hR
        replace h := h2 q14 e
        cases h
        exact kr _ rfl hR
    · replace h := fg_iN c h
      refine bs_iconst (v := (nI 0)) dX4_fits_48 (by decide) ?_
      cases h
      exact bs_zret dX4_fits_49 rfl (Or.inl rfl) (Nat.zero_le _) (Nat.zero_le _) (kr _ rfl hR)
  · replace h := fg_iN c h
    refine bs_iconst (v := (nI 0)) dX4_fits_25 (by decide) ?_
    cases h
    exact bs_zret dX4_fits_26 rfl (Or.inl rfl) (Nat.zero_le _) (Nat.zero_le _) (kr _ rfl hR)
noncomputable def FX4_nextFitting_b3 (x : Nat) (mu : bs_Mm) (l1 : Int32) (l2 : Int32) (l3 : Int32) (s : Int32) : Option ((Int32) ⊕ ((Unit) ⊕ (Int32))) :=
  if (bs_iv (mu (x + 30) 6)) ≤ s then (
    some (.inr (.inl ()))
  ) else (
    if (l3 &&& ((nI 1) <<< (s &&& 31))) = 0 then (
      fg_bd (FX4_fits x mu l1 s) (fun v2 => 
      if v2 = 0 then (
        some (.inl (s + (nI 1)))
      ) else (
        some (.inr (.inr (s)))
      ))
    ) else (
      some (.inl (s + (nI 1)))
    )
  )
set_option maxHeartbeats 4000000 in
theorem wFX4_nextFitting_b3 {nx : Nat} {sh : bs_Sh} {R : Nat → Nat → Option Nat} {x : Nat} (HX : fg_S (bs_tS x) R x sh) {mu : bs_Mm} {l1 : Int32} {l2 : Int32} {l3 : Int32} {Ph : bs_Po} {s : Int32} {r : (Int32) ⊕ ((Unit) ⊕ (Int32))} (ka : ∀ s, r = .inl s → bs_W Ph mX4_nextFitting (bs_rm 1 0 0) 3 (bs_mk [(0, .ref (x + 30)), (1, .int l1), (2, .int l2), (3, .int l3), (4, .int s)]) [] 0 0 nx sh mu) (ke : ∀ s, r = .inr (.inl s) → bs_W Ph mX4_nextFitting (bs_rm 1 0 0) 40 (bs_mk [(0, .ref (x + 30)), (1, .int l1), (2, .int l2), (3, .int l3)]) [] 0 0 nx sh mu) (kr : ∀ q, r = .inr (.inr q) → fg_R R mu → Ph (some (.int q)) nx sh mu) (hR : fg_R R mu) (h : FX4_nextFitting_b3 x mu l1 l2 l3 s = some r) : bs_W Ph mX4_nextFitting (bs_rm 1 0 0) 3 (bs_mk [(0, .ref (x + 30)), (1, .int l1), (2, .int l2), (3, .int l3), (4, .int s)]) [] 0 0 nx sh mu := by
  unfold FX4_nextFitting_b3 at h
  refine bs_iload dX4_nextFitting_3 rfl ?_
  refine bs_aload_n dX4_nextFitting_5 rfl ?_
  refine bs_getI dX4_nextFitting_6 fX4_51 (HX.s 30 rfl rfl rfl) ?_
  refine bs_icmp_ge (tgt := 40) dX4_nextFitting_9 (by decide) (fun c => ?_) (fun c => ?_)
  · replace h := fg_ip c h
    cases h
    refine bs_W.mk [(0, .ref (x + 30)), (1, .int l1), (2, .int l2), (3, .int l3)] (by intro q hq; simp only [List.mem_cons, List.not_mem_nil, or_false] at hq; rcases hq with rfl | rfl | rfl | rfl <;> rfl) (ke _ rfl)
  · replace h := fg_iN c h
    refine bs_iload_n dX4_nextFitting_12 rfl ?_
    refine bs_iconst (v := (nI 1)) dX4_nextFitting_13 (by decide) ?_
    refine bs_iload dX4_nextFitting_14 rfl ?_
    refine bs_ishl dX4_nextFitting_16 ?_
    refine bs_iand dX4_nextFitting_17 ?_
    refine bs_if_ne (tgt := 34) dX4_nextFitting_18 (by decide) (fun c => ?_) (fun c => ?_)
    · replace h := fg_iN c h
      refine fg_iinc (m := (nI 1)) dX4_nextFitting_34 rfl rfl (by decide) ?_
      refine bs_goto (tgt := 3) dX4_nextFitting_37 (by decide) ?_
      cases h
      refine bs_W.mk [(0, .ref (x + 30)), (1, .int l1), (2, .int l2), (3, .int l3), (4, .int (s + (nI 1)))] (by intro q hq; simp only [List.mem_cons, List.not_mem_nil, or_false] at hq; rcases hq with rfl | rfl | rfl | rfl | rfl <;> rfl) (ka _ rfl)
    · replace h := fg_ip c h
      refine bs_aload_n dX4_nextFitting_21 rfl ?_
      refine bs_iload_n dX4_nextFitting_22 rfl ?_
      refine bs_iload dX4_nextFitting_23 rfl ?_
      obtain ⟨v2, k1, h⟩ := fg_bdE h
      refine fg_callV dX4_nextFitting_25 qX4_91 (wX4_fits HX hR k1) rfl (HX.s 30 rfl rfl rfl) rfl (Nat.le_of_ble_eq_true rfl) (fg_cr (by first | decide | omega) (by decide)) (fun hR => ?_)
      refine bs_if_eq (tgt := 34) dX4_nextFitting_28 (by decide) (fun c => ?_) (fun c => ?_)
      · replace h := fg_ip c h
        refine fg_iinc (m := (nI 1)) dX4_nextFitting_34 rfl rfl (by decide) ?_
        refine bs_goto (tgt := 3) dX4_nextFitting_37 (by decide) ?_
        cases h
        refine bs_W.mk [(0, .ref (x + 30)), (1, .int l1), (2, .int l2), (3, .int l3), (4, .int (s + (nI 1)))] (by intro q hq; simp only [List.mem_cons, List.not_mem_nil, or_false] at hq; rcases hq with rfl | rfl | rfl | rfl | rfl <;> rfl) (ka _ rfl)
      · replace h := fg_iN c h
        refine bs_iload dX4_nextFitting_31 rfl ?_
        cases h
        exact bs_iret dX4_nextFitting_33 rfl (Nat.zero_le _) (Nat.zero_le _) (kr _ rfl hR)
theorem wFX4_nextFitting_l3 {nx : Nat} {sh : bs_Sh} {R : Nat → Nat → Option Nat} {x : Nat} (HX : fg_S (bs_tS x) R x sh) {mu : bs_Mm} {l1 : Int32} {l2 : Int32} {l3 : Int32} {Ph : bs_Po} {t : (Unit) ⊕ (Int32)} : ∀ n (y0 : Int32), fg_lp (FX4_nextFitting_b3 x mu l1 l2 l3) n y0 = some t → fg_R R mu → (ke : ∀ s, t = .inl s → bs_W Ph mX4_nextFitting (bs_rm 1 0 0) 40 (bs_mk [(0, .ref (x + 30)), (1, .int l1), (2, .int l2), (3, .int l3)]) [] 0 0 nx sh mu) → (kr : ∀ q, t = .inr q → fg_R R mu → Ph (some (.int q)) nx sh mu) → bs_W Ph mX4_nextFitting (bs_rm 1 0 0) 3 (bs_mk [(0, .ref (x + 30)), (1, .int l1), (2, .int l2), (3, .int l3), (4, .int y0)]) [] 0 0 nx sh mu := by
  intro n
  induction n with
  | zero => intro y0 h; exact absurd h (fun z => fg_lp0 z)
  | succ n ih =>
    intro y0 h hR ke kr
    obtain ⟨r, hb, h1, h2⟩ := fg_lpE h
    exact wFX4_nextFitting_b3 (s := y0) HX (fun s' e => ih s' (h1 s' e) hR ke kr) (fun s' e => ke s' (h2 _ e).symm) (fun q e => kr q (h2 _ e).symm) hR hb
noncomputable def FX4_nextFitting (x : Nat) (mu : bs_Mm) (p1 : Int32) (p2 : Int32) (p3 : Int32) : Option (Int32) :=
  fg_l3 (fg_lp (FX4_nextFitting_b3 x mu p1 p2 p3) fg_fu p2) (fun t3 => 
    some ((-1))
  ) (fun q5 => some q5)
set_option maxHeartbeats 4000000 in
theorem wX4_nextFitting {nx : Nat} {sh : bs_Sh} {R : Nat → Nat → Option Nat} {x : Nat} (HX : fg_S (bs_tS x) R x sh) {mu : bs_Mm} (hR : fg_R R mu) {p1 : Int32} {p2 : Int32} {p3 : Int32} {r : Int32} (h : FX4_nextFitting x mu p1 p2 p3 = some r) : bs_C mX4_nextFitting (bs_rm 1 0 0) [.ref (x + 30), .int p1, .int p2, .int p3] nx sh mu (fg_po R nx sh (some (.int r)) mu) := by
  refine bs_ct (by decide +kernel) (Nat.le_of_ble_eq_true rfl) ?_
  have kr : ∀ q, r = q → fg_R R mu → (fg_po R nx sh (some (.int r)) mu) (some (.int q)) nx sh mu := fun q e hq => by subst e; exact ⟨rfl, rfl, rfl, rfl, hq⟩
  unfold FX4_nextFitting at h
  refine bs_iload_n dX4_nextFitting_0 rfl ?_
  refine bs_istore dX4_nextFitting_1 rfl (by decide) ?_
  obtain ⟨t30, k4, h1, h2⟩ := fg_l3E h
  refine bs_W.mk [(0, .ref (x + 30)), (1, .int p1), (2, .int p2), (3, .int p3), (4, .int p2)] (by intro q hq; simp only [List.mem_cons, List.not_mem_nil, or_false] at hq; rcases hq with rfl | rfl | rfl | rfl | rfl <;> rfl) ?_
  refine wFX4_nextFitting_l3 HX _ _ k4 hR ?_ ?_
  · intro t3 e
    replace h := h1 t3 e
    refine bs_iconst (v := (-1)) dX4_nextFitting_40 (by decide) ?_
    cases h
    exact bs_iret dX4_nextFitting_41 rfl (Nat.zero_le _) (Nat.zero_le _) (kr _ rfl hR)
  · intro q5 e hR
    replace h := h2 q5 e
    cases h
    exact kr _ rfl hR
noncomputable def FX4_searchRow_j54_L13 (x : Nat) (mu : bs_Mm) (l1 : Int32) (l2 : Int32) (l3 : Int32) : Option ((Int32 × Int32 × Int32 × bs_Mm) ⊕ (Int32 × bs_Mm)) :=
  fg_gd (fg_in l1 8) (
  fg_bd (FX4_nextFitting x mu l1 ((bs_iv (mu (x + 31) l1.toNatClampNeg)) + (nI 1)) l2) (fun v6 => 
  fg_gd (fg_in l1 8) (
  fg_wr mu (x + 31) l1.toNatClampNeg (.int v6) (fun mu8 => 
  fg_gd (fg_in l1 8) (
  if (bs_iv (mu8 (x + 31) l1.toNatClampNeg)) = (-1) then (
    some (.inl ((l1 + (-1)), l2, (l3 + (nI 1)), mu8))
  ) else (
    fg_gd (fg_in l1 8) (
    if (bs_iv (mu8 (x + 30) 6)) ≤ (l1 + (nI 1)) then (
      some (.inl ((l1 + (nI 1)), (l2 ||| ((nI 1) <<< ((bs_iv (mu8 (x + 31) l1.toNatClampNeg)) &&& 31))), (l3 + (nI 1)), mu8))
    ) else (
      fg_gd (fg_in (l1 + (nI 1)) 8) (
      fg_wr mu8 (x + 31) (l1 + (nI 1)).toNatClampNeg (.int (-1)) (fun mu12 => 
      some (.inl ((l1 + (nI 1)), (l2 ||| ((nI 1) <<< ((bs_iv (mu8 (x + 31) l1.toNatClampNeg)) &&& 31))), (l3 + (nI 1)), mu12))))
    ))
  ))))))
set_option maxHeartbeats 4000000 in
theorem wFX4_searchRow_j54_L13 {nx : Nat} {sh : bs_Sh} {R : Nat → Nat → Option Nat} {x : Nat} (HX : fg_S (bs_tS x) R x sh) {mu : bs_Mm} {l1 : Int32} {l2 : Int32} {l3 : Int32} {Ph : bs_Po} {r : (Int32 × Int32 × Int32 × bs_Mm) ⊕ (Int32 × bs_Mm)} (ka : ∀ s, r = .inl s → fg_R R s.2.2.2 → bs_W Ph mX4_searchRow (bs_rm 2 0 0) 13 (bs_mk [(0, .ref (x + 30)), (1, .int s.1), (2, .int s.2.1), (3, .int s.2.2.1)]) [] 0 0 nx sh s.2.2.2) (ke : ∀ s, r = .inr s → fg_R R s.2 → bs_W Ph mX4_searchRow (bs_rm 2 0 0) 125 (bs_mk [(0, .ref (x + 30)), (1, .int s.1)]) [] 0 0 nx sh s.2) (hR : fg_R R mu) (h : FX4_searchRow_j54_L13 x mu l1 l2 l3 = some r) : bs_W Ph mX4_searchRow (bs_rm 2 0 0) 54 (bs_mk [(0, .ref (x + 30)), (1, .int l1), (2, .int l2), (3, .int l3)]) [] 0 0 nx sh mu := by
  unfold FX4_searchRow_j54_L13 at h
  refine bs_aload_n dX4_searchRow_54 rfl ?_
  refine fg_getR (b := (x + 31)) dX4_searchRow_55 fX4_11 (HX.s 30 rfl rfl rfl) hR (HX.r 30 0 rfl rfl rfl) ?_
  refine bs_iload_n dX4_searchRow_58 rfl ?_
  refine bs_aload_n dX4_searchRow_59 rfl ?_
  refine bs_iload_n dX4_searchRow_60 rfl ?_
  refine bs_aload_n dX4_searchRow_61 rfl ?_
  refine fg_getR (b := (x + 31)) dX4_searchRow_62 fX4_11 (HX.s 30 rfl rfl rfl) hR (HX.r 30 0 rfl rfl rfl) ?_
  refine bs_iload_n dX4_searchRow_65 rfl ?_
  obtain ⟨g4, h⟩ := fg_gdE h
  refine bs_iald dX4_searchRow_66 (HX.ss 31 rfl rfl) (fg_in_ix g4) ?_
  refine bs_iconst (v := (nI 1)) dX4_searchRow_67 (by decide) ?_
  refine bs_iadd dX4_searchRow_68 ?_
  refine bs_iload_n dX4_searchRow_69 rfl ?_
  obtain ⟨v6, k5, h⟩ := fg_bdE h
  refine fg_callV dX4_searchRow_70 qX4_87 (wX4_nextFitting HX hR k5) rfl (HX.s 30 rfl rfl rfl) rfl (Nat.le_of_ble_eq_true rfl) (fg_cr (by first | decide | omega) (by decide)) (fun hR => ?_)
  obtain ⟨g7, h⟩ := fg_gdE h
  refine fg_iast dX4_searchRow_73 (HX.ss 31 rfl rfl) (fun j => HX.n 31 j rfl rfl rfl) g7 hR h (fun mu8 hR h => ?_)
  refine bs_aload_n dX4_searchRow_74 rfl ?_
  refine fg_getR (b := (x + 31)) dX4_searchRow_75 fX4_11 (HX.s 30 rfl rfl rfl) hR (HX.r 30 0 rfl rfl rfl) ?_
  refine bs_iload_n dX4_searchRow_78 rfl ?_
  obtain ⟨g9, h⟩ := fg_gdE h
  refine bs_iald dX4_searchRow_79 (HX.ss 31 rfl rfl) (fg_in_ix g9) ?_
  refine bs_iconst (v := (-1)) dX4_searchRow_80 (by decide) ?_
  refine bs_icmp_ne (tgt := 90) dX4_searchRow_81 (by decide) (fun c => ?_) (fun c => ?_)
  · replace h := fg_iN c h
    refine bs_iload_n dX4_searchRow_90 rfl ?_
    refine bs_iconst (v := (nI 1)) dX4_searchRow_91 (by decide) ?_
    refine bs_aload_n dX4_searchRow_92 rfl ?_
    refine fg_getR (b := (x + 31)) dX4_searchRow_93 fX4_11 (HX.s 30 rfl rfl rfl) hR (HX.r 30 0 rfl rfl rfl) ?_
    refine bs_iload_n dX4_searchRow_96 rfl ?_
    obtain ⟨g10, h⟩ := fg_gdE h
    refine bs_iald dX4_searchRow_97 (HX.ss 31 rfl rfl) (fg_in_ix g10) ?_
    refine bs_ishl dX4_searchRow_98 ?_
    refine bs_ior dX4_searchRow_99 ?_
    refine bs_istore_n dX4_searchRow_100 rfl (by decide) ?_
    refine fg_iinc (m := (nI 1)) dX4_searchRow_101 rfl rfl (by decide) ?_
    refine bs_iload_n dX4_searchRow_104 rfl ?_
    refine bs_aload_n dX4_searchRow_105 rfl ?_
    refine bs_getI dX4_searchRow_106 fX4_51 (HX.s 30 rfl rfl rfl) ?_
    refine bs_icmp_ge (tgt := 119) dX4_searchRow_109 (by decide) (fun c => ?_) (fun c => ?_)
    · replace h := fg_ip c h
      refine fg_iinc (m := (nI 1)) dX4_searchRow_119 rfl rfl (by decide) ?_
      refine bs_goto (tgt := 13) dX4_searchRow_122 (by decide) ?_
      cases h
      refine bs_W.mk [(0, .ref (x + 30)), (1, .int (l1 + (nI 1))), (2, .int (l2 ||| ((nI 1) <<< ((bs_iv (mu8 (x + 31) l1.toNatClampNeg)) &&& 31)))), (3, .int (l3 + (nI 1)))] (by intro q hq; simp only [List.mem_cons, List.not_mem_nil, or_false] at hq; rcases hq with rfl | rfl | rfl | rfl <;> rfl) (by have k := ka _ rfl hR; dsimp only at k; exact k)
    · replace h := fg_iN c h
      refine bs_aload_n dX4_searchRow_112 rfl ?_
      refine fg_getR (b := (x + 31)) dX4_searchRow_113 fX4_11 (HX.s 30 rfl rfl rfl) hR (HX.r 30 0 rfl rfl rfl) ?_
      refine bs_iload_n dX4_searchRow_116 rfl ?_
      refine bs_iconst (v := (-1)) dX4_searchRow_117 (by decide) ?_
      obtain ⟨g11, h⟩ := fg_gdE h
      refine fg_iast dX4_searchRow_118 (HX.ss 31 rfl rfl) (fun j => HX.n 31 j rfl rfl rfl) g11 hR h (fun mu12 hR h => ?_)
      refine fg_iinc (m := (nI 1)) dX4_searchRow_119 rfl rfl (by decide) ?_
      refine bs_goto (tgt := 13) dX4_searchRow_122 (by decide) ?_
      cases h
      refine bs_W.mk [(0, .ref (x + 30)), (1, .int (l1 + (nI 1))), (2, .int (l2 ||| ((nI 1) <<< ((bs_iv (mu8 (x + 31) l1.toNatClampNeg)) &&& 31)))), (3, .int (l3 + (nI 1)))] (by intro q hq; simp only [List.mem_cons, List.not_mem_nil, or_false] at hq; rcases hq with rfl | rfl | rfl | rfl <;> rfl) (by have k := ka _ rfl hR; dsimp only at k; exact k)
  · replace h := fg_ip c h
    refine fg_iinc (m := (-1)) dX4_searchRow_84 rfl rfl (by decide) ?_
    refine bs_goto (tgt := 119) dX4_searchRow_87 (by decide) ?_
    refine fg_iinc (m := (nI 1)) dX4_searchRow_119 rfl rfl (by decide) ?_
    refine bs_goto (tgt := 13) dX4_searchRow_122 (by decide) ?_
    cases h
    refine bs_W.mk [(0, .ref (x + 30)), (1, .int (l1 + (-1))), (2, .int l2), (3, .int (l3 + (nI 1)))] (by intro q hq; simp only [List.mem_cons, List.not_mem_nil, or_false] at hq; rcases hq with rfl | rfl | rfl | rfl <;> rfl) (by have k := ka _ rfl hR; dsimp only at k; exact k)
noncomputable def FX4_searchRow_b13 (x : Nat)  (s : Int32 × Int32 × Int32 × bs_Mm) : Option ((Int32 × Int32 × Int32 × bs_Mm) ⊕ (Int32 × bs_Mm)) :=
  if (1000000 : Int32) ≤ s.2.2.1 then (
    some (.inr (s.1, s.2.2.2))
  ) else (
    if s.1 < 0 then (
      some (.inr (s.1, s.2.2.2))
    ) else (
      if (bs_iv (s.2.2.2 (x + 30) 6)) ≤ s.1 then (
        some (.inr (s.1, s.2.2.2))
      ) else (
        fg_gd (fg_in s.1 8) (
        if (bs_iv (s.2.2.2 (x + 31) s.1.toNatClampNeg)) = (-1) then (
          FX4_searchRow_j54_L13 x s.2.2.2 s.1 s.2.1 s.2.2.1
        ) else (
          fg_gd (fg_in s.1 8) (
          FX4_searchRow_j54_L13 x s.2.2.2 s.1 (s.2.1 &&& (((nI 1) <<< ((bs_iv (s.2.2.2 (x + 31) s.1.toNatClampNeg)) &&& 31)) ^^^ (-1))) s.2.2.1)
        ))
      )
    )
  )
set_option maxHeartbeats 4000000 in
theorem wFX4_searchRow_b13 {nx : Nat} {sh : bs_Sh} {R : Nat → Nat → Option Nat} {x : Nat} (HX : fg_S (bs_tS x) R x sh) {Ph : bs_Po} {s : Int32 × Int32 × Int32 × bs_Mm} {r : (Int32 × Int32 × Int32 × bs_Mm) ⊕ (Int32 × bs_Mm)} (ka : ∀ s, r = .inl s → fg_R R s.2.2.2 → bs_W Ph mX4_searchRow (bs_rm 2 0 0) 13 (bs_mk [(0, .ref (x + 30)), (1, .int s.1), (2, .int s.2.1), (3, .int s.2.2.1)]) [] 0 0 nx sh s.2.2.2) (ke : ∀ s, r = .inr s → fg_R R s.2 → bs_W Ph mX4_searchRow (bs_rm 2 0 0) 125 (bs_mk [(0, .ref (x + 30)), (1, .int s.1)]) [] 0 0 nx sh s.2) (hR : fg_R R s.2.2.2) (h : FX4_searchRow_b13 x s = some r) : bs_W Ph mX4_searchRow (bs_rm 2 0 0) 13 (bs_mk [(0, .ref (x + 30)), (1, .int s.1), (2, .int s.2.1), (3, .int s.2.2.1)]) [] 0 0 nx sh s.2.2.2 := by
  unfold FX4_searchRow_b13 at h
  refine bs_iload_n dX4_searchRow_13 rfl ?_
  refine bs_ldc (v := (1000000)) dX4_searchRow_14 cX4_86 ?_
  refine bs_icmp_ge (tgt := 125) dX4_searchRow_16 (by decide) (fun c => ?_) (fun c => ?_)
  · replace h := fg_ip c h
    cases h
    refine bs_W.mk [(0, .ref (x + 30)), (1, .int s.1)] (by intro q hq; simp only [List.mem_cons, List.not_mem_nil, or_false] at hq; rcases hq with rfl | rfl <;> rfl) (ke _ rfl hR)
  · replace h := fg_iN c h
    refine bs_iload_n dX4_searchRow_19 rfl ?_
    refine bs_if_lt (tgt := 125) dX4_searchRow_20 (by decide) (fun c => ?_) (fun c => ?_)
    · replace h := fg_ip c h
      cases h
      refine bs_W.mk [(0, .ref (x + 30)), (1, .int s.1)] (by intro q hq; simp only [List.mem_cons, List.not_mem_nil, or_false] at hq; rcases hq with rfl | rfl <;> rfl) (ke _ rfl hR)
    · replace h := fg_iN c h
      refine bs_iload_n dX4_searchRow_23 rfl ?_
      refine bs_aload_n dX4_searchRow_24 rfl ?_
      refine bs_getI dX4_searchRow_25 fX4_51 (HX.s 30 rfl rfl rfl) ?_
      refine bs_icmp_ge (tgt := 125) dX4_searchRow_28 (by decide) (fun c => ?_) (fun c => ?_)
      · replace h := fg_ip c h
        cases h
        refine bs_W.mk [(0, .ref (x + 30)), (1, .int s.1)] (by intro q hq; simp only [List.mem_cons, List.not_mem_nil, or_false] at hq; rcases hq with rfl | rfl <;> rfl) (ke _ rfl hR)
      · replace h := fg_iN c h
        refine bs_aload_n dX4_searchRow_31 rfl ?_
        refine fg_getR (b := (x + 31)) dX4_searchRow_32 fX4_11 (HX.s 30 rfl rfl rfl) hR (HX.r 30 0 rfl rfl rfl) ?_
        refine bs_iload_n dX4_searchRow_35 rfl ?_
        obtain ⟨g3, h⟩ := fg_gdE h
        refine bs_iald dX4_searchRow_36 (HX.ss 31 rfl rfl) (fg_in_ix g3) ?_
        refine bs_iconst (v := (-1)) dX4_searchRow_37 (by decide) ?_
        refine bs_icmp_eq (tgt := 54) dX4_searchRow_38 (by decide) (fun c => ?_) (fun c => ?_)
        · replace h := fg_ip c h
          refine bs_W.mk [(0, .ref (x + 30)), (1, .int s.1), (2, .int s.2.1), (3, .int s.2.2.1)] (by intro q hq; simp only [List.mem_cons, List.not_mem_nil, or_false] at hq; rcases hq with rfl | rfl | rfl | rfl <;> rfl) ?_
          exact wFX4_searchRow_j54_L13 HX ka ke hR h
        · replace h := fg_iN c h
          refine bs_iload_n dX4_searchRow_41 rfl ?_
          refine bs_iconst (v := (nI 1)) dX4_searchRow_42 (by decide) ?_
          refine bs_aload_n dX4_searchRow_43 rfl ?_
          refine fg_getR (b := (x + 31)) dX4_searchRow_44 fX4_11 (HX.s 30 rfl rfl rfl) hR (HX.r 30 0 rfl rfl rfl) ?_
          refine bs_iload_n dX4_searchRow_47 rfl ?_
          obtain ⟨g13, h⟩ := fg_gdE h
          refine bs_iald dX4_searchRow_48 (HX.ss 31 rfl rfl) (fg_in_ix g13) ?_
          refine bs_ishl dX4_searchRow_49 ?_
          refine bs_iconst (v := (-1)) dX4_searchRow_50 (by decide) ?_
          refine bs_ixor dX4_searchRow_51 ?_
          refine bs_iand dX4_searchRow_52 ?_
          refine bs_istore_n dX4_searchRow_53 rfl (by decide) ?_
          refine bs_W.mk [(0, .ref (x + 30)), (1, .int s.1), (2, .int (s.2.1 &&& (((nI 1) <<< ((bs_iv (s.2.2.2 (x + 31) s.1.toNatClampNeg)) &&& 31)) ^^^ (-1)))), (3, .int s.2.2.1)] (by intro q hq; simp only [List.mem_cons, List.not_mem_nil, or_false] at hq; rcases hq with rfl | rfl | rfl | rfl <;> rfl) ?_
          exact wFX4_searchRow_j54_L13 HX ka ke hR h
theorem wFX4_searchRow_l13 {nx : Nat} {sh : bs_Sh} {R : Nat → Nat → Option Nat} {x : Nat} (HX : fg_S (bs_tS x) R x sh) {Ph : bs_Po} {t : Int32 × bs_Mm} : ∀ n (y0 : Int32) (y1 : Int32) (y2 : Int32) (mu1 : bs_Mm), fg_lp (FX4_searchRow_b13 x) n (y0, y1, y2, mu1) = some t → fg_R R mu1 → (ke : ∀ s, t = s → fg_R R s.2 → bs_W Ph mX4_searchRow (bs_rm 2 0 0) 125 (bs_mk [(0, .ref (x + 30)), (1, .int s.1)]) [] 0 0 nx sh s.2) → bs_W Ph mX4_searchRow (bs_rm 2 0 0) 13 (bs_mk [(0, .ref (x + 30)), (1, .int y0), (2, .int y1), (3, .int y2)]) [] 0 0 nx sh mu1 := by
  intro n
  induction n with
  | zero => intro y0 y1 y2 mu1 h; exact absurd h (fun z => fg_lp0 z)
  | succ n ih =>
    intro y0 y1 y2 mu1 h hR ke
    obtain ⟨r, hb, h1, h2⟩ := fg_lpE h
    exact wFX4_searchRow_b13 (s := (y0, y1, y2, mu1)) HX (fun s' e hR' => ih s'.1 s'.2.1 s'.2.2.1 s'.2.2.2 (h1 s' e) hR' ke) (fun s' e => ke s' (h2 _ e).symm) hR hb
noncomputable def FX4_searchRow (x : Nat) (mu : bs_Mm) : Option (Int32 × bs_Mm) :=
  fg_gd (fg_in (nI 0) 8) (
  fg_wr mu (x + 31) (nI 0).toNatClampNeg (.int (-1)) (fun mu2 => 
  fg_bd (fg_lp (FX4_searchRow_b13 x) fg_fu ((nI 0), (nI 0), (nI 0), mu2)) (fun t14 => 
    if t14.1 = (bs_iv (t14.2 (x + 30) 6)) then (
      some ((nI 1), t14.2)
    ) else (
      some ((nI 0), t14.2)
    )
  )))
set_option maxHeartbeats 4000000 in
theorem wX4_searchRow {nx : Nat} {sh : bs_Sh} {R : Nat → Nat → Option Nat} {x : Nat} (HX : fg_S (bs_tS x) R x sh) {mu : bs_Mm} (hR : fg_R R mu) {r : Int32 × bs_Mm} (h : FX4_searchRow x mu = some r) : bs_C mX4_searchRow (bs_rm 2 0 0) [.ref (x + 30)] nx sh mu (fg_po R nx sh (some (.int r.1)) r.2) := by
  refine bs_ct (by decide +kernel) (Nat.le_of_ble_eq_true rfl) ?_
  have kr : ∀ q, r = q → fg_R R q.2 → (fg_po R nx sh (some (.int r.1)) r.2) (some (.int q.1)) nx sh q.2 := fun q e hq => by subst e; exact ⟨rfl, rfl, rfl, rfl, hq⟩
  unfold FX4_searchRow at h
  refine bs_iconst (v := (nI 0)) dX4_searchRow_0 (by decide) ?_
  refine bs_istore_n dX4_searchRow_1 rfl (by decide) ?_
  refine bs_iconst (v := (nI 0)) dX4_searchRow_2 (by decide) ?_
  refine bs_istore_n dX4_searchRow_3 rfl (by decide) ?_
  refine bs_aload_n dX4_searchRow_4 rfl ?_
  refine fg_getR (b := (x + 31)) dX4_searchRow_5 fX4_11 (HX.s 30 rfl rfl rfl) hR (HX.r 30 0 rfl rfl rfl) ?_
  refine bs_iconst (v := (nI 0)) dX4_searchRow_8 (by decide) ?_
  refine bs_iconst (v := (-1)) dX4_searchRow_9 (by decide) ?_
  obtain ⟨g1, h⟩ := fg_gdE h
  refine fg_iast dX4_searchRow_10 (HX.ss 31 rfl rfl) (fun j => HX.n 31 j rfl rfl rfl) g1 hR h (fun mu2 hR h => ?_)
  refine bs_iconst (v := (nI 0)) dX4_searchRow_11 (by decide) ?_
  refine bs_istore_n dX4_searchRow_12 rfl (by decide) ?_
  obtain ⟨t14, k15, h⟩ := fg_bdE h
  refine bs_W.mk [(0, .ref (x + 30)), (1, .int (nI 0)), (2, .int (nI 0)), (3, .int (nI 0))] (by intro q hq; simp only [List.mem_cons, List.not_mem_nil, or_false] at hq; rcases hq with rfl | rfl | rfl | rfl <;> rfl) ?_
  refine wFX4_searchRow_l13 HX _ _ _ _ _ k15 hR ?_
  intro s e hR
  subst e
  refine bs_iload_n dX4_searchRow_125 rfl ?_
  refine bs_aload_n dX4_searchRow_126 rfl ?_
  refine bs_getI dX4_searchRow_127 fX4_51 (HX.s 30 rfl rfl rfl) ?_
  refine bs_icmp_ne (tgt := 137) dX4_searchRow_130 (by decide) (fun c => ?_) (fun c => ?_)
  · replace h := fg_iN c h
    refine bs_iconst (v := (nI 0)) dX4_searchRow_137 (by decide) ?_
    cases h
    exact bs_zret dX4_searchRow_138 rfl (Or.inl rfl) (Nat.zero_le _) (Nat.zero_le _) (kr _ rfl hR)
  · replace h := fg_ip c h
    refine bs_iconst (v := (nI 1)) dX4_searchRow_133 (by decide) ?_
    refine bs_goto (tgt := 138) dX4_searchRow_134 (by decide) ?_
    cases h
    exact bs_zret dX4_searchRow_138 rfl (Or.inr rfl) (Nat.zero_le _) (Nat.zero_le _) (kr _ rfl hR)
noncomputable def FX4_findRow (x : Nat) (mu : bs_Mm) (p1 : Nat) (p2 : Nat) : Option (Int32 × bs_Mm) :=
  fg_wr mu (x + 30) 6 (.int (bs_iv (mu p1 8))) (fun mu1 => 
  fg_wr mu1 (x + 30) 5 (.int (nI 0)) (fun mu2 => 
  fg_bd (FX4_tellKinds x mu2 p1 (x + 32)) (fun mu4 => 
  fg_bd (FX4_tellKinds x mu4 p2 (x + 33)) (fun mu6 => 
  fg_b2 (FX4_searchRow x mu6) (fun v9 mu8 => 
  fg_gd (decide (v9 = 0 ∨ v9 = 1)) (
  some (v9, mu8)))))))
set_option maxHeartbeats 4000000 in
theorem wX4_findRow {nx : Nat} {sh : bs_Sh} {R : Nat → Nat → Option Nat} {x : Nat} (HX : fg_S (bs_tS x) R x sh) {p1 : Nat} (h_p1 : fg_F R sh p1) {p2 : Nat} (h_p2 : fg_F R sh p2) {mu : bs_Mm} (hR : fg_R R mu) {r : Int32 × bs_Mm} (h : FX4_findRow x mu p1 p2 = some r) : bs_C mX4_findRow (bs_rm 3 0 0) [.ref (x + 30), .ref p1, .ref p2] nx sh mu (fg_po R nx sh (some (.int r.1)) r.2) := by
  refine bs_ct (by decide +kernel) (Nat.le_of_ble_eq_true rfl) ?_
  have kr : ∀ q, r = q → fg_R R q.2 → (fg_po R nx sh (some (.int r.1)) r.2) (some (.int q.1)) nx sh q.2 := fun q e hq => by subst e; exact ⟨rfl, rfl, rfl, rfl, hq⟩
  unfold FX4_findRow at h
  refine bs_aload_n dX4_findRow_0 rfl ?_
  refine bs_aload_n dX4_findRow_1 rfl ?_
  refine bs_getI dX4_findRow_2 fX4_27 (h_p1.s0) ?_
  refine fg_putI dX4_findRow_5 pX4_51 (HX.s 30 rfl rfl rfl) (HX.n 30 6 rfl rfl rfl) hR h (fun mu1 hR h => ?_)
  refine bs_aload_n dX4_findRow_8 rfl ?_
  refine bs_iconst (v := (nI 0)) dX4_findRow_9 (by decide) ?_
  refine fg_putI dX4_findRow_10 pX4_52 (HX.s 30 rfl rfl rfl) (HX.n 30 5 rfl rfl rfl) hR h (fun mu2 hR h => ?_)
  refine bs_aload_n dX4_findRow_13 rfl ?_
  refine bs_aload_n dX4_findRow_14 rfl ?_
  refine bs_aload_n dX4_findRow_15 rfl ?_
  refine fg_getR (b := (x + 32)) dX4_findRow_16 fX4_15 (HX.s 30 rfl rfl rfl) hR (HX.r 30 1 rfl rfl rfl) ?_
  obtain ⟨mu4, k3, h⟩ := fg_bdE h
  refine fg_callVv dX4_findRow_19 qX4_55 (wX4_tellKinds HX h_p1 ⟨(HX.ss 32 rfl rfl), (fun j => HX.n 32 j rfl rfl rfl), by decide⟩ hR k3) rfl (HX.s 30 rfl rfl rfl) rfl (Nat.le_of_ble_eq_true rfl) (fg_cr (by first | decide | omega) (by decide)) (fun hR => ?_)
  refine bs_aload_n dX4_findRow_22 rfl ?_
  refine bs_aload_n dX4_findRow_23 rfl ?_
  refine bs_aload_n dX4_findRow_24 rfl ?_
  refine fg_getR (b := (x + 33)) dX4_findRow_25 fX4_18 (HX.s 30 rfl rfl rfl) hR (HX.r 30 2 rfl rfl rfl) ?_
  obtain ⟨mu6, k5, h⟩ := fg_bdE h
  refine fg_callVv dX4_findRow_28 qX4_55 (wX4_tellKinds HX h_p2 ⟨(HX.ss 33 rfl rfl), (fun j => HX.n 33 j rfl rfl rfl), by decide⟩ hR k5) rfl (HX.s 30 rfl rfl rfl) rfl (Nat.le_of_ble_eq_true rfl) (fg_cr (by first | decide | omega) (by decide)) (fun hR => ?_)
  refine bs_aload_n dX4_findRow_31 rfl ?_
  obtain ⟨v9, mu8, k7, h⟩ := fg_b2E h
  refine fg_callV dX4_findRow_32 qX4_59 (wX4_searchRow HX hR k7) rfl (HX.s 30 rfl rfl rfl) rfl (Nat.le_of_ble_eq_true rfl) (fg_cr (by first | decide | omega) (by decide)) (fun hR => ?_)
  obtain ⟨g10, h⟩ := fg_gdE h
  cases h
  exact bs_zret dX4_findRow_35 rfl (of_decide_eq_true g10) (Nat.zero_le _) (Nat.zero_le _) (kr _ rfl hR)
noncomputable def FX4_matches_j16 (x : Nat) (p1 : Nat) (p2 : Nat) (mu : bs_Mm) : Option (Int32 × bs_Mm) :=
  fg_wr mu (x + 30) 7 (.ref p1) (fun mu1 => 
  fg_wr mu1 (x + 30) 8 (.ref p2) (fun mu2 => 
  if (bs_iv (mu2 p1 8)) = (bs_iv (mu2 p2 8)) then (
    if (bs_iv (mu2 p1 7)) = (bs_iv (mu2 p2 7)) then (
      fg_b2 (FX4_findRow x mu2 p1 p2) (fun v9 mu8 => 
      if v9 = 0 then (
        fg_wr mu8 (x + 30) 9 (.int (nI 0)) (fun mu10 => 
        fg_gd (decide ((bs_iv (mu10 (x + 30) 9)) = 0 ∨ (bs_iv (mu10 (x + 30) 9)) = 1)) (
        some ((bs_iv (mu10 (x + 30) 9)), mu10)))
      ) else (
        fg_wr mu8 (x + 30) 9 (.int (nI 1)) (fun mu12 => 
        fg_gd (decide ((bs_iv (mu12 (x + 30) 9)) = 0 ∨ (bs_iv (mu12 (x + 30) 9)) = 1)) (
        some ((bs_iv (mu12 (x + 30) 9)), mu12)))
      ))
    ) else (
      fg_wr mu2 (x + 30) 9 (.int (nI 0)) (fun mu5 => 
      fg_gd (decide ((bs_iv (mu5 (x + 30) 9)) = 0 ∨ (bs_iv (mu5 (x + 30) 9)) = 1)) (
      some ((bs_iv (mu5 (x + 30) 9)), mu5)))
    )
  ) else (
    fg_wr mu2 (x + 30) 9 (.int (nI 0)) (fun mu3 => 
    fg_gd (decide ((bs_iv (mu3 (x + 30) 9)) = 0 ∨ (bs_iv (mu3 (x + 30) 9)) = 1)) (
    some ((bs_iv (mu3 (x + 30) 9)), mu3)))
  )))
set_option maxHeartbeats 4000000 in
theorem wFX4_matches_j16 {nx : Nat} {sh : bs_Sh} {R : Nat → Nat → Option Nat} {x : Nat} (HX : fg_S (bs_tS x) R x sh) {p1 : Nat} (h_p1 : fg_F R sh p1) {p2 : Nat} (h_p2 : fg_F R sh p2) {mu : bs_Mm} {Ph : bs_Po} {r : Int32 × bs_Mm} (kr : ∀ q, r = q → fg_R R q.2 → Ph (some (.int q.1)) nx sh q.2) (hR : fg_R R mu) (h : FX4_matches_j16 x p1 p2 mu = some r) : bs_W Ph mX4_matches (bs_rm 4 0 0) 16 (bs_mk [(0, .ref (x + 30)), (1, .ref p1), (2, .ref p2)]) [] 0 0 nx sh mu := by
  unfold FX4_matches_j16 at h
  refine bs_aload_n dX4_matches_16 rfl ?_
  refine bs_aload_n dX4_matches_17 rfl ?_
  refine fg_putR dX4_matches_18 pX4_33 (HX.s 30 rfl rfl rfl) (HX.n 30 7 rfl rfl rfl) hR h (fun mu1 hR h => ?_)
  refine bs_aload_n dX4_matches_21 rfl ?_
  refine bs_aload_n dX4_matches_22 rfl ?_
  refine fg_putR dX4_matches_23 pX4_37 (HX.s 30 rfl rfl rfl) (HX.n 30 8 rfl rfl rfl) hR h (fun mu2 hR h => ?_)
  refine bs_aload_n dX4_matches_26 rfl ?_
  refine bs_aload_n dX4_matches_27 rfl ?_
  refine bs_getI dX4_matches_28 fX4_27 (h_p1.s0) ?_
  refine bs_aload_n dX4_matches_31 rfl ?_
  refine bs_getI dX4_matches_32 fX4_27 (h_p2.s0) ?_
  refine bs_icmp_ne (tgt := 62) dX4_matches_35 (by decide) (fun c => ?_) (fun c => ?_)
  · replace h := fg_iN c h
    refine bs_iconst (v := (nI 0)) dX4_matches_62 (by decide) ?_
    refine fg_putZ dX4_matches_63 pX4_47 (HX.s 30 rfl rfl rfl) (HX.n 30 9 rfl rfl rfl) (Or.inl rfl) hR h (fun mu3 hR h => ?_)
    refine bs_aload_n dX4_matches_66 rfl ?_
    refine bs_getI dX4_matches_67 fX4_47 (HX.s 30 rfl rfl rfl) ?_
    obtain ⟨g4, h⟩ := fg_gdE h
    cases h
    exact bs_zret dX4_matches_70 rfl (of_decide_eq_true g4) (Nat.zero_le _) (Nat.zero_le _) (kr _ rfl hR)
  · replace h := fg_ip c h
    refine bs_aload_n dX4_matches_38 rfl ?_
    refine bs_getI dX4_matches_39 fX4_40 (h_p1.s0) ?_
    refine bs_aload_n dX4_matches_42 rfl ?_
    refine bs_getI dX4_matches_43 fX4_40 (h_p2.s0) ?_
    refine bs_icmp_ne (tgt := 62) dX4_matches_46 (by decide) (fun c => ?_) (fun c => ?_)
    · replace h := fg_iN c h
      refine bs_iconst (v := (nI 0)) dX4_matches_62 (by decide) ?_
      refine fg_putZ dX4_matches_63 pX4_47 (HX.s 30 rfl rfl rfl) (HX.n 30 9 rfl rfl rfl) (Or.inl rfl) hR h (fun mu5 hR h => ?_)
      refine bs_aload_n dX4_matches_66 rfl ?_
      refine bs_getI dX4_matches_67 fX4_47 (HX.s 30 rfl rfl rfl) ?_
      obtain ⟨g6, h⟩ := fg_gdE h
      cases h
      exact bs_zret dX4_matches_70 rfl (of_decide_eq_true g6) (Nat.zero_le _) (Nat.zero_le _) (kr _ rfl hR)
    · replace h := fg_ip c h
      refine bs_aload_n dX4_matches_49 rfl ?_
      refine bs_aload_n dX4_matches_50 rfl ?_
      refine bs_aload_n dX4_matches_51 rfl ?_
      obtain ⟨v9, mu8, k7, h⟩ := fg_b2E h
      refine fg_callV dX4_matches_52 qX4_43 (wX4_findRow HX h_p1 h_p2 hR k7) rfl (HX.s 30 rfl rfl rfl) rfl (Nat.le_of_ble_eq_true rfl) (fg_cr (by first | decide | omega) (by decide)) (fun hR => ?_)
      refine bs_if_eq (tgt := 62) dX4_matches_55 (by decide) (fun c => ?_) (fun c => ?_)
      · replace h := fg_ip c h
        refine bs_iconst (v := (nI 0)) dX4_matches_62 (by decide) ?_
        refine fg_putZ dX4_matches_63 pX4_47 (HX.s 30 rfl rfl rfl) (HX.n 30 9 rfl rfl rfl) (Or.inl rfl) hR h (fun mu10 hR h => ?_)
        refine bs_aload_n dX4_matches_66 rfl ?_
        refine bs_getI dX4_matches_67 fX4_47 (HX.s 30 rfl rfl rfl) ?_
        obtain ⟨g11, h⟩ := fg_gdE h
        cases h
        exact bs_zret dX4_matches_70 rfl (of_decide_eq_true g11) (Nat.zero_le _) (Nat.zero_le _) (kr _ rfl hR)
      · replace h := fg_iN c h
        refine bs_iconst (v := (nI 1)) dX4_matches_58 (by decide) ?_
        refine bs_goto (tgt := 63) dX4_matches_59 (by decide) ?_
        refine fg_putZ dX4_matches_63 pX4_47 (HX.s 30 rfl rfl rfl) (HX.n 30 9 rfl rfl rfl) (Or.inr rfl) hR h (fun mu12 hR h => ?_)
        refine bs_aload_n dX4_matches_66 rfl ?_
        refine bs_getI dX4_matches_67 fX4_47 (HX.s 30 rfl rfl rfl) ?_
        obtain ⟨g13, h⟩ := fg_gdE h
        cases h
        exact bs_zret dX4_matches_70 rfl (of_decide_eq_true g13) (Nat.zero_le _) (Nat.zero_le _) (kr _ rfl hR)
noncomputable def FX4_matches (x : Nat) (mu : bs_Mm) (p1 : Nat) (p2 : Nat) : Option (Int32 × bs_Mm) :=
  if ((bs_rv (mu (x + 30) 7))) = (some p1) then (
    if ((bs_rv (mu (x + 30) 8))) = (some p2) then (
      fg_gd (decide ((bs_iv (mu (x + 30) 9)) = 0 ∨ (bs_iv (mu (x + 30) 9)) = 1)) (
      some ((bs_iv (mu (x + 30) 9)), mu))
    ) else (
      FX4_matches_j16 x p1 p2 mu
    )
  ) else (
    FX4_matches_j16 x p1 p2 mu
  )
set_option maxHeartbeats 4000000 in
theorem wX4_matches {nx : Nat} {sh : bs_Sh} {R : Nat → Nat → Option Nat} {x : Nat} (HX : fg_S (bs_tS x) R x sh) {p1 : Nat} (h_p1 : fg_F R sh p1) {p2 : Nat} (h_p2 : fg_F R sh p2) {mu : bs_Mm} (hR : fg_R R mu) {r : Int32 × bs_Mm} (h : FX4_matches x mu p1 p2 = some r) : bs_C mX4_matches (bs_rm 4 0 0) [.ref (x + 30), .ref p1, .ref p2] nx sh mu (fg_po R nx sh (some (.int r.1)) r.2) := by
  refine bs_ct (by decide +kernel) (Nat.le_of_ble_eq_true rfl) ?_
  have kr : ∀ q, r = q → fg_R R q.2 → (fg_po R nx sh (some (.int r.1)) r.2) (some (.int q.1)) nx sh q.2 := fun q e hq => by subst e; exact ⟨rfl, rfl, rfl, rfl, hq⟩
  unfold FX4_matches at h
  refine bs_aload_n dX4_matches_0 rfl ?_
  refine fg_getQ dX4_matches_1 fX4_33 (HX.s 30 rfl rfl rfl) ?_
  refine bs_aload_n dX4_matches_4 rfl ?_
  refine bs_acmp_ne (a := ((bs_rv (mu (x + 30) 7)))) (b := (some p1)) (tgt := 16) dX4_matches_5 (by decide) (fun c => ?_) (fun c => ?_)
  · replace h := fg_iN c h
    refine bs_W.mk [(0, .ref (x + 30)), (1, .ref p1), (2, .ref p2)] (by intro q hq; simp only [List.mem_cons, List.not_mem_nil, or_false] at hq; rcases hq with rfl | rfl | rfl <;> rfl) ?_
    exact wFX4_matches_j16 HX h_p1 h_p2 kr hR h
  · replace h := fg_ip c h
    refine bs_aload_n dX4_matches_8 rfl ?_
    refine fg_getQ dX4_matches_9 fX4_37 (HX.s 30 rfl rfl rfl) ?_
    refine bs_aload_n dX4_matches_12 rfl ?_
    refine bs_acmp_eq (a := ((bs_rv (mu (x + 30) 8)))) (b := (some p2)) (tgt := 66) dX4_matches_13 (by decide) (fun c => ?_) (fun c => ?_)
    · replace h := fg_ip c h
      refine bs_aload_n dX4_matches_66 rfl ?_
      refine bs_getI dX4_matches_67 fX4_47 (HX.s 30 rfl rfl rfl) ?_
      obtain ⟨g14, h⟩ := fg_gdE h
      cases h
      exact bs_zret dX4_matches_70 rfl (of_decide_eq_true g14) (Nat.zero_le _) (Nat.zero_le _) (kr _ rfl hR)
    · replace h := fg_iN c h
      refine bs_W.mk [(0, .ref (x + 30)), (1, .ref p1), (2, .ref p2)] (by intro q hq; simp only [List.mem_cons, List.not_mem_nil, or_false] at hq; rcases hq with rfl | rfl | rfl <;> rfl) ?_
      exact wFX4_matches_j16 HX h_p1 h_p2 kr hR h
