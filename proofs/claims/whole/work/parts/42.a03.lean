noncomputable def FX11_alike (x : Nat) (mu : bs_Mm) (p1 : Int32) (p2 : Int32) : Option (Int32 × bs_Mm) :=
  fg_bd (FX11_figureAt x mu p1) (fun v2 => 
  fg_oq v2 (
    fg_bd (FX11_figureAt x mu p2) (fun v6 => 
    fg_oq v6 (
      fg_bd (FX4_mayCompare x mu none) (fun v10 => 
      if v10 = 0 then (
        some ((-1), mu)
      ) else (
        fg_bd (FX4_mayCompare x mu none) (fun v12 => 
        if v12 = 0 then (
          some ((-1), mu)
        ) else (
          none
        ))
      ))
    ) (fun b7 => fg_gd (fg_isF x b7) (
      fg_bd (FX4_mayCompare x mu none) (fun v14 => 
      if v14 = 0 then (
        some ((-1), mu)
      ) else (
        fg_bd (FX4_mayCompare x mu (some b7)) (fun v16 => 
        if v16 = 0 then (
          some ((-1), mu)
        ) else (
          none
        ))
      ))
    )))
  ) (fun b3 => fg_gd (fg_isF x b3) (
    fg_bd (FX11_figureAt x mu p2) (fun v18 => 
    fg_oq v18 (
      fg_bd (FX4_mayCompare x mu (some b3)) (fun v22 => 
      if v22 = 0 then (
        some ((-1), mu)
      ) else (
        fg_bd (FX4_mayCompare x mu none) (fun v24 => 
        if v24 = 0 then (
          some ((-1), mu)
        ) else (
          none
        ))
      ))
    ) (fun b19 => fg_gd (fg_isF x b19) (
      fg_bd (FX4_mayCompare x mu (some b3)) (fun v26 => 
      if v26 = 0 then (
        some ((-1), mu)
      ) else (
        fg_bd (FX4_mayCompare x mu (some b19)) (fun v28 => 
        if v28 = 0 then (
          some ((-1), mu)
        ) else (
          fg_b2 (FX4_matches x mu b3 b19) (fun v31 mu30 => 
          if v31 = 0 then (
            some ((nI 0), mu30)
          ) else (
            some ((nI 1), mu30)
          ))
        ))
      ))
    )))
  )))
set_option maxHeartbeats 4000000 in
theorem wX11_alike {nx : Nat} {sh : bs_Sh} {R : Nat → Nat → Option Nat} {x : Nat} (HX : fg_S (bs_tS x) R x sh) {mu : bs_Mm} (hR : fg_R R mu) {p1 : Int32} {p2 : Int32} {r : Int32 × bs_Mm} (h : FX11_alike x mu p1 p2 = some r) : bs_C mX11_alike (bs_rm 5 0 0) [.ref x, .int p1, .int p2] nx sh mu (fg_po R nx sh (some (.int r.1)) r.2) := by
  refine bs_ct (by decide +kernel) (Nat.le_of_ble_eq_true rfl) ?_
  have kr : ∀ q, r = q → fg_R R q.2 → (fg_po R nx sh (some (.int r.1)) r.2) (some (.int q.1)) nx sh q.2 := fun q e hq => by subst e; exact ⟨rfl, rfl, rfl, rfl, hq⟩
  unfold FX11_alike at h
  refine bs_aload_n dX11_alike_0 rfl ?_
  refine bs_iload_n dX11_alike_1 rfl ?_
  obtain ⟨v2, k1, h⟩ := fg_bdE h
  refine fg_callV dX11_alike_2 qX11_143 (wX11_figureAt HX hR k1) rfl (HX.s 0 rfl rfl rfl) rfl (Nat.le_of_ble_eq_true rfl) (fg_cr (by first | decide | omega) (by decide)) (fun hR => ?_)
  cases v2 with
  | none =>
    replace h := fg_oq0 h
    refine bs_astoreN_n dX11_alike_5 rfl (by decide) ?_
    refine bs_aload_n dX11_alike_6 rfl ?_
    refine bs_iload_n dX11_alike_7 rfl ?_
    obtain ⟨v6, k5, h⟩ := fg_bdE h
    refine fg_callV dX11_alike_8 qX11_143 (wX11_figureAt HX hR k5) rfl (HX.s 0 rfl rfl rfl) rfl (Nat.le_of_ble_eq_true rfl) (fg_cr (by first | decide | omega) (by decide)) (fun hR => ?_)
    cases v6 with
    | none =>
      replace h := fg_oq0 h
      refine bs_astoreN dX11_alike_11 rfl (by decide) ?_
      refine bs_aloadN_n dX11_alike_13 rfl ?_
      obtain ⟨v10, k9, h⟩ := fg_bdE h
      refine fg_callS dX11_alike_14 qX11_253 (wX4_mayCompare HX hR k9) rfl rfl (Nat.le_of_ble_eq_true rfl) (fg_cr (by first | decide | omega) (by decide)) (fun hR => ?_)
      refine bs_if_eq (tgt := 28) dX11_alike_17 (by decide) (fun c => ?_) (fun c => ?_)
      · replace h := fg_ip c h
        refine bs_iconst (v := (-1)) dX11_alike_28 (by decide) ?_
        cases h
        exact bs_iret dX11_alike_29 rfl (Nat.zero_le _) (Nat.zero_le _) (kr _ rfl hR)
      · replace h := fg_iN c h
        refine bs_aloadN dX11_alike_20 rfl ?_
        obtain ⟨v12, k11, h⟩ := fg_bdE h
        refine fg_callS dX11_alike_22 qX11_253 (wX4_mayCompare HX hR k11) rfl rfl (Nat.le_of_ble_eq_true rfl) (fg_cr (by first | decide | omega) (by decide)) (fun hR => ?_)
        refine bs_if_ne (tgt := 30) dX11_alike_25 (by decide) (fun c => ?_) (fun c => ?_)
        · replace h := fg_iN c h
          refine bs_aload_n dX11_alike_30 rfl ?_
          refine fg_getR (b := (x + 30)) dX11_alike_31 fX11_59 (HX.s 0 rfl rfl rfl) hR (HX.r 0 7 rfl rfl rfl) ?_
          refine bs_aloadN_n dX11_alike_34 rfl ?_
          refine bs_aloadN dX11_alike_35 rfl ?_
          cases h
        · replace h := fg_ip c h
          refine bs_iconst (v := (-1)) dX11_alike_28 (by decide) ?_
          cases h
          exact bs_iret dX11_alike_29 rfl (Nat.zero_le _) (Nat.zero_le _) (kr _ rfl hR)
    | some b7 =>
      replace h := fg_oq1 h
      obtain ⟨g8, h⟩ := fg_gdE h
      have h_b7 := fg_isF_F HX g8
      refine bs_astore dX11_alike_11 rfl (by decide) ?_
      refine bs_aloadN_n dX11_alike_13 rfl ?_
      obtain ⟨v14, k13, h⟩ := fg_bdE h
      refine fg_callS dX11_alike_14 qX11_253 (wX4_mayCompare HX hR k13) rfl rfl (Nat.le_of_ble_eq_true rfl) (fg_cr (by first | decide | omega) (by decide)) (fun hR => ?_)
      refine bs_if_eq (tgt := 28) dX11_alike_17 (by decide) (fun c => ?_) (fun c => ?_)
      · replace h := fg_ip c h
        refine bs_iconst (v := (-1)) dX11_alike_28 (by decide) ?_
        cases h
        exact bs_iret dX11_alike_29 rfl (Nat.zero_le _) (Nat.zero_le _) (kr _ rfl hR)
      · replace h := fg_iN c h
        refine bs_aload dX11_alike_20 rfl ?_
        obtain ⟨v16, k15, h⟩ := fg_bdE h
        refine fg_callS dX11_alike_22 qX11_253 (wX4_mayCompare HX hR k15) rfl rfl (Nat.le_of_ble_eq_true rfl) (fg_cr (by first | decide | omega) (by decide)) (fun hR => ?_)
        refine bs_if_ne (tgt := 30) dX11_alike_25 (by decide) (fun c => ?_) (fun c => ?_)
        · replace h := fg_iN c h
          refine bs_aload_n dX11_alike_30 rfl ?_
          refine fg_getR (b := (x + 30)) dX11_alike_31 fX11_59 (HX.s 0 rfl rfl rfl) hR (HX.r 0 7 rfl rfl rfl) ?_
          refine bs_aloadN_n dX11_alike_34 rfl ?_
          refine bs_aload dX11_alike_35 rfl ?_
          cases h
        · replace h := fg_ip c h
          refine bs_iconst (v := (-1)) dX11_alike_28 (by decide) ?_
          cases h
          exact bs_iret dX11_alike_29 rfl (Nat.zero_le _) (Nat.zero_le _) (kr _ rfl hR)
  | some b3 =>
    replace h := fg_oq1 h
    obtain ⟨g4, h⟩ := fg_gdE h
    have h_b3 := fg_isF_F HX g4
    refine bs_astore_n dX11_alike_5 rfl (by decide) ?_
    refine bs_aload_n dX11_alike_6 rfl ?_
    refine bs_iload_n dX11_alike_7 rfl ?_
    obtain ⟨v18, k17, h⟩ := fg_bdE h
    refine fg_callV dX11_alike_8 qX11_143 (wX11_figureAt HX hR k17) rfl (HX.s 0 rfl rfl rfl) rfl (Nat.le_of_ble_eq_true rfl) (fg_cr (by first | decide | omega) (by decide)) (fun hR => ?_)
    cases v18 with
    | none =>
      replace h := fg_oq0 h
      refine bs_astoreN dX11_alike_11 rfl (by decide) ?_
      refine bs_aload_n dX11_alike_13 rfl ?_
      obtain ⟨v22, k21, h⟩ := fg_bdE h
      refine fg_callS dX11_alike_14 qX11_253 (wX4_mayCompare HX hR k21) rfl rfl (Nat.le_of_ble_eq_true rfl) (fg_cr (by first | decide | omega) (by decide)) (fun hR => ?_)
      refine bs_if_eq (tgt := 28) dX11_alike_17 (by decide) (fun c => ?_) (fun c => ?_)
      · replace h := fg_ip c h
        refine bs_iconst (v := (-1)) dX11_alike_28 (by decide) ?_
        cases h
        exact bs_iret dX11_alike_29 rfl (Nat.zero_le _) (Nat.zero_le _) (kr _ rfl hR)
      · replace h := fg_iN c h
        refine bs_aloadN dX11_alike_20 rfl ?_
        obtain ⟨v24, k23, h⟩ := fg_bdE h
        refine fg_callS dX11_alike_22 qX11_253 (wX4_mayCompare HX hR k23) rfl rfl (Nat.le_of_ble_eq_true rfl) (fg_cr (by first | decide | omega) (by decide)) (fun hR => ?_)
        refine bs_if_ne (tgt := 30) dX11_alike_25 (by decide) (fun c => ?_) (fun c => ?_)
        · replace h := fg_iN c h
          refine bs_aload_n dX11_alike_30 rfl ?_
          refine fg_getR (b := (x + 30)) dX11_alike_31 fX11_59 (HX.s 0 rfl rfl rfl) hR (HX.r 0 7 rfl rfl rfl) ?_
          refine bs_aload_n dX11_alike_34 rfl ?_
          refine bs_aloadN dX11_alike_35 rfl ?_
          cases h
        · replace h := fg_ip c h
          refine bs_iconst (v := (-1)) dX11_alike_28 (by decide) ?_
          cases h
          exact bs_iret dX11_alike_29 rfl (Nat.zero_le _) (Nat.zero_le _) (kr _ rfl hR)
    | some b19 =>
      replace h := fg_oq1 h
      obtain ⟨g20, h⟩ := fg_gdE h
      have h_b19 := fg_isF_F HX g20
      refine bs_astore dX11_alike_11 rfl (by decide) ?_
      refine bs_aload_n dX11_alike_13 rfl ?_
      obtain ⟨v26, k25, h⟩ := fg_bdE h
      refine fg_callS dX11_alike_14 qX11_253 (wX4_mayCompare HX hR k25) rfl rfl (Nat.le_of_ble_eq_true rfl) (fg_cr (by first | decide | omega) (by decide)) (fun hR => ?_)
      refine bs_if_eq (tgt := 28) dX11_alike_17 (by decide) (fun c => ?_) (fun c => ?_)
      · replace h := fg_ip c h
        refine bs_iconst (v := (-1)) dX11_alike_28 (by decide) ?_
        cases h
        exact bs_iret dX11_alike_29 rfl (Nat.zero_le _) (Nat.zero_le _) (kr _ rfl hR)
      · replace h := fg_iN c h
        refine bs_aload dX11_alike_20 rfl ?_
        obtain ⟨v28, k27, h⟩ := fg_bdE h
        refine fg_callS dX11_alike_22 qX11_253 (wX4_mayCompare HX hR k27) rfl rfl (Nat.le_of_ble_eq_true rfl) (fg_cr (by first | decide | omega) (by decide)) (fun hR => ?_)
        refine bs_if_ne (tgt := 30) dX11_alike_25 (by decide) (fun c => ?_) (fun c => ?_)
        · replace h := fg_iN c h
          refine bs_aload_n dX11_alike_30 rfl ?_
          refine fg_getR (b := (x + 30)) dX11_alike_31 fX11_59 (HX.s 0 rfl rfl rfl) hR (HX.r 0 7 rfl rfl rfl) ?_
          refine bs_aload_n dX11_alike_34 rfl ?_
          refine bs_aload dX11_alike_35 rfl ?_
          obtain ⟨v31, mu30, k29, h⟩ := fg_b2E h
          refine fg_callV dX11_alike_37 qX11_257 (wX4_matches HX h_b3 h_b19 hR k29) rfl (HX.s 30 rfl rfl rfl) rfl (Nat.le_of_ble_eq_true rfl) (fg_cr (by first | decide | omega) (by decide)) (fun hR => ?_)
          refine bs_if_eq (tgt := 47) dX11_alike_40 (by decide) (fun c => ?_) (fun c => ?_)
          · replace h := fg_ip c h
            refine bs_iconst (v := (nI 0)) dX11_alike_47 (by decide) ?_
            cases h
            exact bs_iret dX11_alike_48 rfl (Nat.zero_le _) (Nat.zero_le _) (kr _ rfl hR)
          · replace h := fg_iN c h
            refine bs_iconst (v := (nI 1)) dX11_alike_43 (by decide) ?_
            refine bs_goto (tgt := 48) dX11_alike_44 (by decide) ?_
            cases h
            exact bs_iret dX11_alike_48 rfl (Nat.zero_le _) (Nat.zero_le _) (kr _ rfl hR)
        · replace h := fg_ip c h
          refine bs_iconst (v := (-1)) dX11_alike_28 (by decide) ?_
          cases h
          exact bs_iret dX11_alike_29 rfl (Nat.zero_le _) (Nat.zero_le _) (kr _ rfl hR)
noncomputable def FX11_bubble (x : Nat) (mu : bs_Mm) (p1 : Int32) (p2 : Int32) (p3 : Int32) : Option (Int32) :=
  fg_bd (FX11_figureAt x mu p1) (fun v2 => 
  fg_oq v2 (
    none
  ) (fun b3 => fg_gd (fg_isF x b3) (
    fg_bd (FX1_hasBubble x b3 mu p2) (fun v6 => 
    if v6 = 0 then (
      none
    ) else (
      if p3 = (nI 0) then (
        fg_gd (fg_in p2 24) (
        some ((bs_iv (mu (b3 + 2) p2.toNatClampNeg))))
      ) else (
      if p3 = (nI 1) then (
        fg_gd (fg_in p2 24) (
        some ((bs_iv (mu (b3 + 3) p2.toNatClampNeg))))
      ) else (
      if p3 = (nI 2) then (
        fg_gd (fg_in p2 24) (
        some ((bs_iv (mu (b3 + 4) p2.toNatClampNeg))))
      ) else (
      if p3 = (nI 3) then (
        fg_gd (fg_in p2 24) (
        some ((bs_iv (mu (b3 + 5) p2.toNatClampNeg))))
      ) else (
      if p3 = (nI 4) then (
        fg_gd (fg_in p2 24) (
        fg_gd (fg_in (bs_iv (mu (b3 + 5) p2.toNatClampNeg)) 6) (
        some ((bs_iv (mu (b3 + 1) (bs_iv (mu (b3 + 5) p2.toNatClampNeg)).toNatClampNeg)))))
      ) else (
      none
      )))))
    ))
  )))
set_option maxHeartbeats 4000000 in
theorem wX11_bubble {nx : Nat} {sh : bs_Sh} {R : Nat → Nat → Option Nat} {x : Nat} (HX : fg_S (bs_tS x) R x sh) {mu : bs_Mm} (hR : fg_R R mu) {p1 : Int32} {p2 : Int32} {p3 : Int32} {r : Int32} (h : FX11_bubble x mu p1 p2 p3 = some r) : bs_C mX11_bubble (bs_rm 1 0 0) [.ref x, .int p1, .int p2, .int p3] nx sh mu (fg_po R nx sh (some (.int r)) mu) := by
  refine bs_ct (by decide +kernel) (Nat.le_of_ble_eq_true rfl) ?_
  have kr : ∀ q, r = q → fg_R R mu → (fg_po R nx sh (some (.int r)) mu) (some (.int q)) nx sh mu := fun q e hq => by subst e; exact ⟨rfl, rfl, rfl, rfl, hq⟩
  unfold FX11_bubble at h
  refine bs_aload_n dX11_bubble_0 rfl ?_
  refine bs_iload_n dX11_bubble_1 rfl ?_
  obtain ⟨v2, k1, h⟩ := fg_bdE h
  refine fg_callV dX11_bubble_2 qX11_143 (wX11_figureAt HX hR k1) rfl (HX.s 0 rfl rfl rfl) rfl (Nat.le_of_ble_eq_true rfl) (fg_cr (by first | decide | omega) (by decide)) (fun hR => ?_)
  cases v2 with
  | none =>
    replace h := fg_oq0 h
    refine bs_astoreN dX11_bubble_5 rfl (by decide) ?_
    refine bs_aloadN dX11_bubble_7 rfl ?_
    refine bs_ifnullN (tgt := 21) dX11_bubble_9 (by decide) ?_
    cases h
  | some b3 =>
    replace h := fg_oq1 h
    obtain ⟨g4, h⟩ := fg_gdE h
    have h_b3 := fg_isF_F HX g4
    refine bs_astore dX11_bubble_5 rfl (by decide) ?_
    refine bs_aload dX11_bubble_7 rfl ?_
    refine bs_ifnull dX11_bubble_9 ?_
    refine bs_aload dX11_bubble_12 rfl ?_
    refine bs_iload_n dX11_bubble_14 rfl ?_
    obtain ⟨v6, k5, h⟩ := fg_bdE h
    refine fg_callV dX11_bubble_15 qX11_171 (wX1_hasBubble HX h_b3 hR k5) rfl (h_b3.s0) rfl (Nat.le_of_ble_eq_true rfl) (fg_cr (by first | decide | omega) (by decide)) (fun hR => ?_)
    refine bs_if_ne (tgt := 31) dX11_bubble_18 (by decide) (fun c => ?_) (fun c => ?_)
    · replace h := fg_iN c h
      refine bs_iload_n dX11_bubble_31 rfl ?_
      by_cases e7 : p3 = (nI 0)
      · replace h := fg_ip e7 h
        refine bs_tableIn (off := 36) (tgt := 68) dX11_bubble_32 (by rw [e7]; decide) (by rw [e7]; decide) (by rw [e7]; decide) (by decide) ?_
        refine bs_aload dX11_bubble_68 rfl ?_
        refine fg_getR (b := (b3 + 2)) dX11_bubble_70 fX11_182 (h_b3.s0) hR (h_b3.r1) ?_
        refine bs_iload_n dX11_bubble_73 rfl ?_
        obtain ⟨g8, h⟩ := fg_gdE h
        refine bs_iald dX11_bubble_74 (h_b3.s2) (fg_in_ix g8) ?_
        cases h
        exact bs_iret dX11_bubble_75 rfl (Nat.zero_le _) (Nat.zero_le _) (kr _ rfl hR)
      · replace h := fg_iN e7 h
        by_cases e9 : p3 = (nI 1)
        · replace h := fg_ip e9 h
          refine bs_tableIn (off := 44) (tgt := 76) dX11_bubble_32 (by rw [e9]; decide) (by rw [e9]; decide) (by rw [e9]; decide) (by decide) ?_
          refine bs_aload dX11_bubble_76 rfl ?_
          refine fg_getR (b := (b3 + 3)) dX11_bubble_78 fX11_184 (h_b3.s0) hR (h_b3.r2) ?_
          refine bs_iload_n dX11_bubble_81 rfl ?_
          obtain ⟨g10, h⟩ := fg_gdE h
          refine bs_iald dX11_bubble_82 (h_b3.s3) (fg_in_ix g10) ?_
          cases h
          exact bs_iret dX11_bubble_83 rfl (Nat.zero_le _) (Nat.zero_le _) (kr _ rfl hR)
        · replace h := fg_iN e9 h
          by_cases e11 : p3 = (nI 2)
          · replace h := fg_ip e11 h
            refine bs_tableIn (off := 52) (tgt := 84) dX11_bubble_32 (by rw [e11]; decide) (by rw [e11]; decide) (by rw [e11]; decide) (by decide) ?_
            refine bs_aload dX11_bubble_84 rfl ?_
            refine fg_getR (b := (b3 + 4)) dX11_bubble_86 fX11_187 (h_b3.s0) hR (h_b3.r3) ?_
            refine bs_iload_n dX11_bubble_89 rfl ?_
            obtain ⟨g12, h⟩ := fg_gdE h
            refine bs_iald dX11_bubble_90 (h_b3.s4) (fg_in_ix g12) ?_
            cases h
            exact bs_iret dX11_bubble_91 rfl (Nat.zero_le _) (Nat.zero_le _) (kr _ rfl hR)
          · replace h := fg_iN e11 h
            by_cases e13 : p3 = (nI 3)
            · replace h := fg_ip e13 h
              refine bs_tableIn (off := 60) (tgt := 92) dX11_bubble_32 (by rw [e13]; decide) (by rw [e13]; decide) (by rw [e13]; decide) (by decide) ?_
              refine bs_aload dX11_bubble_92 rfl ?_
              refine fg_getR (b := (b3 + 5)) dX11_bubble_94 fX11_190 (h_b3.s0) hR (h_b3.r4) ?_
              refine bs_iload_n dX11_bubble_97 rfl ?_
              obtain ⟨g14, h⟩ := fg_gdE h
              refine bs_iald dX11_bubble_98 (h_b3.s5) (fg_in_ix g14) ?_
              cases h
              exact bs_iret dX11_bubble_99 rfl (Nat.zero_le _) (Nat.zero_le _) (kr _ rfl hR)
            · replace h := fg_iN e13 h
              by_cases e15 : p3 = (nI 4)
              · replace h := fg_ip e15 h
                refine bs_tableIn (off := 68) (tgt := 100) dX11_bubble_32 (by rw [e15]; decide) (by rw [e15]; decide) (by rw [e15]; decide) (by decide) ?_
                refine bs_aload dX11_bubble_100 rfl ?_
                refine fg_getR (b := (b3 + 1)) dX11_bubble_102 fX11_193 (h_b3.s0) hR (h_b3.r0) ?_
                refine bs_aload dX11_bubble_105 rfl ?_
                refine fg_getR (b := (b3 + 5)) dX11_bubble_107 fX11_190 (h_b3.s0) hR (h_b3.r4) ?_
                refine bs_iload_n dX11_bubble_110 rfl ?_
                obtain ⟨g16, h⟩ := fg_gdE h
                refine bs_iald dX11_bubble_111 (h_b3.s5) (fg_in_ix g16) ?_
                obtain ⟨g17, h⟩ := fg_gdE h
                refine bs_iald dX11_bubble_112 (h_b3.s1) (fg_in_ix g17) ?_
                cases h
                exact bs_iret dX11_bubble_113 rfl (Nat.zero_le _) (Nat.zero_le _) (kr _ rfl hR)
              · replace h := fg_iN e15 h
                refine fg_tabD (b := 0) (tgt := 114) (sp := [0, 1, 2, 3, 4]) dX11_bubble_32 (by decide) (by decide) (by decide) ?_ (by decide) ?_
                · intro k hk; simp only [List.mem_cons, List.not_mem_nil, or_false] at hk; rcases hk with rfl | rfl | rfl | rfl | rfl <;> assumption
                · cases h
    · replace h := fg_ip c h
      cases h
noncomputable def FX1_hasBalloon (x : Nat) (f : Nat) (mu : bs_Mm) (p1 : Int32) : Option (Int32) :=
  if p1 < 0 then (
    some ((nI 0))
  ) else (
    if (bs_iv (mu f 6)) ≤ p1 then (
      some ((nI 0))
    ) else (
      some ((nI 1))
    )
  )
set_option maxHeartbeats 4000000 in
theorem wX1_hasBalloon {nx : Nat} {sh : bs_Sh} {R : Nat → Nat → Option Nat} {x : Nat} (HX : fg_S (bs_tS x) R x sh) {f : Nat} (h_f : fg_F R sh f) {mu : bs_Mm} (hR : fg_R R mu) {p1 : Int32} {r : Int32} (h : FX1_hasBalloon x f mu p1 = some r) : bs_C mX1_hasBalloon (bs_rm 0 0 0) [.ref f, .int p1] nx sh mu (fg_po R nx sh (some (.int r)) mu) := by
  refine bs_ct (by decide +kernel) (Nat.le_of_ble_eq_true rfl) ?_
  have kr : ∀ q, r = q → fg_R R mu → (fg_po R nx sh (some (.int r)) mu) (some (.int q)) nx sh mu := fun q e hq => by subst e; exact ⟨rfl, rfl, rfl, rfl, hq⟩
  unfold FX1_hasBalloon at h
  refine bs_iload_n dX1_hasBalloon_0 rfl ?_
  refine bs_if_lt (tgt := 16) dX1_hasBalloon_1 (by decide) (fun c => ?_) (fun c => ?_)
  · replace h := fg_ip c h
    refine bs_iconst (v := (nI 0)) dX1_hasBalloon_16 (by decide) ?_
    cases h
    exact bs_zret dX1_hasBalloon_17 rfl (Or.inl rfl) (Nat.zero_le _) (Nat.zero_le _) (kr _ rfl hR)
  · replace h := fg_iN c h
    refine bs_iload_n dX1_hasBalloon_4 rfl ?_
    refine bs_aload_n dX1_hasBalloon_5 rfl ?_
    refine bs_getI dX1_hasBalloon_6 fX1_36 (h_f.s0) ?_
    refine bs_icmp_ge (tgt := 16) dX1_hasBalloon_9 (by decide) (fun c => ?_) (fun c => ?_)
    · replace h := fg_ip c h
      refine bs_iconst (v := (nI 0)) dX1_hasBalloon_16 (by decide) ?_
      cases h
      exact bs_zret dX1_hasBalloon_17 rfl (Or.inl rfl) (Nat.zero_le _) (Nat.zero_le _) (kr _ rfl hR)
    · replace h := fg_iN c h
      refine bs_iconst (v := (nI 1)) dX1_hasBalloon_12 (by decide) ?_
      refine bs_goto (tgt := 17) dX1_hasBalloon_13 (by decide) ?_
      cases h
      exact bs_zret dX1_hasBalloon_17 rfl (Or.inr rfl) (Nat.zero_le _) (Nat.zero_le _) (kr _ rfl hR)
noncomputable def FX1_burstOf_b7 (x : Nat) (f : Nat) (mu : bs_Mm) (l1 : Int32) (l2 : Int32) (l3 : Int32) (s : Int32 × Int32) : Option ((Int32 × Int32) ⊕ ((Unit) ⊕ (Int32))) :=
  if (bs_iv (mu f 7)) ≤ s.2 then (
    some (.inr (.inl ()))
  ) else (
    fg_gd (fg_in s.2 24) (
    if (bs_iv (mu (f + 5) s.2.toNatClampNeg)) = l1 then (
      fg_gd (fg_in s.2 24) (
      if (s.1 + (l3 + (bs_iv (mu (f + 2) s.2.toNatClampNeg)))) ≤ l2 then (
        some (.inl ((s.1 + (l3 + (bs_iv (mu (f + 2) s.2.toNatClampNeg)))), (s.2 + (nI 1))))
      ) else (
        some (.inr (.inr (s.2)))
      ))
    ) else (
      some (.inl (s.1, (s.2 + (nI 1))))
    ))
  )
set_option maxHeartbeats 4000000 in
theorem wFX1_burstOf_b7 {nx : Nat} {sh : bs_Sh} {R : Nat → Nat → Option Nat} {x : Nat} (HX : fg_S (bs_tS x) R x sh) {f : Nat} (h_f : fg_F R sh f) {mu : bs_Mm} {l1 : Int32} {l2 : Int32} {l3 : Int32} {Ph : bs_Po} {s : Int32 × Int32} {r : (Int32 × Int32) ⊕ ((Unit) ⊕ (Int32))} (ka : ∀ s, r = .inl s → bs_W Ph mX1_burstOf (bs_rm 0 0 0) 7 (bs_mk [(0, .ref f), (1, .int l1), (2, .int l2), (3, .int l3), (4, .int s.1), (5, .int s.2)]) [] 0 0 nx sh mu) (ke : ∀ s, r = .inr (.inl s) → bs_W Ph mX1_burstOf (bs_rm 0 0 0) 56 (bs_mk [(0, .ref f), (1, .int l1), (2, .int l2), (3, .int l3)]) [] 0 0 nx sh mu) (kr : ∀ q, r = .inr (.inr q) → fg_R R mu → Ph (some (.int q)) nx sh mu) (hR : fg_R R mu) (h : FX1_burstOf_b7 x f mu l1 l2 l3 s = some r) : bs_W Ph mX1_burstOf (bs_rm 0 0 0) 7 (bs_mk [(0, .ref f), (1, .int l1), (2, .int l2), (3, .int l3), (4, .int s.1), (5, .int s.2)]) [] 0 0 nx sh mu := by
  unfold FX1_burstOf_b7 at h
  refine bs_iload dX1_burstOf_7 rfl ?_
  refine bs_aload_n dX1_burstOf_9 rfl ?_
  refine bs_getI dX1_burstOf_10 fX1_40 (h_f.s0) ?_
  refine bs_icmp_ge (tgt := 56) dX1_burstOf_13 (by decide) (fun c => ?_) (fun c => ?_)
  · replace h := fg_ip c h
    cases h
    refine bs_W.mk [(0, .ref f), (1, .int l1), (2, .int l2), (3, .int l3)] (by intro q hq; simp only [List.mem_cons, List.not_mem_nil, or_false] at hq; rcases hq with rfl | rfl | rfl | rfl <;> rfl) (ke _ rfl)
  · replace h := fg_iN c h
    refine bs_aload_n dX1_burstOf_16 rfl ?_
    refine fg_getR (b := (f + 5)) dX1_burstOf_17 fX1_24 (h_f.s0) hR (h_f.r4) ?_
    refine bs_iload dX1_burstOf_20 rfl ?_
    obtain ⟨g1, h⟩ := fg_gdE h
    refine bs_iald dX1_burstOf_22 (h_f.s5) (fg_in_ix g1) ?_
    refine bs_iload_n dX1_burstOf_23 rfl ?_
    refine bs_icmp_ne (tgt := 50) dX1_burstOf_24 (by decide) (fun c => ?_) (fun c => ?_)
    · replace h := fg_iN c h
      refine fg_iinc (m := (nI 1)) dX1_burstOf_50 rfl rfl (by decide) ?_
      refine bs_goto (tgt := 7) dX1_burstOf_53 (by decide) ?_
      cases h
      refine bs_W.mk [(0, .ref f), (1, .int l1), (2, .int l2), (3, .int l3), (4, .int s.1), (5, .int (s.2 + (nI 1)))] (by intro q hq; simp only [List.mem_cons, List.not_mem_nil, or_false] at hq; rcases hq with rfl | rfl | rfl | rfl | rfl | rfl <;> rfl) (by have k := ka _ rfl; dsimp only at k; exact k)
    · replace h := fg_ip c h
      refine bs_iload dX1_burstOf_27 rfl ?_
      refine bs_iload_n dX1_burstOf_29 rfl ?_
      refine bs_aload_n dX1_burstOf_30 rfl ?_
      refine fg_getR (b := (f + 2)) dX1_burstOf_31 fX1_15 (h_f.s0) hR (h_f.r1) ?_
      refine bs_iload dX1_burstOf_34 rfl ?_
      obtain ⟨g2, h⟩ := fg_gdE h
      refine bs_iald dX1_burstOf_36 (h_f.s2) (fg_in_ix g2) ?_
      refine bs_iadd dX1_burstOf_37 ?_
      refine bs_iadd dX1_burstOf_38 ?_
      refine bs_istore dX1_burstOf_39 rfl (by decide) ?_
      refine bs_iload dX1_burstOf_41 rfl ?_
      refine bs_iload_n dX1_burstOf_43 rfl ?_
      refine bs_icmp_le (tgt := 50) dX1_burstOf_44 (by decide) (fun c => ?_) (fun c => ?_)
      · replace h := fg_ip c h
        refine fg_iinc (m := (nI 1)) dX1_burstOf_50 rfl rfl (by decide) ?_
        refine bs_goto (tgt := 7) dX1_burstOf_53 (by decide) ?_
        cases h
        refine bs_W.mk [(0, .ref f), (1, .int l1), (2, .int l2), (3, .int l3), (4, .int (s.1 + (l3 + (bs_iv (mu (f + 2) s.2.toNatClampNeg))))), (5, .int (s.2 + (nI 1)))] (by intro q hq; simp only [List.mem_cons, List.not_mem_nil, or_false] at hq; rcases hq with rfl | rfl | rfl | rfl | rfl | rfl <;> rfl) (by have k := ka _ rfl; dsimp only at k; exact k)
      · replace h := fg_iN c h
        refine bs_iload dX1_burstOf_47 rfl ?_
        cases h
        exact bs_iret dX1_burstOf_49 rfl (Nat.zero_le _) (Nat.zero_le _) (kr _ rfl hR)
theorem wFX1_lurstOf_l7 {nx : Nat} {sh : bs_Sh} {R : Nat → Nat → Option Nat} {x : Nat} (HX : fg_S (bs_tS x) R x sh) {f : Nat} (h_f : fg_F R sh f) {mu : bs_Mm} {l1 : Int32} {l2 : Int32} {l3 : Int32} {Ph : bs_Po} {t : (Unit) ⊕ (Int32)} : ∀ n (y0 : Int32) (y1 : Int32), fg_lp (FX1_burstOf_b7 x f mu l1 l2 l3) n (y0, y1) = some t → fg_R R mu → (ke : ∀ s, t = .inl s → bs_W Ph mX1_burstOf (bs_rm 0 0 0) 56 (bs_mk [(0, .ref f), (1, .int l1), (2, .int l2), (3, .int l3)]) [] 0 0 nx sh mu) → (kr : ∀ q, t = .inr q → fg_R R mu → Ph (some (.int q)) nx sh mu) → bs_W Ph mX1_burstOf (bs_rm 0 0 0) 7 (bs_mk [(0, .ref f), (1, .int l1), (2, .int l2), (3, .int l3), (4, .int y0), (5, .int y1)]) [] 0 0 nx sh mu := by
  intro n
  induction n with
  | zero => intro y0 y1 h; exact absurd h (fun z => fg_lp0 z)
  | succ n ih =>
    intro y0 y1 h hR ke kr
    obtain ⟨r, hb, h1, h2⟩ := fg_lpE h
    exact wFX1_burstOf_b7 (s := (y0, y1)) HX h_f (fun s' e => ih s'.1 s'.2 (h1 s' e) hR ke kr) (fun s' e => ke s' (h2 _ e).symm) (fun q e => kr q (h2 _ e).symm) hR hb
noncomputable def FX1_burstOf (x : Nat) (f : Nat) (mu : bs_Mm) (p1 : Int32) (p2 : Int32) (p3 : Int32) : Option (Int32) :=
  fg_l3 (fg_lp (FX1_burstOf_b7 x f mu p1 p2 p3) fg_fu ((-p3), (nI 0))) (fun t3 => 
    some ((-1))
  ) (fun q5 => some q5)
set_option maxHeartbeats 4000000 in
theorem wX1_burstOf {nx : Nat} {sh : bs_Sh} {R : Nat → Nat → Option Nat} {x : Nat} (HX : fg_S (bs_tS x) R x sh) {f : Nat} (h_f : fg_F R sh f) {mu : bs_Mm} (hR : fg_R R mu) {p1 : Int32} {p2 : Int32} {p3 : Int32} {r : Int32} (h : FX1_burstOf x f mu p1 p2 p3 = some r) : bs_C mX1_burstOf (bs_rm 0 0 0) [.ref f, .int p1, .int p2, .int p3] nx sh mu (fg_po R nx sh (some (.int r)) mu) := by
  refine bs_ct (by decide +kernel) (Nat.le_of_ble_eq_true rfl) ?_
  have kr : ∀ q, r = q → fg_R R mu → (fg_po R nx sh (some (.int r)) mu) (some (.int q)) nx sh mu := fun q e hq => by subst e; exact ⟨rfl, rfl, rfl, rfl, hq⟩
  unfold FX1_burstOf at h
  refine bs_iload_n dX1_burstOf_0 rfl ?_
  refine bs_ineg dX1_burstOf_1 ?_
  refine bs_istore dX1_burstOf_2 rfl (by decide) ?_
  refine bs_iconst (v := (nI 0)) dX1_burstOf_4 (by decide) ?_
  refine bs_istore dX1_burstOf_5 rfl (by decide) ?_
  obtain ⟨t30, k4, h1, h2⟩ := fg_l3E h
  refine bs_W.mk [(0, .ref f), (1, .int p1), (2, .int p2), (3, .int p3), (4, .int (-p3)), (5, .int (nI 0))] (by intro q hq; simp only [List.mem_cons, List.not_mem_nil, or_false] at hq; rcases hq with rfl | rfl | rfl | rfl | rfl | rfl <;> rfl) ?_
  refine wFX1_lurstOf_l7 HX h_f _ _ _ k4 hR ?_ ?_
  · intro t3 e
    replace h := h1 t3 e
    refine bs_iconst (v := (-1)) dX1_burstOf_56 (by decide) ?_
    cases h
    exact bs_iret dX1_burstOf_57 rfl (Nat.zero_le _) (Nat.zero_le _) (kr _ rfl hR)
  · intro q5 e hR
    replace h := h2 q5 e
    cases h
    exact kr _ rfl hR
noncomputable def FX11_bursts (x : Nat) (mu : bs_Mm) (p1 : Int32) (p2 : Int32) : Option (Int32) :=
  fg_bd (FX11_figureAt x mu p1) (fun v2 => 
  fg_oq v2 (
    some ((-1))
  ) (fun b3 => fg_gd (fg_isF x b3) (
    fg_bd (FX1_hasBalloon x b3 mu p2) (fun v6 => 
    if v6 = 0 then (
      some ((-1))
    ) else (
      fg_gd (fg_in p2 6) (
      fg_gd (fg_in (bs_iv (mu (b3 + 1) p2.toNatClampNeg)) 6) (
      fg_gd (fg_in (bs_iv (mu (b3 + 1) p2.toNatClampNeg)) 6) (
      fg_bd (FX1_burstOf x b3 mu p2 (bs_iv (mu (x + 2) (bs_iv (mu (b3 + 1) p2.toNatClampNeg)).toNatClampNeg)) (bs_iv (mu (x + 3) (bs_iv (mu (b3 + 1) p2.toNatClampNeg)).toNatClampNeg))) (fun v11 => 
      some (v11)))))
    ))
  )))
set_option maxHeartbeats 4000000 in
theorem wX11_bursts {nx : Nat} {sh : bs_Sh} {R : Nat → Nat → Option Nat} {x : Nat} (HX : fg_S (bs_tS x) R x sh) {mu : bs_Mm} (hR : fg_R R mu) {p1 : Int32} {p2 : Int32} {r : Int32} (h : FX11_bursts x mu p1 p2 = some r) : bs_C mX11_bursts (bs_rm 1 0 0) [.ref x, .int p1, .int p2] nx sh mu (fg_po R nx sh (some (.int r)) mu) := by
  refine bs_ct (by decide +kernel) (Nat.le_of_ble_eq_true rfl) ?_
  have kr : ∀ q, r = q → fg_R R mu → (fg_po R nx sh (some (.int r)) mu) (some (.int q)) nx sh mu := fun q e hq => by subst e; exact ⟨rfl, rfl, rfl, rfl, hq⟩
  unfold FX11_bursts at h
  refine bs_aload_n dX11_bursts_0 rfl ?_
  refine bs_iload_n dX11_bursts_1 rfl ?_
  obtain ⟨v2, k1, h⟩ := fg_bdE h
  refine fg_callV dX11_bursts_2 qX11_143 (wX11_figureAt HX hR k1) rfl (HX.s 0 rfl rfl rfl) rfl (Nat.le_of_ble_eq_true rfl) (fg_cr (by first | decide | omega) (by decide)) (fun hR => ?_)
  cases v2 with
  | none =>
    replace h := fg_oq0 h
    refine bs_astoreN_n dX11_bursts_5 rfl (by decide) ?_
    refine bs_aloadN_n dX11_bursts_6 rfl ?_
    refine bs_ifnullN (tgt := 18) dX11_bursts_7 (by decide) ?_
    refine bs_iconst (v := (-1)) dX11_bursts_18 (by decide) ?_
    cases h
    exact bs_iret dX11_bursts_19 rfl (Nat.zero_le _) (Nat.zero_le _) (kr _ rfl hR)
  | some b3 =>
    replace h := fg_oq1 h
    obtain ⟨g4, h⟩ := fg_gdE h
    have h_b3 := fg_isF_F HX g4
    refine bs_astore_n dX11_bursts_5 rfl (by decide) ?_
    refine bs_aload_n dX11_bursts_6 rfl ?_
    refine bs_ifnull dX11_bursts_7 ?_
    refine bs_aload_n dX11_bursts_10 rfl ?_
    refine bs_iload_n dX11_bursts_11 rfl ?_
    obtain ⟨v6, k5, h⟩ := fg_bdE h
    refine fg_callV dX11_bursts_12 qX11_204 (wX1_hasBalloon HX h_b3 hR k5) rfl (h_b3.s0) rfl (Nat.le_of_ble_eq_true rfl) (fg_cr (by first | decide | omega) (by decide)) (fun hR => ?_)
    refine bs_if_ne (tgt := 20) dX11_bursts_15 (by decide) (fun c => ?_) (fun c => ?_)
    · replace h := fg_iN c h
      refine bs_aload_n dX11_bursts_20 rfl ?_
      refine fg_getR (b := (b3 + 1)) dX11_bursts_21 fX11_193 (h_b3.s0) hR (h_b3.r0) ?_
      refine bs_iload_n dX11_bursts_24 rfl ?_
      obtain ⟨g7, h⟩ := fg_gdE h
      refine bs_iald dX11_bursts_25 (h_b3.s1) (fg_in_ix g7) ?_
      refine bs_istore dX11_bursts_26 rfl (by decide) ?_
      refine bs_aload_n dX11_bursts_28 rfl ?_
      refine bs_iload_n dX11_bursts_29 rfl ?_
      refine bs_aload_n dX11_bursts_30 rfl ?_
      refine fg_getR (b := (x + 1)) dX11_bursts_31 fX11_12 (HX.s 0 rfl rfl rfl) hR (HX.r 0 0 rfl rfl rfl) ?_
      refine fg_getR (b := (x + 2)) dX11_bursts_34 fX11_207 (HX.s 1 rfl rfl rfl) hR (HX.r 1 0 rfl rfl rfl) ?_
      refine bs_iload dX11_bursts_37 rfl ?_
      obtain ⟨g8, h⟩ := fg_gdE h
      refine bs_iald dX11_bursts_39 (HX.ss 2 rfl rfl) (fg_in_ix g8) ?_
      refine bs_aload_n dX11_bursts_40 rfl ?_
      refine fg_getR (b := (x + 1)) dX11_bursts_41 fX11_12 (HX.s 0 rfl rfl rfl) hR (HX.r 0 0 rfl rfl rfl) ?_
      refine fg_getR (b := (x + 3)) dX11_bursts_44 fX11_210 (HX.s 1 rfl rfl rfl) hR (HX.r 1 1 rfl rfl rfl) ?_
      refine bs_iload dX11_bursts_47 rfl ?_
      obtain ⟨g9, h⟩ := fg_gdE h
      refine bs_iald dX11_bursts_49 (HX.ss 3 rfl rfl) (fg_in_ix g9) ?_
      obtain ⟨v11, k10, h⟩ := fg_bdE h
      refine fg_callV dX11_bursts_50 qX11_213 (wX1_burstOf HX h_b3 hR k10) rfl (h_b3.s0) rfl (Nat.le_of_ble_eq_true rfl) (fg_cr (by first | decide | omega) (by decide)) (fun hR => ?_)
      cases h
      exact bs_iret dX11_bursts_53 rfl (Nat.zero_le _) (Nat.zero_le _) (kr _ rfl hR)
    · replace h := fg_ip c h
      refine bs_iconst (v := (-1)) dX11_bursts_18 (by decide) ?_
      cases h
      exact bs_iret dX11_bursts_19 rfl (Nat.zero_le _) (Nat.zero_le _) (kr _ rfl hR)
noncomputable def FX9_clear (x : Nat) (mu : bs_Mm) : Option (Int32 × bs_Mm) :=
  fg_wr mu (x + 50) 3 (.int (nI 0)) (fun mu1 => 
  fg_wr mu1 (x + 50) 4 (.int (nI 0)) (fun mu2 => 
  some ((bs_iv (mu (x + 50) 3)), mu2)))
set_option maxHeartbeats 4000000 in
theorem wX9_clear {nx : Nat} {sh : bs_Sh} {R : Nat → Nat → Option Nat} {x : Nat} (HX : fg_S (bs_tS x) R x sh) {mu : bs_Mm} (hR : fg_R R mu) {r : Int32 × bs_Mm} (h : FX9_clear x mu = some r) : bs_C mX9_clear (bs_rm 0 0 0) [.ref (x + 50)] nx sh mu (fg_po R nx sh (some (.int r.1)) r.2) := by
  refine bs_ct (by decide +kernel) (Nat.le_of_ble_eq_true rfl) ?_
  have kr : ∀ q, r = q → fg_R R q.2 → (fg_po R nx sh (some (.int r.1)) r.2) (some (.int q.1)) nx sh q.2 := fun q e hq => by subst e; exact ⟨rfl, rfl, rfl, rfl, hq⟩
  unfold FX9_clear at h
  refine bs_aload_n dX9_clear_0 rfl ?_
  refine bs_getI dX9_clear_1 fX9_46 (HX.s 50 rfl rfl rfl) ?_
  refine bs_istore_n dX9_clear_4 rfl (by decide) ?_
  refine bs_aload_n dX9_clear_5 rfl ?_
  refine bs_iconst (v := (nI 0)) dX9_clear_6 (by decide) ?_
  refine fg_putI dX9_clear_7 pX9_46 (HX.s 50 rfl rfl rfl) (HX.n 50 3 rfl rfl rfl) hR h (fun mu1 hR h => ?_)
  refine bs_aload_n dX9_clear_10 rfl ?_
  refine bs_iconst (v := (nI 0)) dX9_clear_11 (by decide) ?_
  refine fg_putI dX9_clear_12 pX9_49 (HX.s 50 rfl rfl rfl) (HX.n 50 4 rfl rfl rfl) hR h (fun mu2 hR h => ?_)
  refine bs_iload_n dX9_clear_15 rfl ?_
  cases h
  exact bs_iret dX9_clear_16 rfl (Nat.zero_le _) (Nat.zero_le _) (kr _ rfl hR)
noncomputable def FX11_close (x : Nat) (mu : bs_Mm) : Option (Int32 × bs_Mm) :=
  fg_b2 (FX9_clear x mu) (fun v3 mu2 => 
  some (v3, mu2))
set_option maxHeartbeats 4000000 in
theorem wX11_close {nx : Nat} {sh : bs_Sh} {R : Nat → Nat → Option Nat} {x : Nat} (HX : fg_S (bs_tS x) R x sh) {mu : bs_Mm} (hR : fg_R R mu) {r : Int32 × bs_Mm} (h : FX11_close x mu = some r) : bs_C mX11_close (bs_rm 1 0 0) [.ref x] nx sh mu (fg_po R nx sh (some (.int r.1)) r.2) := by
  refine bs_ct (by decide +kernel) (Nat.le_of_ble_eq_true rfl) ?_
  have kr : ∀ q, r = q → fg_R R q.2 → (fg_po R nx sh (some (.int r.1)) r.2) (some (.int q.1)) nx sh q.2 := fun q e hq => by subst e; exact ⟨rfl, rfl, rfl, rfl, hq⟩
  unfold FX11_close at h
  refine bs_aload_n dX11_close_0 rfl ?_
  refine fg_getR (b := (x + 50)) dX11_close_1 fX11_80 (HX.s 0 rfl rfl rfl) hR (HX.r 0 10 rfl rfl rfl) ?_
  obtain ⟨v3, mu2, k1, h⟩ := fg_b2E h
  refine fg_callV dX11_close_4 qX11_305 (wX9_clear HX hR k1) rfl (HX.s 50 rfl rfl rfl) rfl (Nat.le_of_ble_eq_true rfl) (fg_cr (by first | decide | omega) (by decide)) (fun hR => ?_)
  cases h
  exact bs_iret dX11_close_7 rfl (Nat.zero_le _) (Nat.zero_le _) (kr _ rfl hR)
noncomputable def FX9_queue_j33 (x : Nat) (mu : bs_Mm) (l1 : Int32) (l2 : Int32) (l3 : Int32) : Option (Int32 × bs_Mm) :=
  fg_gd (fg_in (bs_iv (mu (x + 50) 3)) 30) (
  fg_wr mu (x + 56) (bs_iv (mu (x + 50) 3)).toNatClampNeg (.int l1) (fun mu2 => 
  fg_gd (fg_in (bs_iv (mu2 (x + 50) 3)) 30) (
  fg_wr mu2 (x + 57) (bs_iv (mu2 (x + 50) 3)).toNatClampNeg (.int l2) (fun mu4 => 
  fg_gd (fg_in (bs_iv (mu4 (x + 50) 3)) 30) (
  fg_wr mu4 (x + 58) (bs_iv (mu4 (x + 50) 3)).toNatClampNeg (.int l3) (fun mu6 => 
  fg_wr mu6 (x + 50) 3 (.int ((bs_iv (mu6 (x + 50) 3)) + (nI 1))) (fun mu7 => 
  some ((bs_iv (mu6 (x + 50) 3)), mu7))))))))
set_option maxHeartbeats 4000000 in
theorem wFX9_queue_j33 {nx : Nat} {sh : bs_Sh} {R : Nat → Nat → Option Nat} {x : Nat} (HX : fg_S (bs_tS x) R x sh) {mu : bs_Mm} {l1 : Int32} {l2 : Int32} {l3 : Int32} {Ph : bs_Po} {r : Int32 × bs_Mm} (kr : ∀ q, r = q → fg_R R q.2 → Ph (some (.int q.1)) nx sh q.2) (hR : fg_R R mu) (h : FX9_queue_j33 x mu l1 l2 l3 = some r) : bs_W Ph mX9_queue (bs_rm 0 0 0) 33 (bs_mk [(0, .ref (x + 50)), (1, .int l1), (2, .int l2), (3, .int l3)]) [] 0 0 nx sh mu := by
  unfold FX9_queue_j33 at h
  refine bs_aload_n dX9_queue_33 rfl ?_
  refine fg_getR (b := (x + 56)) dX9_queue_34 fX9_31 (HX.s 50 rfl rfl rfl) hR (HX.r 50 9 rfl rfl rfl) ?_
  refine bs_aload_n dX9_queue_37 rfl ?_
  refine bs_getI dX9_queue_38 fX9_46 (HX.s 50 rfl rfl rfl) ?_
  refine bs_iload_n dX9_queue_41 rfl ?_
  obtain ⟨g1, h⟩ := fg_gdE h
  refine fg_iast dX9_queue_42 (HX.ss 56 rfl rfl) (fun j => HX.n 56 j rfl rfl rfl) g1 hR h (fun mu2 hR h => ?_)
  refine bs_aload_n dX9_queue_43 rfl ?_
  refine fg_getR (b := (x + 57)) dX9_queue_44 fX9_34 (HX.s 50 rfl rfl rfl) hR (HX.r 50 10 rfl rfl rfl) ?_
  refine bs_aload_n dX9_queue_47 rfl ?_
  refine bs_getI dX9_queue_48 fX9_46 (HX.s 50 rfl rfl rfl) ?_
  refine bs_iload_n dX9_queue_51 rfl ?_
  obtain ⟨g3, h⟩ := fg_gdE h
  refine fg_iast dX9_queue_52 (HX.ss 57 rfl rfl) (fun j => HX.n 57 j rfl rfl rfl) g3 hR h (fun mu4 hR h => ?_)
  refine bs_aload_n dX9_queue_53 rfl ?_
  refine fg_getR (b := (x + 58)) dX9_queue_54 fX9_37 (HX.s 50 rfl rfl rfl) hR (HX.r 50 11 rfl rfl rfl) ?_
  refine bs_aload_n dX9_queue_57 rfl ?_
  refine bs_getI dX9_queue_58 fX9_46 (HX.s 50 rfl rfl rfl) ?_
  refine bs_iload_n dX9_queue_61 rfl ?_
  obtain ⟨g5, h⟩ := fg_gdE h
  refine fg_iast dX9_queue_62 (HX.ss 58 rfl rfl) (fun j => HX.n 58 j rfl rfl rfl) g5 hR h (fun mu6 hR h => ?_)
  refine bs_aload_n dX9_queue_63 rfl ?_
  refine bs_dup dX9_queue_64 rfl ?_
  refine bs_getI dX9_queue_65 fX9_46 (HX.s 50 rfl rfl rfl) ?_
  refine bs_dup_x1 dX9_queue_68 rfl rfl ?_
  refine bs_iconst (v := (nI 1)) dX9_queue_69 (by decide) ?_
  refine bs_iadd dX9_queue_70 ?_
  refine fg_putI dX9_queue_71 pX9_46 (HX.s 50 rfl rfl rfl) (HX.n 50 3 rfl rfl rfl) hR h (fun mu7 hR h => ?_)
  cases h
  exact bs_iret dX9_queue_74 rfl (Nat.zero_le _) (Nat.zero_le _) (kr _ rfl hR)
noncomputable def FX9_queue (x : Nat) (mu : bs_Mm) (p1 : Int32) (p2 : Int32) (p3 : Int32) : Option (Int32 × bs_Mm) :=
  if (nI 30) ≤ (bs_iv (mu (x + 50) 3)) then (
    some ((-1), mu)
  ) else (
    if (bs_iv (mu (x + 50) 3)) ≤ 0 then (
      FX9_queue_j33 x mu p1 p2 p3
    ) else (
      fg_gd (fg_in ((bs_iv (mu (x + 50) 3)) - (nI 1)) 30) (
      if (bs_iv (mu (x + 56) ((bs_iv (mu (x + 50) 3)) - (nI 1)).toNatClampNeg)) ≤ p1 then (
        FX9_queue_j33 x mu p1 p2 p3
      ) else (
        some ((-1), mu)
      ))
    )
  )
set_option maxHeartbeats 4000000 in
theorem wX9_queue {nx : Nat} {sh : bs_Sh} {R : Nat → Nat → Option Nat} {x : Nat} (HX : fg_S (bs_tS x) R x sh) {mu : bs_Mm} (hR : fg_R R mu) {p1 : Int32} {p2 : Int32} {p3 : Int32} {r : Int32 × bs_Mm} (h : FX9_queue x mu p1 p2 p3 = some r) : bs_C mX9_queue (bs_rm 0 0 0) [.ref (x + 50), .int p1, .int p2, .int p3] nx sh mu (fg_po R nx sh (some (.int r.1)) r.2) := by
  refine bs_ct (by decide +kernel) (Nat.le_of_ble_eq_true rfl) ?_
  have kr : ∀ q, r = q → fg_R R q.2 → (fg_po R nx sh (some (.int r.1)) r.2) (some (.int q.1)) nx sh q.2 := fun q e hq => by subst e; exact ⟨rfl, rfl, rfl, rfl, hq⟩
  unfold FX9_queue at h
  refine bs_aload_n dX9_queue_0 rfl ?_
  refine bs_getI dX9_queue_1 fX9_46 (HX.s 50 rfl rfl rfl) ?_
  refine bs_bipush (v := (nI 30)) dX9_queue_4 (by decide) ?_
  refine bs_icmp_ge (tgt := 31) dX9_queue_6 (by decide) (fun c => ?_) (fun c => ?_)
  · replace h := fg_ip c h
    refine bs_iconst (v := (-1)) dX9_queue_31 (by decide) ?_
    cases h
    exact bs_iret dX9_queue_32 rfl (Nat.zero_le _) (Nat.zero_le _) (kr _ rfl hR)
  · replace h := fg_iN c h
    refine bs_aload_n dX9_queue_9 rfl ?_
    refine bs_getI dX9_queue_10 fX9_46 (HX.s 50 rfl rfl rfl) ?_
    refine bs_if_le (tgt := 33) dX9_queue_13 (by decide) (fun c => ?_) (fun c => ?_)
    · replace h := fg_ip c h
      refine bs_W.mk [(0, .ref (x + 50)), (1, .int p1), (2, .int p2), (3, .int p3)] (by intro q hq; simp only [List.mem_cons, List.not_mem_nil, or_false] at hq; rcases hq with rfl | rfl | rfl | rfl <;> rfl) ?_
      exact wFX9_queue_j33 HX kr hR h
    · replace h := fg_iN c h
      refine bs_iload_n dX9_queue_16 rfl ?_
      refine bs_aload_n dX9_queue_17 rfl ?_
      refine fg_getR (b := (x + 56)) dX9_queue_18 fX9_31 (HX.s 50 rfl rfl rfl) hR (HX.r 50 9 rfl rfl rfl) ?_
      refine bs_aload_n dX9_queue_21 rfl ?_
      refine bs_getI dX9_queue_22 fX9_46 (HX.s 50 rfl rfl rfl) ?_
      refine bs_iconst (v := (nI 1)) dX9_queue_25 (by decide) ?_
      refine bs_isub dX9_queue_26 ?_
      obtain ⟨g8, h⟩ := fg_gdE h
      refine bs_iald dX9_queue_27 (HX.ss 56 rfl rfl) (fg_in_ix g8) ?_
      refine bs_icmp_ge (tgt := 33) dX9_queue_28 (by decide) (fun c => ?_) (fun c => ?_)
      · replace h := fg_ip c h
        refine bs_W.mk [(0, .ref (x + 50)), (1, .int p1), (2, .int p2), (3, .int p3)] (by intro q hq; simp only [List.mem_cons, List.not_mem_nil, or_false] at hq; rcases hq with rfl | rfl | rfl | rfl <;> rfl) ?_
        exact wFX9_queue_j33 HX kr hR h
      · replace h := fg_iN c h
        refine bs_iconst (v := (-1)) dX9_queue_31 (by decide) ?_
        cases h
        exact bs_iret dX9_queue_32 rfl (Nat.zero_le _) (Nat.zero_le _) (kr _ rfl hR)
noncomputable def FX11_comes (x : Nat) (mu : bs_Mm) (p1 : Int32) (p2 : Int32) (p3 : Int32) : Option (Int32 × bs_Mm) :=
  fg_bd (FX11_figureAt x mu p2) (fun v2 => 
  fg_oq v2 (
    some ((-1), mu)
  ) (fun b3 => fg_gd (fg_isF x b3) (
    if p1 < 0 then (
      some ((-1), mu)
    ) else (
      if (nI 9999) < p1 then (
        some ((-1), mu)
      ) else (
        if p3 < 0 then (
          some ((-1), mu)
        ) else (
          if p3 ≤ (nI 999) then (
            fg_b2 (FX9_queue x mu p1 p2 p3) (fun v7 mu6 => 
            some (v7, mu6))
          ) else (
            some ((-1), mu)
          )
        )
      )
    )
  )))
set_option maxHeartbeats 4000000 in
theorem wX11_comes {nx : Nat} {sh : bs_Sh} {R : Nat → Nat → Option Nat} {x : Nat} (HX : fg_S (bs_tS x) R x sh) {mu : bs_Mm} (hR : fg_R R mu) {p1 : Int32} {p2 : Int32} {p3 : Int32} {r : Int32 × bs_Mm} (h : FX11_comes x mu p1 p2 p3 = some r) : bs_C mX11_comes (bs_rm 1 0 0) [.ref x, .int p1, .int p2, .int p3] nx sh mu (fg_po R nx sh (some (.int r.1)) r.2) := by
  refine bs_ct (by decide +kernel) (Nat.le_of_ble_eq_true rfl) ?_
  have kr : ∀ q, r = q → fg_R R q.2 → (fg_po R nx sh (some (.int r.1)) r.2) (some (.int q.1)) nx sh q.2 := fun q e hq => by subst e; exact ⟨rfl, rfl, rfl, rfl, hq⟩
  unfold FX11_comes at h
  refine bs_aload_n dX11_comes_0 rfl ?_
  refine bs_iload_n dX11_comes_1 rfl ?_
  obtain ⟨v2, k1, h⟩ := fg_bdE h
  refine fg_callV dX11_comes_2 qX11_143 (wX11_figureAt HX hR k1) rfl (HX.s 0 rfl rfl rfl) rfl (Nat.le_of_ble_eq_true rfl) (fg_cr (by first | decide | omega) (by decide)) (fun hR => ?_)
  cases v2 with
  | none =>
    replace h := fg_oq0 h
    refine bs_ifnullN (tgt := 30) dX11_comes_5 (by decide) ?_
    refine bs_iconst (v := (-1)) dX11_comes_30 (by decide) ?_
    cases h
    exact bs_iret dX11_comes_31 rfl (Nat.zero_le _) (Nat.zero_le _) (kr _ rfl hR)
  | some b3 =>
    replace h := fg_oq1 h
    obtain ⟨g4, h⟩ := fg_gdE h
    have h_b3 := fg_isF_F HX g4
    refine bs_ifnull dX11_comes_5 ?_
    refine bs_iload_n dX11_comes_8 rfl ?_
    refine bs_if_lt (tgt := 30) dX11_comes_9 (by decide) (fun c => ?_) (fun c => ?_)
    · replace h := fg_ip c h
      refine bs_iconst (v := (-1)) dX11_comes_30 (by decide) ?_
      cases h
      exact bs_iret dX11_comes_31 rfl (Nat.zero_le _) (Nat.zero_le _) (kr _ rfl hR)
    · replace h := fg_iN c h
      refine bs_iload_n dX11_comes_12 rfl ?_
      refine bs_sipush (v := (nI 9999)) dX11_comes_13 (by decide) ?_
      refine bs_icmp_gt (tgt := 30) dX11_comes_16 (by decide) (fun c => ?_) (fun c => ?_)
      · replace h := fg_ip c h
        refine bs_iconst (v := (-1)) dX11_comes_30 (by decide) ?_
        cases h
        exact bs_iret dX11_comes_31 rfl (Nat.zero_le _) (Nat.zero_le _) (kr _ rfl hR)
      · replace h := fg_iN c h
        refine bs_iload_n dX11_comes_19 rfl ?_
        refine bs_if_lt (tgt := 30) dX11_comes_20 (by decide) (fun c => ?_) (fun c => ?_)
        · replace h := fg_ip c h
          refine bs_iconst (v := (-1)) dX11_comes_30 (by decide) ?_
          cases h
          exact bs_iret dX11_comes_31 rfl (Nat.zero_le _) (Nat.zero_le _) (kr _ rfl hR)
        · replace h := fg_iN c h
          refine bs_iload_n dX11_comes_23 rfl ?_
          refine bs_sipush (v := (nI 999)) dX11_comes_24 (by decide) ?_
          refine bs_icmp_le (tgt := 32) dX11_comes_27 (by decide) (fun c => ?_) (fun c => ?_)
          · replace h := fg_ip c h
            refine bs_aload_n dX11_comes_32 rfl ?_
            refine fg_getR (b := (x + 50)) dX11_comes_33 fX11_80 (HX.s 0 rfl rfl rfl) hR (HX.r 0 10 rfl rfl rfl) ?_
            refine bs_iload_n dX11_comes_36 rfl ?_
            refine bs_iload_n dX11_comes_37 rfl ?_
            refine bs_iload_n dX11_comes_38 rfl ?_
            obtain ⟨v7, mu6, k5, h⟩ := fg_b2E h
            refine fg_callV dX11_comes_39 qX11_302 (wX9_queue HX hR k5) rfl (HX.s 50 rfl rfl rfl) rfl (Nat.le_of_ble_eq_true rfl) (fg_cr (by first | decide | omega) (by decide)) (fun hR => ?_)
            cases h
            exact bs_iret dX11_comes_42 rfl (Nat.zero_le _) (Nat.zero_le _) (kr _ rfl hR)
          · replace h := fg_iN c h
            refine bs_iconst (v := (-1)) dX11_comes_30 (by decide) ?_
            cases h
            exact bs_iret dX11_comes_31 rfl (Nat.zero_le _) (Nat.zero_le _) (kr _ rfl hR)
noncomputable def FX11_count (x : Nat) (mu : bs_Mm) (p1 : Int32) : Option (Int32) :=
  if p1 = (nI 0) then (
    some ((bs_iv (mu (x + 1) 3)))
  ) else (
  if p1 = (nI 1) then (
    some ((bs_iv (mu x 13)))
  ) else (
  if p1 = (nI 2) then (
    some ((bs_iv (mu (x + 50) 3)))
  ) else (
  if p1 = (nI 3) then (
    some ((bs_iv (mu (x + 5) 1)))
  ) else (
  if p1 = (nI 4) then (
    some ((bs_iv (mu x 14)))
  ) else (
  some ((-1))
  )))))
set_option maxHeartbeats 4000000 in
theorem wX11_count {nx : Nat} {sh : bs_Sh} {R : Nat → Nat → Option Nat} {x : Nat} (HX : fg_S (bs_tS x) R x sh) {mu : bs_Mm} (hR : fg_R R mu) {p1 : Int32} {r : Int32} (h : FX11_count x mu p1 = some r) : bs_C mX11_count (bs_rm 0 0 0) [.ref x, .int p1] nx sh mu (fg_po R nx sh (some (.int r)) mu) := by
  refine bs_ct (by decide +kernel) (Nat.le_of_ble_eq_true rfl) ?_
  have kr : ∀ q, r = q → fg_R R mu → (fg_po R nx sh (some (.int r)) mu) (some (.int q)) nx sh mu := fun q e hq => by subst e; exact ⟨rfl, rfl, rfl, rfl, hq⟩
  unfold FX11_count at h
  refine bs_iload_n dX11_count_0 rfl ?_
  by_cases e1 : p1 = (nI 0)
  · replace h := fg_ip e1 h
    refine bs_tableIn (off := 35) (tgt := 36) dX11_count_1 (by rw [e1]; decide) (by rw [e1]; decide) (by rw [e1]; decide) (by decide) ?_
    refine bs_aload_n dX11_count_36 rfl ?_
    refine fg_getR (b := (x + 1)) dX11_count_37 fX11_12 (HX.s 0 rfl rfl rfl) hR (HX.r 0 0 rfl rfl rfl) ?_
    refine bs_getI dX11_count_40 fX11_109 (HX.s 1 rfl rfl rfl) ?_
    cases h
    exact bs_iret dX11_count_43 rfl (Nat.zero_le _) (Nat.zero_le _) (kr _ rfl hR)
  · replace h := fg_iN e1 h
    by_cases e2 : p1 = (nI 1)
    · replace h := fg_ip e2 h
      refine bs_tableIn (off := 43) (tgt := 44) dX11_count_1 (by rw [e2]; decide) (by rw [e2]; decide) (by rw [e2]; decide) (by decide) ?_
      refine bs_aload_n dX11_count_44 rfl ?_
      refine bs_getI dX11_count_45 fX11_131 (HX.s 0 rfl rfl rfl) ?_
      cases h
      exact bs_iret dX11_count_48 rfl (Nat.zero_le _) (Nat.zero_le _) (kr _ rfl hR)
    · replace h := fg_iN e2 h
      by_cases e3 : p1 = (nI 2)
      · replace h := fg_ip e3 h
        refine bs_tableIn (off := 48) (tgt := 49) dX11_count_1 (by rw [e3]; decide) (by rw [e3]; decide) (by rw [e3]; decide) (by decide) ?_
        refine bs_aload_n dX11_count_49 rfl ?_
        refine fg_getR (b := (x + 50)) dX11_count_50 fX11_80 (HX.s 0 rfl rfl rfl) hR (HX.r 0 10 rfl rfl rfl) ?_
        refine bs_getI dX11_count_53 fX11_363 (HX.s 50 rfl rfl rfl) ?_
        cases h
        exact bs_iret dX11_count_56 rfl (Nat.zero_le _) (Nat.zero_le _) (kr _ rfl hR)
      · replace h := fg_iN e3 h
        by_cases e4 : p1 = (nI 3)
        · replace h := fg_ip e4 h
          refine bs_tableIn (off := 56) (tgt := 57) dX11_count_1 (by rw [e4]; decide) (by rw [e4]; decide) (by rw [e4]; decide) (by decide) ?_
          refine bs_aload_n dX11_count_57 rfl ?_
          refine fg_getR (b := (x + 5)) dX11_count_58 fX11_19 (HX.s 0 rfl rfl rfl) hR (HX.r 0 1 rfl rfl rfl) ?_
          refine bs_getI dX11_count_61 fX11_101 (HX.s 5 rfl rfl rfl) ?_
          cases h
          exact bs_iret dX11_count_64 rfl (Nat.zero_le _) (Nat.zero_le _) (kr _ rfl hR)
        · replace h := fg_iN e4 h
          by_cases e5 : p1 = (nI 4)
          · replace h := fg_ip e5 h
            refine bs_tableIn (off := 64) (tgt := 65) dX11_count_1 (by rw [e5]; decide) (by rw [e5]; decide) (by rw [e5]; decide) (by decide) ?_
            refine bs_aload_n dX11_count_65 rfl ?_
            refine bs_getI dX11_count_66 fX11_134 (HX.s 0 rfl rfl rfl) ?_
            cases h
            exact bs_iret dX11_count_69 rfl (Nat.zero_le _) (Nat.zero_le _) (kr _ rfl hR)
          · replace h := fg_iN e5 h
            refine fg_tabD (b := 0) (tgt := 70) (sp := [0, 1, 2, 3, 4]) dX11_count_1 (by decide) (by decide) (by decide) ?_ (by decide) ?_
            · intro k hk; simp only [List.mem_cons, List.not_mem_nil, or_false] at hk; rcases hk with rfl | rfl | rfl | rfl | rfl <;> assumption
            · refine bs_iconst (v := (-1)) dX11_count_70 (by decide) ?_
              cases h
              exact bs_iret dX11_count_71 rfl (Nat.zero_le _) (Nat.zero_le _) (kr _ rfl hR)
noncomputable def FX11_end (x : Nat) (mu : bs_Mm) (p1 : Int32) : Option (Int32 × bs_Mm) :=
  if p1 < 0 then (
    some ((nI 0), mu)
  ) else (
    if p1 ≤ (bs_iv (mu (x + 5) 1)) then (
      fg_wr mu (x + 5) 1 (.int p1) (fun mu1 => 
      some ((nI 1), mu1))
    ) else (
      some ((nI 0), mu)
    )
  )
set_option maxHeartbeats 4000000 in
theorem wX11_end {nx : Nat} {sh : bs_Sh} {R : Nat → Nat → Option Nat} {x : Nat} (HX : fg_S (bs_tS x) R x sh) {mu : bs_Mm} (hR : fg_R R mu) {p1 : Int32} {r : Int32 × bs_Mm} (h : FX11_end x mu p1 = some r) : bs_C mX11_end (bs_rm 0 0 0) [.ref x, .int p1] nx sh mu (fg_po R nx sh (some (.int r.1)) r.2) := by
  refine bs_ct (by decide +kernel) (Nat.le_of_ble_eq_true rfl) ?_
  have kr : ∀ q, r = q → fg_R R q.2 → (fg_po R nx sh (some (.int r.1)) r.2) (some (.int q.1)) nx sh q.2 := fun q e hq => by subst e; exact ⟨rfl, rfl, rfl, rfl, hq⟩
  unfold FX11_end at h
  refine bs_iload_n dX11_end_0 rfl ?_
  refine bs_if_lt (tgt := 15) dX11_end_1 (by decide) (fun c => ?_) (fun c => ?_)
  · replace h := fg_ip c h
    refine bs_iconst (v := (nI 0)) dX11_end_15 (by decide) ?_
    cases h
    exact bs_zret dX11_end_16 rfl (Or.inl rfl) (Nat.zero_le _) (Nat.zero_le _) (kr _ rfl hR)
  · replace h := fg_iN c h
    refine bs_iload_n dX11_end_4 rfl ?_
    refine bs_aload_n dX11_end_5 rfl ?_
    refine fg_getR (b := (x + 5)) dX11_end_6 fX11_19 (HX.s 0 rfl rfl rfl) hR (HX.r 0 1 rfl rfl rfl) ?_
    refine bs_getI dX11_end_9 fX11_101 (HX.s 5 rfl rfl rfl) ?_
    refine bs_icmp_le (tgt := 17) dX11_end_12 (by decide) (fun c => ?_) (fun c => ?_)
    · replace h := fg_ip c h
      refine bs_aload_n dX11_end_17 rfl ?_
      refine fg_getR (b := (x + 5)) dX11_end_18 fX11_19 (HX.s 0 rfl rfl rfl) hR (HX.r 0 1 rfl rfl rfl) ?_
      refine bs_iload_n dX11_end_21 rfl ?_
      refine fg_putI dX11_end_22 pX11_101 (HX.s 5 rfl rfl rfl) (HX.n 5 1 rfl rfl rfl) hR h (fun mu1 hR h => ?_)
      refine bs_iconst (v := (nI 1)) dX11_end_25 (by decide) ?_
      cases h
      exact bs_zret dX11_end_26 rfl (Or.inr rfl) (Nat.zero_le _) (Nat.zero_le _) (kr _ rfl hR)
    · replace h := fg_iN c h
      refine bs_iconst (v := (nI 0)) dX11_end_15 (by decide) ?_
      cases h
      exact bs_zret dX11_end_16 rfl (Or.inl rfl) (Nat.zero_le _) (Nat.zero_le _) (kr _ rfl hR)
noncomputable def FX11_ends (x : Nat) (mu : bs_Mm) (p1 : Int32) (p2 : Int32) : Option (Int32) :=
  fg_bd (FX11_figureAt x mu p1) (fun v2 => 
  fg_oq v2 (
    some ((-1))
  ) (fun b3 => fg_gd (fg_isF x b3) (
    fg_bd (FX1_hasPoint x b3 mu p2) (fun v6 => 
    if v6 = 0 then (
      some ((-1))
    ) else (
      fg_gd (fg_in p2 30) (
      some ((bs_iv (mu (b3 + 6) p2.toNatClampNeg))))
    ))
  )))
set_option maxHeartbeats 4000000 in
theorem wX11_ends {nx : Nat} {sh : bs_Sh} {R : Nat → Nat → Option Nat} {x : Nat} (HX : fg_S (bs_tS x) R x sh) {mu : bs_Mm} (hR : fg_R R mu) {p1 : Int32} {p2 : Int32} {r : Int32} (h : FX11_ends x mu p1 p2 = some r) : bs_C mX11_ends (bs_rm 1 0 0) [.ref x, .int p1, .int p2] nx sh mu (fg_po R nx sh (some (.int r)) mu) := by
  refine bs_ct (by decide +kernel) (Nat.le_of_ble_eq_true rfl) ?_
  have kr : ∀ q, r = q → fg_R R mu → (fg_po R nx sh (some (.int r)) mu) (some (.int q)) nx sh mu := fun q e hq => by subst e; exact ⟨rfl, rfl, rfl, rfl, hq⟩
  unfold FX11_ends at h
  refine bs_aload_n dX11_ends_0 rfl ?_
  refine bs_iload_n dX11_ends_1 rfl ?_
  obtain ⟨v2, k1, h⟩ := fg_bdE h
  refine fg_callV dX11_ends_2 qX11_143 (wX11_figureAt HX hR k1) rfl (HX.s 0 rfl rfl rfl) rfl (Nat.le_of_ble_eq_true rfl) (fg_cr (by first | decide | omega) (by decide)) (fun hR => ?_)
  cases v2 with
  | none =>
    replace h := fg_oq0 h
    refine bs_astoreN_n dX11_ends_5 rfl (by decide) ?_
    refine bs_aloadN_n dX11_ends_6 rfl ?_
    refine bs_ifnullN (tgt := 18) dX11_ends_7 (by decide) ?_
    refine bs_iconst (v := (-1)) dX11_ends_18 (by decide) ?_
    refine bs_goto (tgt := 28) dX11_ends_19 (by decide) ?_
    cases h
    exact bs_iret dX11_ends_28 rfl (Nat.zero_le _) (Nat.zero_le _) (kr _ rfl hR)
  | some b3 =>
    replace h := fg_oq1 h
    obtain ⟨g4, h⟩ := fg_gdE h
    have h_b3 := fg_isF_F HX g4
    refine bs_astore_n dX11_ends_5 rfl (by decide) ?_
    refine bs_aload_n dX11_ends_6 rfl ?_
    refine bs_ifnull dX11_ends_7 ?_
    refine bs_aload_n dX11_ends_10 rfl ?_
    refine bs_iload_n dX11_ends_11 rfl ?_
    obtain ⟨v6, k5, h⟩ := fg_bdE h
    refine fg_callV dX11_ends_12 qX11_198 (wX1_hasPoint HX h_b3 hR k5) rfl (h_b3.s0) rfl (Nat.le_of_ble_eq_true rfl) (fg_cr (by first | decide | omega) (by decide)) (fun hR => ?_)
    refine bs_if_ne (tgt := 22) dX11_ends_15 (by decide) (fun c => ?_) (fun c => ?_)
    · replace h := fg_iN c h
      refine bs_aload_n dX11_ends_22 rfl ?_
      refine fg_getR (b := (b3 + 6)) dX11_ends_23 fX11_201 (h_b3.s0) hR (h_b3.r5) ?_
      refine bs_iload_n dX11_ends_26 rfl ?_
      obtain ⟨g7, h⟩ := fg_gdE h
      refine bs_iald dX11_ends_27 (h_b3.s6) (fg_in_ix g7) ?_
      cases h
      exact bs_iret dX11_ends_28 rfl (Nat.zero_le _) (Nat.zero_le _) (kr _ rfl hR)
    · replace h := fg_ip c h
      refine bs_iconst (v := (-1)) dX11_ends_18 (by decide) ?_
      refine bs_goto (tgt := 28) dX11_ends_19 (by decide) ?_
      cases h
      exact bs_iret dX11_ends_28 rfl (Nat.zero_le _) (Nat.zero_le _) (kr _ rfl hR)
noncomputable def FX5_mergeGroups_b3 (x : Nat)  (l1 : Int32) (l2 : Int32) (l3 : Int32) (s : Int32 × bs_Mm) : Option ((Int32 × bs_Mm) ⊕ (bs_Mm)) :=
  if l1 ≤ s.1 then (
    some (.inr s.2)
  ) else (
    fg_gd (fg_in s.1 30) (
    if (bs_iv (s.2 (x + 29) s.1.toNatClampNeg)) = l3 then (
      fg_gd (fg_in s.1 30) (
      fg_wr s.2 (x + 29) s.1.toNatClampNeg (.int l2) (fun mu6 => 
      some (.inl ((s.1 + (nI 1)), mu6))))
    ) else (
      fg_gd (fg_in s.1 30) (
      fg_gd (fg_in s.1 30) (
      fg_wr s.2 (x + 29) s.1.toNatClampNeg (.int (bs_iv (s.2 (x + 29) s.1.toNatClampNeg))) (fun mu4 => 
      some (.inl ((s.1 + (nI 1)), mu4)))))
    ))
  )
set_option maxHeartbeats 4000000 in
theorem wFX5_mergeGroups_b3 {nx : Nat} {sh : bs_Sh} {R : Nat → Nat → Option Nat} {x : Nat} (HX : fg_S (bs_tS x) R x sh) {l1 : Int32} {l2 : Int32} {l3 : Int32} {Ph : bs_Po} {s : Int32 × bs_Mm} {r : (Int32 × bs_Mm) ⊕ (bs_Mm)} (ka : ∀ s, r = .inl s → fg_R R s.2 → bs_W Ph mX5_mergeGroups (bs_rm 0 0 0) 3 (bs_mk [(0, .ref (x + 26)), (1, .int l1), (2, .int l2), (3, .int l3), (4, .int s.1)]) [] 0 0 nx sh s.2) (ke : ∀ s, r = .inr s → fg_R R s → bs_W Ph mX5_mergeGroups (bs_rm 0 0 0) 44 (bs_mk [(0, .ref (x + 26)), (1, .int l1), (2, .int l2), (3, .int l3)]) [] 0 0 nx sh s) (hR : fg_R R s.2) (h : FX5_mergeGroups_b3 x l1 l2 l3 s = some r) : bs_W Ph mX5_mergeGroups (bs_rm 0 0 0) 3 (bs_mk [(0, .ref (x + 26)), (1, .int l1), (2, .int l2), (3, .int l3), (4, .int s.1)]) [] 0 0 nx sh s.2 := by
  unfold FX5_mergeGroups_b3 at h
  refine bs_iload dX5_mergeGroups_3 rfl ?_
  refine bs_iload_n dX5_mergeGroups_5 rfl ?_
  refine bs_icmp_ge (tgt := 44) dX5_mergeGroups_6 (by decide) (fun c => ?_) (fun c => ?_)
  · replace h := fg_ip c h
    cases h
    refine bs_W.mk [(0, .ref (x + 26)), (1, .int l1), (2, .int l2), (3, .int l3)] (by intro q hq; simp only [List.mem_cons, List.not_mem_nil, or_false] at hq; rcases hq with rfl | rfl | rfl | rfl <;> rfl) (ke _ rfl hR)
  · replace h := fg_iN c h
    refine bs_aload_n dX5_mergeGroups_9 rfl ?_
    refine fg_getR (b := (x + 29)) dX5_mergeGroups_10 fX5_18 (HX.s 26 rfl rfl rfl) hR (HX.r 26 2 rfl rfl rfl) ?_
    refine bs_iload dX5_mergeGroups_13 rfl ?_
    refine bs_aload_n dX5_mergeGroups_15 rfl ?_
    refine fg_getR (b := (x + 29)) dX5_mergeGroups_16 fX5_18 (HX.s 26 rfl rfl rfl) hR (HX.r 26 2 rfl rfl rfl) ?_
    refine bs_iload dX5_mergeGroups_19 rfl ?_
    obtain ⟨g1, h⟩ := fg_gdE h
    refine bs_iald dX5_mergeGroups_21 (HX.ss 29 rfl rfl) (fg_in_ix g1) ?_
    refine bs_iload_n dX5_mergeGroups_22 rfl ?_
    refine bs_icmp_ne (tgt := 30) dX5_mergeGroups_23 (by decide) (fun c => ?_) (fun c => ?_)
    · replace h := fg_iN c h
      refine bs_aload_n dX5_mergeGroups_30 rfl ?_
      refine fg_getR (b := (x + 29)) dX5_mergeGroups_31 fX5_18 (HX.s 26 rfl rfl rfl) hR (HX.r 26 2 rfl rfl rfl) ?_
      refine bs_iload dX5_mergeGroups_34 rfl ?_
      obtain ⟨g2, h⟩ := fg_gdE h
      refine bs_iald dX5_mergeGroups_36 (HX.ss 29 rfl rfl) (fg_in_ix g2) ?_
      obtain ⟨g3, h⟩ := fg_gdE h
      refine fg_iast dX5_mergeGroups_37 (HX.ss 29 rfl rfl) (fun j => HX.n 29 j rfl rfl rfl) g3 hR h (fun mu4 hR h => ?_)
      refine fg_iinc (m := (nI 1)) dX5_mergeGroups_38 rfl rfl (by decide) ?_
      refine bs_goto (tgt := 3) dX5_mergeGroups_41 (by decide) ?_
      cases h
      refine bs_W.mk [(0, .ref (x + 26)), (1, .int l1), (2, .int l2), (3, .int l3), (4, .int (s.1 + (nI 1)))] (by intro q hq; simp only [List.mem_cons, List.not_mem_nil, or_false] at hq; rcases hq with rfl | rfl | rfl | rfl | rfl <;> rfl) (by have k := ka _ rfl hR; dsimp only at k; exact k)
    · replace h := fg_ip c h
      refine bs_iload_n dX5_mergeGroups_26 rfl ?_
      refine bs_goto (tgt := 37) dX5_mergeGroups_27 (by decide) ?_
      obtain ⟨g5, h⟩ := fg_gdE h
      refine fg_iast dX5_mergeGroups_37 (HX.ss 29 rfl rfl) (fun j => HX.n 29 j rfl rfl rfl) g5 hR h (fun mu6 hR h => ?_)
      refine fg_iinc (m := (nI 1)) dX5_mergeGroups_38 rfl rfl (by decide) ?_
      refine bs_goto (tgt := 3) dX5_mergeGroups_41 (by decide) ?_
      cases h
      refine bs_W.mk [(0, .ref (x + 26)), (1, .int l1), (2, .int l2), (3, .int l3), (4, .int (s.1 + (nI 1)))] (by intro q hq; simp only [List.mem_cons, List.not_mem_nil, or_false] at hq; rcases hq with rfl | rfl | rfl | rfl | rfl <;> rfl) (by have k := ka _ rfl hR; dsimp only at k; exact k)
theorem wFX5_mergeGroups_l3 {nx : Nat} {sh : bs_Sh} {R : Nat → Nat → Option Nat} {x : Nat} (HX : fg_S (bs_tS x) R x sh) {l1 : Int32} {l2 : Int32} {l3 : Int32} {Ph : bs_Po} {t : bs_Mm} : ∀ n (y0 : Int32) (mu1 : bs_Mm), fg_lp (FX5_mergeGroups_b3 x l1 l2 l3) n (y0, mu1) = some t → fg_R R mu1 → (ke : ∀ s, t = s → fg_R R s → bs_W Ph mX5_mergeGroups (bs_rm 0 0 0) 44 (bs_mk [(0, .ref (x + 26)), (1, .int l1), (2, .int l2), (3, .int l3)]) [] 0 0 nx sh s) → bs_W Ph mX5_mergeGroups (bs_rm 0 0 0) 3 (bs_mk [(0, .ref (x + 26)), (1, .int l1), (2, .int l2), (3, .int l3), (4, .int y0)]) [] 0 0 nx sh mu1 := by
  intro n
  induction n with
  | zero => intro y0 mu1 h; exact absurd h (fun z => fg_lp0 z)
  | succ n ih =>
    intro y0 mu1 h hR ke
    obtain ⟨r, hb, h1, h2⟩ := fg_lpE h
    exact wFX5_mergeGroups_b3 (s := (y0, mu1)) HX (fun s' e hR' => ih s'.1 s'.2 (h1 s' e) hR' ke) (fun s' e => ke s' (h2 _ e).symm) hR hb
noncomputable def FX5_mergeGroups (x : Nat) (mu : bs_Mm) (p1 : Int32) (p2 : Int32) (p3 : Int32) : Option (bs_Mm) :=
  fg_bd (fg_lp (FX5_mergeGroups_b3 x p1 p2 p3) fg_fu ((nI 0), mu)) (fun t7 => 
    some t7
  )
set_option maxHeartbeats 4000000 in
theorem wX5_mergeGroups {nx : Nat} {sh : bs_Sh} {R : Nat → Nat → Option Nat} {x : Nat} (HX : fg_S (bs_tS x) R x sh) {mu : bs_Mm} (hR : fg_R R mu) {p1 : Int32} {p2 : Int32} {p3 : Int32} {r : bs_Mm} (h : FX5_mergeGroups x mu p1 p2 p3 = some r) : bs_C mX5_mergeGroups (bs_rm 0 0 0) [.ref (x + 26), .int p1, .int p2, .int p3] nx sh mu (fg_po R nx sh none r) := by
  refine bs_ct (by decide +kernel) (Nat.le_of_ble_eq_true rfl) ?_
  have kr : ∀ q, r = q → fg_R R q → (fg_po R nx sh none r) none nx sh q := fun q e hq => by subst e; exact ⟨rfl, rfl, rfl, rfl, hq⟩
  unfold FX5_mergeGroups at h
  refine bs_iconst (v := (nI 0)) dX5_mergeGroups_0 (by decide) ?_
  refine bs_istore dX5_mergeGroups_1 rfl (by decide) ?_
  obtain ⟨t7, k8, h⟩ := fg_bdE h
  refine bs_W.mk [(0, .ref (x + 26)), (1, .int p1), (2, .int p2), (3, .int p3), (4, .int (nI 0))] (by intro q hq; simp only [List.mem_cons, List.not_mem_nil, or_false] at hq; rcases hq with rfl | rfl | rfl | rfl | rfl <;> rfl) ?_
  refine wFX5_mergeGroups_l3 HX _ _ _ k8 hR ?_
  intro s e hR
  subst e
  cases h
  exact bs_vret dX5_mergeGroups_44 rfl (Nat.zero_le _) (Nat.zero_le _) (kr _ rfl hR)
noncomputable def FX5_parts_b11 (x : Nat) (p1 : Nat)  (l2 : Int32) (s : Int32 × Int32 × bs_Mm) : Option ((Int32 × Int32 × bs_Mm) ⊕ (Int32 × bs_Mm)) :=
  if (bs_iv (s.2.2 p1 8)) ≤ s.2.1 then (
    some (.inr (s.1, s.2.2))
  ) else (
    fg_gd (fg_in s.2.1 30) (
    fg_wr s.2.2 (x + 29) s.2.1.toNatClampNeg (.int s.2.1) (fun mu4 => 
    fg_gd (fg_in s.2.1 30) (
    if (bs_iv (mu4 (x + 28) s.2.1.toNatClampNeg)) ≤ 0 then (
      some (.inl ((s.1 + (nI 0)), (s.2.1 + (nI 1)), mu4))
    ) else (
      some (.inl ((s.1 + (nI 1)), (s.2.1 + (nI 1)), mu4))
    ))))
  )
set_option maxHeartbeats 4000000 in
theorem wFX5_parts_b11 {nx : Nat} {sh : bs_Sh} {R : Nat → Nat → Option Nat} {x : Nat} (HX : fg_S (bs_tS x) R x sh) {p1 : Nat} (h_p1 : fg_F R sh p1) {l2 : Int32} {Ph : bs_Po} {s : Int32 × Int32 × bs_Mm} {r : (Int32 × Int32 × bs_Mm) ⊕ (Int32 × bs_Mm)} (ka : ∀ s, r = .inl s → fg_R R s.2.2 → bs_W Ph mX5_parts (bs_rm 2 0 0) 11 (bs_mk [(0, .ref (x + 26)), (1, .ref p1), (2, .int l2), (3, .int s.1), (4, .int s.2.1)]) [] 0 0 nx sh s.2.2) (ke : ∀ s, r = .inr s → fg_R R s.2 → bs_W Ph mX5_parts (bs_rm 2 0 0) 53 (bs_mk [(0, .ref (x + 26)), (1, .ref p1), (2, .int l2), (3, .int s.1)]) [] 0 0 nx sh s.2) (hR : fg_R R s.2.2) (h : FX5_parts_b11 x p1 l2 s = some r) : bs_W Ph mX5_parts (bs_rm 2 0 0) 11 (bs_mk [(0, .ref (x + 26)), (1, .ref p1), (2, .int l2), (3, .int s.1), (4, .int s.2.1)]) [] 0 0 nx sh s.2.2 := by
  unfold FX5_parts_b11 at h
  refine bs_iload dX5_parts_11 rfl ?_
  refine bs_aload_n dX5_parts_13 rfl ?_
  refine bs_getI dX5_parts_14 fX5_61 (h_p1.s0) ?_
  refine bs_icmp_ge (tgt := 53) dX5_parts_17 (by decide) (fun c => ?_) (fun c => ?_)
  · replace h := fg_ip c h
    cases h
    refine bs_W.mk [(0, .ref (x + 26)), (1, .ref p1), (2, .int l2), (3, .int s.1)] (by intro q hq; simp only [List.mem_cons, List.not_mem_nil, or_false] at hq; rcases hq with rfl | rfl | rfl | rfl <;> rfl) (ke _ rfl hR)
  · replace h := fg_iN c h
    refine bs_aload_n dX5_parts_20 rfl ?_
    refine fg_getR (b := (x + 29)) dX5_parts_21 fX5_18 (HX.s 26 rfl rfl rfl) hR (HX.r 26 2 rfl rfl rfl) ?_
    refine bs_iload dX5_parts_24 rfl ?_
    refine bs_iload dX5_parts_26 rfl ?_
    obtain ⟨g3, h⟩ := fg_gdE h
    refine fg_iast dX5_parts_28 (HX.ss 29 rfl rfl) (fun j => HX.n 29 j rfl rfl rfl) g3 hR h (fun mu4 hR h => ?_)
    refine bs_iload_n dX5_parts_29 rfl ?_
    refine bs_aload_n dX5_parts_30 rfl ?_
    refine fg_getR (b := (x + 28)) dX5_parts_31 fX5_15 (HX.s 26 rfl rfl rfl) hR (HX.r 26 1 rfl rfl rfl) ?_
    refine bs_iload dX5_parts_34 rfl ?_
    obtain ⟨g5, h⟩ := fg_gdE h
    refine bs_iald dX5_parts_36 (HX.ss 28 rfl rfl) (fg_in_ix g5) ?_
    refine bs_if_le (tgt := 44) dX5_parts_37 (by decide) (fun c => ?_) (fun c => ?_)
    · replace h := fg_ip c h
      refine bs_iconst (v := (nI 0)) dX5_parts_44 (by decide) ?_
      refine bs_iadd dX5_parts_45 ?_
      refine bs_istore_n dX5_parts_46 rfl (by decide) ?_
      refine fg_iinc (m := (nI 1)) dX5_parts_47 rfl rfl (by decide) ?_
      refine bs_goto (tgt := 11) dX5_parts_50 (by decide) ?_
      cases h
      refine bs_W.mk [(0, .ref (x + 26)), (1, .ref p1), (2, .int l2), (3, .int (s.1 + (nI 0))), (4, .int (s.2.1 + (nI 1)))] (by intro q hq; simp only [List.mem_cons, List.not_mem_nil, or_false] at hq; rcases hq with rfl | rfl | rfl | rfl | rfl <;> rfl) (by have k := ka _ rfl hR; dsimp only at k; exact k)
    · replace h := fg_iN c h
      refine bs_iconst (v := (nI 1)) dX5_parts_40 (by decide) ?_
      refine bs_goto (tgt := 45) dX5_parts_41 (by decide) ?_
      refine bs_iadd dX5_parts_45 ?_
      refine bs_istore_n dX5_parts_46 rfl (by decide) ?_
      refine fg_iinc (m := (nI 1)) dX5_parts_47 rfl rfl (by decide) ?_
      refine bs_goto (tgt := 11) dX5_parts_50 (by decide) ?_
      cases h
      refine bs_W.mk [(0, .ref (x + 26)), (1, .ref p1), (2, .int l2), (3, .int (s.1 + (nI 1))), (4, .int (s.2.1 + (nI 1)))] (by intro q hq; simp only [List.mem_cons, List.not_mem_nil, or_false] at hq; rcases hq with rfl | rfl | rfl | rfl | rfl <;> rfl) (by have k := ka _ rfl hR; dsimp only at k; exact k)
theorem wFX5_parts_l11 {nx : Nat} {sh : bs_Sh} {R : Nat → Nat → Option Nat} {x : Nat} (HX : fg_S (bs_tS x) R x sh) {p1 : Nat} (h_p1 : fg_F R sh p1) {l2 : Int32} {Ph : bs_Po} {t : Int32 × bs_Mm} : ∀ n (y0 : Int32) (y1 : Int32) (mu1 : bs_Mm), fg_lp (FX5_parts_b11 x p1 l2) n (y0, y1, mu1) = some t → fg_R R mu1 → (ke : ∀ s, t = s → fg_R R s.2 → bs_W Ph mX5_parts (bs_rm 2 0 0) 53 (bs_mk [(0, .ref (x + 26)), (1, .ref p1), (2, .int l2), (3, .int s.1)]) [] 0 0 nx sh s.2) → bs_W Ph mX5_parts (bs_rm 2 0 0) 11 (bs_mk [(0, .ref (x + 26)), (1, .ref p1), (2, .int l2), (3, .int y0), (4, .int y1)]) [] 0 0 nx sh mu1 := by
  intro n
  induction n with
  | zero => intro y0 y1 mu1 h; exact absurd h (fun z => fg_lp0 z)
  | succ n ih =>
    intro y0 y1 mu1 h hR ke
    obtain ⟨r, hb, h1, h2⟩ := fg_lpE h
    exact wFX5_parts_b11 (s := (y0, y1, mu1)) HX h_p1 (fun s' e hR' => ih s'.1 s'.2.1 s'.2.2 (h1 s' e) hR' ke) (fun s' e => ke s' (h2 _ e).symm) hR hb
noncomputable def FX5_parts_b56 (x : Nat) (p1 : Nat)  (l2 : Int32) (s : Int32 × Int32 × bs_Mm) : Option ((Int32 × Int32 × bs_Mm) ⊕ (Int32 × bs_Mm)) :=
  if (bs_iv (s.2.2 p1 7)) ≤ s.2.1 then (
    some (.inr (s.1, s.2.2))
  ) else (
    if (l2 &&& ((nI 1) <<< (s.2.1 &&& 31))) = 0 then (
      fg_gd (fg_in s.2.1 24) (
      fg_gd (fg_in (bs_iv (s.2.2 (p1 + 3) s.2.1.toNatClampNeg)) 30) (
      fg_gd (fg_in s.2.1 24) (
      fg_gd (fg_in (bs_iv (s.2.2 (p1 + 4) s.2.1.toNatClampNeg)) 30) (
      if (bs_iv (s.2.2 (x + 29) (bs_iv (s.2.2 (p1 + 3) s.2.1.toNatClampNeg)).toNatClampNeg)) = (bs_iv (s.2.2 (x + 29) (bs_iv (s.2.2 (p1 + 4) s.2.1.toNatClampNeg)).toNatClampNeg)) then (
        some (.inl (s.1, (s.2.1 + (nI 1)), s.2.2))
      ) else (
        fg_gd (fg_in s.2.1 24) (
        fg_gd (fg_in (bs_iv (s.2.2 (p1 + 3) s.2.1.toNatClampNeg)) 30) (
        fg_gd (fg_in s.2.1 24) (
        fg_gd (fg_in (bs_iv (s.2.2 (p1 + 4) s.2.1.toNatClampNeg)) 30) (
        fg_bd (FX5_mergeGroups x s.2.2 (bs_iv (s.2.2 p1 8)) (bs_iv (s.2.2 (x + 29) (bs_iv (s.2.2 (p1 + 3) s.2.1.toNatClampNeg)).toNatClampNeg)) (bs_iv (s.2.2 (x + 29) (bs_iv (s.2.2 (p1 + 4) s.2.1.toNatClampNeg)).toNatClampNeg))) (fun mu17 => 
        some (.inl ((s.1 + (-1)), (s.2.1 + (nI 1)), mu17)))))))
      )))))
    ) else (
      some (.inl (s.1, (s.2.1 + (nI 1)), s.2.2))
    )
  )
set_option maxHeartbeats 4000000 in
theorem wFX5_parts_b56 {nx : Nat} {sh : bs_Sh} {R : Nat → Nat → Option Nat} {x : Nat} (HX : fg_S (bs_tS x) R x sh) {p1 : Nat} (h_p1 : fg_F R sh p1) {l2 : Int32} {Ph : bs_Po} {s : Int32 × Int32 × bs_Mm} {r : (Int32 × Int32 × bs_Mm) ⊕ (Int32 × bs_Mm)} (ka : ∀ s, r = .inl s → fg_R R s.2.2 → bs_W Ph mX5_parts (bs_rm 2 0 0) 56 (bs_mk [(0, .ref (x + 26)), (1, .ref p1), (2, .int l2), (3, .int s.1), (4, .int s.2.1)]) [] 0 0 nx sh s.2.2) (ke : ∀ s, r = .inr s → fg_R R s.2 → bs_W Ph mX5_parts (bs_rm 2 0 0) 142 (bs_mk [(0, .ref (x + 26)), (1, .ref p1), (2, .int l2), (3, .int s.1)]) [] 0 0 nx sh s.2) (hR : fg_R R s.2.2) (h : FX5_parts_b56 x p1 l2 s = some r) : bs_W Ph mX5_parts (bs_rm 2 0 0) 56 (bs_mk [(0, .ref (x + 26)), (1, .ref p1), (2, .int l2), (3, .int s.1), (4, .int s.2.1)]) [] 0 0 nx sh s.2.2 := by
  unfold FX5_parts_b56 at h
  refine bs_iload dX5_parts_56 rfl ?_
  refine bs_aload_n dX5_parts_58 rfl ?_
  refine bs_getI dX5_parts_59 fX5_25 (h_p1.s0) ?_
  refine bs_icmp_ge (tgt := 142) dX5_parts_62 (by decide) (fun c => ?_) (fun c => ?_)
  · replace h := fg_ip c h
    cases h
    refine bs_W.mk [(0, .ref (x + 26)), (1, .ref p1), (2, .int l2), (3, .int s.1)] (by intro q hq; simp only [List.mem_cons, List.not_mem_nil, or_false] at hq; rcases hq with rfl | rfl | rfl | rfl <;> rfl) (ke _ rfl hR)
  · replace h := fg_iN c h
    refine bs_iload_n dX5_parts_65 rfl ?_
    refine bs_iconst (v := (nI 1)) dX5_parts_66 (by decide) ?_
    refine bs_iload dX5_parts_67 rfl ?_
    refine bs_ishl dX5_parts_69 ?_
    refine bs_iand dX5_parts_70 ?_
    refine bs_if_ne (tgt := 136) dX5_parts_71 (by decide) (fun c => ?_) (fun c => ?_)
    · replace h := fg_iN c h
      refine fg_iinc (m := (nI 1)) dX5_parts_136 rfl rfl (by decide) ?_
      refine bs_goto (tgt := 56) dX5_parts_139 (by decide) ?_
      cases h
      refine bs_W.mk [(0, .ref (x + 26)), (1, .ref p1), (2, .int l2), (3, .int s.1), (4, .int (s.2.1 + (nI 1)))] (by intro q hq; simp only [List.mem_cons, List.not_mem_nil, or_false] at hq; rcases hq with rfl | rfl | rfl | rfl | rfl <;> rfl) (by have k := ka _ rfl hR; dsimp only at k; exact k)
    · replace h := fg_ip c h
      refine bs_aload_n dX5_parts_74 rfl ?_
      refine fg_getR (b := (x + 29)) dX5_parts_75 fX5_18 (HX.s 26 rfl rfl rfl) hR (HX.r 26 2 rfl rfl rfl) ?_
      refine bs_aload_n dX5_parts_78 rfl ?_
      refine fg_getR (b := (p1 + 3)) dX5_parts_79 fX5_35 (h_p1.s0) hR (h_p1.r2) ?_
      refine bs_iload dX5_parts_82 rfl ?_
      obtain ⟨g8, h⟩ := fg_gdE h
      refine bs_iald dX5_parts_84 (h_p1.s3) (fg_in_ix g8) ?_
      obtain ⟨g9, h⟩ := fg_gdE h
      refine bs_iald dX5_parts_85 (HX.ss 29 rfl rfl) (fg_in_ix g9) ?_
      refine bs_aload_n dX5_parts_86 rfl ?_
      refine fg_getR (b := (x + 29)) dX5_parts_87 fX5_18 (HX.s 26 rfl rfl rfl) hR (HX.r 26 2 rfl rfl rfl) ?_
      refine bs_aload_n dX5_parts_90 rfl ?_
      refine fg_getR (b := (p1 + 4)) dX5_parts_91 fX5_38 (h_p1.s0) hR (h_p1.r3) ?_
      refine bs_iload dX5_parts_94 rfl ?_
      obtain ⟨g10, h⟩ := fg_gdE h
      refine bs_iald dX5_parts_96 (h_p1.s4) (fg_in_ix g10) ?_
      obtain ⟨g11, h⟩ := fg_gdE h
      refine bs_iald dX5_parts_97 (HX.ss 29 rfl rfl) (fg_in_ix g11) ?_
      refine bs_icmp_eq (tgt := 136) dX5_parts_98 (by decide) (fun c => ?_) (fun c => ?_)
      · replace h := fg_ip c h
        refine fg_iinc (m := (nI 1)) dX5_parts_136 rfl rfl (by decide) ?_
        refine bs_goto (tgt := 56) dX5_parts_139 (by decide) ?_
        cases h
        refine bs_W.mk [(0, .ref (x + 26)), (1, .ref p1), (2, .int l2), (3, .int s.1), (4, .int (s.2.1 + (nI 1)))] (by intro q hq; simp only [List.mem_cons, List.not_mem_nil, or_false] at hq; rcases hq with rfl | rfl | rfl | rfl | rfl <;> rfl) (by have k := ka _ rfl hR; dsimp only at k; exact k)
      · replace h := fg_iN c h
        refine bs_aload_n dX5_parts_101 rfl ?_
        refine bs_aload_n dX5_parts_102 rfl ?_
        refine bs_getI dX5_parts_103 fX5_61 (h_p1.s0) ?_
        refine bs_aload_n dX5_parts_106 rfl ?_
        refine fg_getR (b := (x + 29)) dX5_parts_107 fX5_18 (HX.s 26 rfl rfl rfl) hR (HX.r 26 2 rfl rfl rfl) ?_
        refine bs_aload_n dX5_parts_110 rfl ?_
        refine fg_getR (b := (p1 + 3)) dX5_parts_111 fX5_35 (h_p1.s0) hR (h_p1.r2) ?_
        refine bs_iload dX5_parts_114 rfl ?_
        obtain ⟨g12, h⟩ := fg_gdE h
        refine bs_iald dX5_parts_116 (h_p1.s3) (fg_in_ix g12) ?_
        obtain ⟨g13, h⟩ := fg_gdE h
        refine bs_iald dX5_parts_117 (HX.ss 29 rfl rfl) (fg_in_ix g13) ?_
        refine bs_aload_n dX5_parts_118 rfl ?_
        refine fg_getR (b := (x + 29)) dX5_parts_119 fX5_18 (HX.s 26 rfl rfl rfl) hR (HX.r 26 2 rfl rfl rfl) ?_
        refine bs_aload_n dX5_parts_122 rfl ?_
        refine fg_getR (b := (p1 + 4)) dX5_parts_123 fX5_38 (h_p1.s0) hR (h_p1.r3) ?_
        refine bs_iload dX5_parts_126 rfl ?_
        obtain ⟨g14, h⟩ := fg_gdE h
        refine bs_iald dX5_parts_128 (h_p1.s4) (fg_in_ix g14) ?_
        obtain ⟨g15, h⟩ := fg_gdE h
        refine bs_iald dX5_parts_129 (HX.ss 29 rfl rfl) (fg_in_ix g15) ?_
        obtain ⟨mu17, k16, h⟩ := fg_bdE h
        refine fg_callVv dX5_parts_130 qX5_64 (wX5_mergeGroups HX hR k16) rfl (HX.s 26 rfl rfl rfl) rfl (Nat.le_of_ble_eq_true rfl) (fg_cr (by first | decide | omega) (by decide)) (fun hR => ?_)
        refine fg_iinc (m := (-1)) dX5_parts_133 rfl rfl (by decide) ?_
        refine fg_iinc (m := (nI 1)) dX5_parts_136 rfl rfl (by decide) ?_
        refine bs_goto (tgt := 56) dX5_parts_139 (by decide) ?_
        cases h
        refine bs_W.mk [(0, .ref (x + 26)), (1, .ref p1), (2, .int l2), (3, .int (s.1 + (-1))), (4, .int (s.2.1 + (nI 1)))] (by intro q hq; simp only [List.mem_cons, List.not_mem_nil, or_false] at hq; rcases hq with rfl | rfl | rfl | rfl | rfl <;> rfl) (by have k := ka _ rfl hR; dsimp only at k; exact k)
theorem wFX5_parts_l56 {nx : Nat} {sh : bs_Sh} {R : Nat → Nat → Option Nat} {x : Nat} (HX : fg_S (bs_tS x) R x sh) {p1 : Nat} (h_p1 : fg_F R sh p1) {l2 : Int32} {Ph : bs_Po} {t : Int32 × bs_Mm} : ∀ n (y0 : Int32) (y1 : Int32) (mu1 : bs_Mm), fg_lp (FX5_parts_b56 x p1 l2) n (y0, y1, mu1) = some t → fg_R R mu1 → (ke : ∀ s, t = s → fg_R R s.2 → bs_W Ph mX5_parts (bs_rm 2 0 0) 142 (bs_mk [(0, .ref (x + 26)), (1, .ref p1), (2, .int l2), (3, .int s.1)]) [] 0 0 nx sh s.2) → bs_W Ph mX5_parts (bs_rm 2 0 0) 56 (bs_mk [(0, .ref (x + 26)), (1, .ref p1), (2, .int l2), (3, .int y0), (4, .int y1)]) [] 0 0 nx sh mu1 := by
  intro n
  induction n with
  | zero => intro y0 y1 mu1 h; exact absurd h (fun z => fg_lp0 z)
  | succ n ih =>
    intro y0 y1 mu1 h hR ke
    obtain ⟨r, hb, h1, h2⟩ := fg_lpE h
    exact wFX5_parts_b56 (s := (y0, y1, mu1)) HX h_p1 (fun s' e hR' => ih s'.1 s'.2.1 s'.2.2 (h1 s' e) hR' ke) (fun s' e => ke s' (h2 _ e).symm) hR hb
noncomputable def FX5_parts (x : Nat) (mu : bs_Mm) (p1 : Nat) (p2 : Int32) : Option (Int32 × bs_Mm) :=
  fg_bd (FX5_countLive x mu p1 p2) (fun mu2 => 
  fg_bd (fg_lp (FX5_parts_b11 x p1 p2) fg_fu ((nI 0), (nI 0), mu2)) (fun t6 => 
    fg_bd (fg_lp (FX5_parts_b56 x p1 p2) fg_fu (t6.1, (nI 0), t6.2)) (fun t18 => 
      some (t18.1, t18.2)
    )
  ))
set_option maxHeartbeats 4000000 in
theorem wX5_parts {nx : Nat} {sh : bs_Sh} {R : Nat → Nat → Option Nat} {x : Nat} (HX : fg_S (bs_tS x) R x sh) {p1 : Nat} (h_p1 : fg_F R sh p1) {mu : bs_Mm} (hR : fg_R R mu) {p2 : Int32} {r : Int32 × bs_Mm} (h : FX5_parts x mu p1 p2 = some r) : bs_C mX5_parts (bs_rm 2 0 0) [.ref (x + 26), .ref p1, .int p2] nx sh mu (fg_po R nx sh (some (.int r.1)) r.2) := by
  refine bs_ct (by decide +kernel) (Nat.le_of_ble_eq_true rfl) ?_
  have kr : ∀ q, r = q → fg_R R q.2 → (fg_po R nx sh (some (.int r.1)) r.2) (some (.int q.1)) nx sh q.2 := fun q e hq => by subst e; exact ⟨rfl, rfl, rfl, rfl, hq⟩
  unfold FX5_parts at h
  refine bs_iconst (v := (nI 0)) dX5_parts_0 (by decide) ?_
  refine bs_istore_n dX5_parts_1 rfl (by decide) ?_
  refine bs_aload_n dX5_parts_2 rfl ?_
  refine bs_aload_n dX5_parts_3 rfl ?_
  refine bs_iload_n dX5_parts_4 rfl ?_
  obtain ⟨mu2, k1, h⟩ := fg_bdE h
  refine fg_callVv dX5_parts_5 qX5_21 (wX5_countLive HX h_p1 hR k1) rfl (HX.s 26 rfl rfl rfl) rfl (Nat.le_of_ble_eq_true rfl) (fg_cr (by first | decide | omega) (by decide)) (fun hR => ?_)
  refine bs_iconst (v := (nI 0)) dX5_parts_8 (by decide) ?_
  refine bs_istore dX5_parts_9 rfl (by decide) ?_
  obtain ⟨t6, k7, h⟩ := fg_bdE h
  refine bs_W.mk [(0, .ref (x + 26)), (1, .ref p1), (2, .int p2), (3, .int (nI 0)), (4, .int (nI 0))] (by intro q hq; simp only [List.mem_cons, List.not_mem_nil, or_false] at hq; rcases hq with rfl | rfl | rfl | rfl | rfl <;> rfl) ?_
  refine wFX5_parts_l11 HX h_p1 _ _ _ _ k7 hR ?_
  intro s e hR
  subst e
  refine bs_iconst (v := (nI 0)) dX5_parts_53 (by decide) ?_
  refine bs_istore dX5_parts_54 rfl (by decide) ?_
  obtain ⟨t18, k19, h⟩ := fg_bdE h
  refine bs_W.mk [(0, .ref (x + 26)), (1, .ref p1), (2, .int p2), (3, .int t6.1), (4, .int (nI 0))] (by intro q hq; simp only [List.mem_cons, List.not_mem_nil, or_false] at hq; rcases hq with rfl | rfl | rfl | rfl | rfl <;> rfl) ?_
  refine wFX5_parts_l56 HX h_p1 _ _ _ _ k19 hR ?_
  intro s e hR
  subst e
  refine bs_iload_n dX5_parts_142 rfl ?_
  cases h
  exact bs_iret dX5_parts_143 rfl (Nat.zero_le _) (Nat.zero_le _) (kr _ rfl hR)
noncomputable def FX1_allBubbles (x : Nat) (f : Nat) (mu : bs_Mm) : Option (Int32) :=
  some ((((nI 1) <<< ((bs_iv (mu f 7)) &&& 31)) - (nI 1)))
set_option maxHeartbeats 4000000 in
theorem wX1_allBubbles {nx : Nat} {sh : bs_Sh} {R : Nat → Nat → Option Nat} {x : Nat} (HX : fg_S (bs_tS x) R x sh) {f : Nat} (h_f : fg_F R sh f) {mu : bs_Mm} (hR : fg_R R mu) {r : Int32} (h : FX1_allBubbles x f mu = some r) : bs_C mX1_allBubbles (bs_rm 0 0 0) [.ref f] nx sh mu (fg_po R nx sh (some (.int r)) mu) := by
  refine bs_ct (by decide +kernel) (Nat.le_of_ble_eq_true rfl) ?_
  have kr : ∀ q, r = q → fg_R R mu → (fg_po R nx sh (some (.int r)) mu) (some (.int q)) nx sh mu := fun q e hq => by subst e; exact ⟨rfl, rfl, rfl, rfl, hq⟩
  unfold FX1_allBubbles at h
  refine bs_iconst (v := (nI 1)) dX1_allBubbles_0 (by decide) ?_
  refine bs_aload_n dX1_allBubbles_1 rfl ?_
  refine bs_getI dX1_allBubbles_2 fX1_40 (h_f.s0) ?_
  refine bs_ishl dX1_allBubbles_5 ?_
  refine bs_iconst (v := (nI 1)) dX1_allBubbles_6 (by decide) ?_
  refine bs_isub dX1_allBubbles_7 ?_
  cases h
  exact bs_iret dX1_allBubbles_8 rfl (Nat.zero_le _) (Nat.zero_le _) (kr _ rfl hR)
noncomputable def FX11_hasFallen (x : Nat) (mu : bs_Mm) (p1 : Nat) (p2 : Int32) (p3 : Int32) : Option (Int32 × bs_Mm) :=
  if p3 = 0 then (
    if p2 = 0 then (
      some ((nI 0), mu)
    ) else (
      some ((nI 1), mu)
    )
  ) else (
    if p3 = (nI 1) then (
      fg_b2 (FX5_parts x mu p1 p2) (fun v5 mu4 => 
      if v5 < (nI 2) then (
        some ((nI 0), mu4)
      ) else (
        some ((nI 1), mu4)
      ))
    ) else (
      fg_bd (FX1_allBubbles x p1 mu) (fun v2 => 
      if p2 = v2 then (
        some ((nI 1), mu)
      ) else (
        some ((nI 0), mu)
      ))
    )
  )
set_option maxHeartbeats 4000000 in
theorem wX11_hasFallen {nx : Nat} {sh : bs_Sh} {R : Nat → Nat → Option Nat} {x : Nat} (HX : fg_S (bs_tS x) R x sh) {p1 : Nat} (h_p1 : fg_F R sh p1) {mu : bs_Mm} (hR : fg_R R mu) {p2 : Int32} {p3 : Int32} {r : Int32 × bs_Mm} (h : FX11_hasFallen x mu p1 p2 p3 = some r) : bs_C mX11_hasFallen (bs_rm 3 0 0) [.ref x, .ref p1, .int p2, .int p3] nx sh mu (fg_po R nx sh (some (.int r.1)) r.2) := by
  refine bs_ct (by decide +kernel) (Nat.le_of_ble_eq_true rfl) ?_
  have kr : ∀ q, r = q → fg_R R q.2 → (fg_po R nx sh (some (.int r.1)) r.2) (some (.int q.1)) nx sh q.2 := fun q e hq => by subst e; exact ⟨rfl, rfl, rfl, rfl, hq⟩
  unfold FX11_hasFallen at h
  refine bs_iload_n dX11_hasFallen_0 rfl ?_
  refine bs_if_ne (tgt := 14) dX11_hasFallen_1 (by decide) (fun c => ?_) (fun c => ?_)
  · replace h := fg_iN c h
    refine bs_iload_n dX11_hasFallen_14 rfl ?_
    refine bs_iconst (v := (nI 1)) dX11_hasFallen_15 (by decide) ?_
    refine bs_icmp_ne (tgt := 40) dX11_hasFallen_16 (by decide) (fun c => ?_) (fun c => ?_)
    · replace h := fg_iN c h
      refine bs_iload_n dX11_hasFallen_40 rfl ?_
      refine bs_aload_n dX11_hasFallen_41 rfl ?_
      obtain ⟨v2, k1, h⟩ := fg_bdE h
      refine fg_callV dX11_hasFallen_42 qX11_366 (wX1_allBubbles HX h_p1 hR k1) rfl (h_p1.s0) rfl (Nat.le_of_ble_eq_true rfl) (fg_cr (by first | decide | omega) (by decide)) (fun hR => ?_)
      refine bs_icmp_ne (tgt := 52) dX11_hasFallen_45 (by decide) (fun c => ?_) (fun c => ?_)
      · replace h := fg_iN c h
        refine bs_iconst (v := (nI 0)) dX11_hasFallen_52 (by decide) ?_
        cases h
        exact bs_zret dX11_hasFallen_53 rfl (Or.inl rfl) (Nat.zero_le _) (Nat.zero_le _) (kr _ rfl hR)
      · replace h := fg_ip c h
        refine bs_iconst (v := (nI 1)) dX11_hasFallen_48 (by decide) ?_
        refine bs_goto (tgt := 53) dX11_hasFallen_49 (by decide) ?_
        cases h
        exact bs_zret dX11_hasFallen_53 rfl (Or.inr rfl) (Nat.zero_le _) (Nat.zero_le _) (kr _ rfl hR)
    · replace h := fg_ip c h
      refine bs_aload_n dX11_hasFallen_19 rfl ?_
      refine fg_getR (b := (x + 26)) dX11_hasFallen_20 fX11_52 (HX.s 0 rfl rfl rfl) hR (HX.r 0 6 rfl rfl rfl) ?_
      refine bs_aload_n dX11_hasFallen_23 rfl ?_
      refine bs_iload_n dX11_hasFallen_24 rfl ?_
      obtain ⟨v5, mu4, k3, h⟩ := fg_b2E h
      refine fg_callV dX11_hasFallen_25 qX11_242 (wX5_parts HX h_p1 hR k3) rfl (HX.s 26 rfl rfl rfl) rfl (Nat.le_of_ble_eq_true rfl) (fg_cr (by first | decide | omega) (by decide)) (fun hR => ?_)
      refine bs_iconst (v := (nI 2)) dX11_hasFallen_28 (by decide) ?_
      refine bs_icmp_lt (tgt := 36) dX11_hasFallen_29 (by decide) (fun c => ?_) (fun c => ?_)
      · replace h := fg_ip c h
        refine bs_iconst (v := (nI 0)) dX11_hasFallen_36 (by decide) ?_
        refine bs_goto (tgt := 53) dX11_hasFallen_37 (by decide) ?_
        cases h
        exact bs_zret dX11_hasFallen_53 rfl (Or.inl rfl) (Nat.zero_le _) (Nat.zero_le _) (kr _ rfl hR)
      · replace h := fg_iN c h
        refine bs_iconst (v := (nI 1)) dX11_hasFallen_32 (by decide) ?_
        refine bs_goto (tgt := 53) dX11_hasFallen_33 (by decide) ?_
        cases h
        exact bs_zret dX11_hasFallen_53 rfl (Or.inr rfl) (Nat.zero_le _) (Nat.zero_le _) (kr _ rfl hR)
  · replace h := fg_ip c h
    refine bs_iload_n dX11_hasFallen_4 rfl ?_
    refine bs_if_eq (tgt := 12) dX11_hasFallen_5 (by decide) (fun c => ?_) (fun c => ?_)
    · replace h := fg_ip c h
      refine bs_iconst (v := (nI 0)) dX11_hasFallen_12 (by decide) ?_
      cases h
      exact bs_zret dX11_hasFallen_13 rfl (Or.inl rfl) (Nat.zero_le _) (Nat.zero_le _) (kr _ rfl hR)
    · replace h := fg_iN c h
      refine bs_iconst (v := (nI 1)) dX11_hasFallen_8 (by decide) ?_
      refine bs_goto (tgt := 13) dX11_hasFallen_9 (by decide) ?_
      cases h
      exact bs_zret dX11_hasFallen_13 rfl (Or.inr rfl) (Nat.zero_le _) (Nat.zero_le _) (kr _ rfl hR)
noncomputable def FX11_falls_j121_L57 (x : Nat) (b3 : Nat) (b11 : Nat) (mu : bs_Mm) (l1 : Int32) (l2 : Int32) (l3 : Int32) (l6 : Int32) (t0 : Int32) : Option ((Int32 × bs_Mm) ⊕ ((bs_Mm) ⊕ (Int32 × bs_Mm))) :=
  if t0 = 0 then (
    fg_gd (fg_in l6 61) (
    fg_b2 (FX11_hasFallen x mu b3 (bs_iv (mu (x + 46) l6.toNatClampNeg)) l3) (fun v20 mu19 => 
    if v20 = 0 then (
      some (.inl ((l6 + (nI 1)), mu19))
    ) else (
      some (.inr (.inr (l6, mu19)))
    )))
  ) else (
    some (.inl ((l6 + (nI 1)), mu))
  )
set_option maxHeartbeats 4000000 in
theorem wFX11_falls_j121_L57 {nx : Nat} {sh : bs_Sh} {R : Nat → Nat → Option Nat} {x : Nat} (HX : fg_S (bs_tS x) R x sh) {b3 : Nat} (h_b3 : fg_F R sh b3) {b11 : Nat} (h_b11 : fg_U R sh b11) {mu : bs_Mm} {l1 : Int32} {l2 : Int32} {l3 : Int32} {l6 : Int32} {t0 : Int32} {Ph : bs_Po} {r : (Int32 × bs_Mm) ⊕ ((bs_Mm) ⊕ (Int32 × bs_Mm))} (ka : ∀ s, r = .inl s → fg_R R s.2 → bs_W Ph mX11_falls (bs_rm 7 0 0) 57 (bs_mk [(0, .ref x), (1, .int l1), (2, .int l2), (3, .int l3), (4, .ref b3), (5, .ref b11), (6, .int s.1)]) [] 0 0 nx sh s.2) (ke : ∀ s, r = .inr (.inl s) → fg_R R s → bs_W Ph mX11_falls (bs_rm 7 0 0) 157 (bs_mk [(0, .ref x), (1, .int l1), (2, .int l2), (3, .int l3), (4, .ref b3), (5, .ref b11)]) [] 0 0 nx sh s) (kr : ∀ q, r = .inr (.inr q) → fg_R R q.2 → Ph (some (.int q.1)) nx sh q.2) (hR : fg_R R mu) (h : FX11_falls_j121_L57 x b3 b11 mu l1 l2 l3 l6 t0 = some r) : bs_W Ph mX11_falls (bs_rm 7 0 0) 121 (bs_mk [(0, .ref x), (1, .int l1), (2, .int l2), (3, .int l3), (4, .ref b3), (5, .ref b11), (6, .int l6)]) [.int t0] 0 0 nx sh mu := by
  unfold FX11_falls_j121_L57 at h
  refine bs_istore dX11_falls_121 rfl (by decide) ?_
  refine bs_iload dX11_falls_123 rfl ?_
  refine bs_if_ne (tgt := 151) dX11_falls_125 (by decide) (fun c => ?_) (fun c => ?_)
  · replace h := fg_iN c h
    refine fg_iinc (m := (nI 1)) dX11_falls_151 rfl rfl (by decide) ?_
    refine bs_goto (tgt := 57) dX11_falls_154 (by decide) ?_
    cases h
    refine bs_W.mk [(0, .ref x), (1, .int l1), (2, .int l2), (3, .int l3), (4, .ref b3), (5, .ref b11), (6, .int (l6 + (nI 1)))] (by intro q hq; simp only [List.mem_cons, List.not_mem_nil, or_false] at hq; rcases hq with rfl | rfl | rfl | rfl | rfl | rfl | rfl <;> rfl) (by have k := ka _ rfl hR; dsimp only at k; exact k)
  · replace h := fg_ip c h
    refine bs_aload_n dX11_falls_128 rfl ?_
    refine bs_aload dX11_falls_129 rfl ?_
    refine bs_aload_n dX11_falls_131 rfl ?_
    refine fg_getR (b := (x + 45)) dX11_falls_132 fX11_73 (HX.s 0 rfl rfl rfl) hR (HX.r 0 9 rfl rfl rfl) ?_
    refine fg_getR (b := (x + 46)) dX11_falls_135 fX11_356 (HX.s 45 rfl rfl rfl) hR (HX.r 45 0 rfl rfl rfl) ?_
    refine bs_iload dX11_falls_138 rfl ?_
    obtain ⟨g17, h⟩ := fg_gdE h
    refine bs_iald dX11_falls_140 (HX.ss 46 rfl rfl) (fg_in_ix g17) ?_
    refine bs_iload_n dX11_falls_141 rfl ?_
    obtain ⟨v20, mu19, k18, h⟩ := fg_b2E h
    refine fg_callV dX11_falls_142 qX11_359 (wX11_hasFallen HX h_b3 hR k18) rfl (HX.s 0 rfl rfl rfl) rfl (Nat.le_of_ble_eq_true rfl) (fg_cr (by first | decide | omega) (by decide)) (fun hR => ?_)
    refine bs_if_eq (tgt := 151) dX11_falls_145 (by decide) (fun c => ?_) (fun c => ?_)
    · replace h := fg_ip c h
      refine fg_iinc (m := (nI 1)) dX11_falls_151 rfl rfl (by decide) ?_
      refine bs_goto (tgt := 57) dX11_falls_154 (by decide) ?_
      cases h
      refine bs_W.mk [(0, .ref x), (1, .int l1), (2, .int l2), (3, .int l3), (4, .ref b3), (5, .ref b11), (6, .int (l6 + (nI 1)))] (by intro q hq; simp only [List.mem_cons, List.not_mem_nil, or_false] at hq; rcases hq with rfl | rfl | rfl | rfl | rfl | rfl | rfl <;> rfl) (by have k := ka _ rfl hR; dsimp only at k; exact k)
    · replace h := fg_iN c h
      refine bs_iload dX11_falls_148 rfl ?_
      cases h
      exact bs_iret dX11_falls_150 rfl (Nat.zero_le _) (Nat.zero_le _) (kr _ rfl hR)
noncomputable def FX11_falls_j120_L57 (x : Nat) (b3 : Nat) (b11 : Nat) (mu : bs_Mm) (l1 : Int32) (l2 : Int32) (l3 : Int32) (l6 : Int32) : Option ((Int32 × bs_Mm) ⊕ ((bs_Mm) ⊕ (Int32 × bs_Mm))) :=
  FX11_falls_j121_L57 x b3 b11 mu l1 l2 l3 l6 (nI 0)
set_option maxHeartbeats 4000000 in
theorem wFX11_falls_j120_L57 {nx : Nat} {sh : bs_Sh} {R : Nat → Nat → Option Nat} {x : Nat} (HX : fg_S (bs_tS x) R x sh) {b3 : Nat} (h_b3 : fg_F R sh b3) {b11 : Nat} (h_b11 : fg_U R sh b11) {mu : bs_Mm} {l1 : Int32} {l2 : Int32} {l3 : Int32} {l6 : Int32} {Ph : bs_Po} {r : (Int32 × bs_Mm) ⊕ ((bs_Mm) ⊕ (Int32 × bs_Mm))} (ka : ∀ s, r = .inl s → fg_R R s.2 → bs_W Ph mX11_falls (bs_rm 7 0 0) 57 (bs_mk [(0, .ref x), (1, .int l1), (2, .int l2), (3, .int l3), (4, .ref b3), (5, .ref b11), (6, .int s.1)]) [] 0 0 nx sh s.2) (ke : ∀ s, r = .inr (.inl s) → fg_R R s → bs_W Ph mX11_falls (bs_rm 7 0 0) 157 (bs_mk [(0, .ref x), (1, .int l1), (2, .int l2), (3, .int l3), (4, .ref b3), (5, .ref b11)]) [] 0 0 nx sh s) (kr : ∀ q, r = .inr (.inr q) → fg_R R q.2 → Ph (some (.int q.1)) nx sh q.2) (hR : fg_R R mu) (h : FX11_falls_j120_L57 x b3 b11 mu l1 l2 l3 l6 = some r) : bs_W Ph mX11_falls (bs_rm 7 0 0) 120 (bs_mk [(0, .ref x), (1, .int l1), (2, .int l2), (3, .int l3), (4, .ref b3), (5, .ref b11), (6, .int l6)]) [] 0 0 nx sh mu := by
  unfold FX11_falls_j120_L57 at h
  refine bs_iconst (v := (nI 0)) dX11_falls_120 (by decide) ?_
  refine bs_W.mk [(0, .ref x), (1, .int l1), (2, .int l2), (3, .int l3), (4, .ref b3), (5, .ref b11), (6, .int l6)] (by intro q hq; simp only [List.mem_cons, List.not_mem_nil, or_false] at hq; rcases hq with rfl | rfl | rfl | rfl | rfl | rfl | rfl <;> rfl) ?_
  exact wFX11_falls_j121_L57 HX h_b3 h_b11 ka ke kr hR h
noncomputable def FX11_falls_b57 (x : Nat) (b3 : Nat) (b11 : Nat)  (l1 : Int32) (l2 : Int32) (l3 : Int32) (s : Int32 × bs_Mm) : Option ((Int32 × bs_Mm) ⊕ ((bs_Mm) ⊕ (Int32 × bs_Mm))) :=
  if (nI 60) < s.1 then (
    some (.inr (.inl s.2))
  ) else (
    fg_bd (FX0_reach x s.2 s.1 b3 b11) (fun mu16 => 
    if s.1 ≤ (nI 1) then (
      FX11_falls_j120_L57 x b3 b11 mu16 l1 l2 l3 s.1
    ) else (
      fg_gd (fg_in s.1 61) (
      fg_gd (fg_in (s.1 - (nI 1)) 61) (
      if (bs_iv (mu16 (x + 46) s.1.toNatClampNeg)) = (bs_iv (mu16 (x + 46) (s.1 - (nI 1)).toNatClampNeg)) then (
        FX11_falls_j121_L57 x b3 b11 mu16 l1 l2 l3 s.1 (nI 1)
      ) else (
        FX11_falls_j120_L57 x b3 b11 mu16 l1 l2 l3 s.1
      )))
    ))
  )
set_option maxHeartbeats 4000000 in
theorem wFX11_falls_b57 {nx : Nat} {sh : bs_Sh} {R : Nat → Nat → Option Nat} {x : Nat} (HX : fg_S (bs_tS x) R x sh) {b3 : Nat} (h_b3 : fg_F R sh b3) {b11 : Nat} (h_b11 : fg_U R sh b11) {l1 : Int32} {l2 : Int32} {l3 : Int32} {Ph : bs_Po} {s : Int32 × bs_Mm} {r : (Int32 × bs_Mm) ⊕ ((bs_Mm) ⊕ (Int32 × bs_Mm))} (ka : ∀ s, r = .inl s → fg_R R s.2 → bs_W Ph mX11_falls (bs_rm 7 0 0) 57 (bs_mk [(0, .ref x), (1, .int l1), (2, .int l2), (3, .int l3), (4, .ref b3), (5, .ref b11), (6, .int s.1)]) [] 0 0 nx sh s.2) (ke : ∀ s, r = .inr (.inl s) → fg_R R s → bs_W Ph mX11_falls (bs_rm 7 0 0) 157 (bs_mk [(0, .ref x), (1, .int l1), (2, .int l2), (3, .int l3), (4, .ref b3), (5, .ref b11)]) [] 0 0 nx sh s) (kr : ∀ q, r = .inr (.inr q) → fg_R R q.2 → Ph (some (.int q.1)) nx sh q.2) (hR : fg_R R s.2) (h : FX11_falls_b57 x b3 b11 l1 l2 l3 s = some r) : bs_W Ph mX11_falls (bs_rm 7 0 0) 57 (bs_mk [(0, .ref x), (1, .int l1), (2, .int l2), (3, .int l3), (4, .ref b3), (5, .ref b11), (6, .int s.1)]) [] 0 0 nx sh s.2 := by
  unfold FX11_falls_b57 at h
  refine bs_iload dX11_falls_57 rfl ?_
  refine bs_bipush (v := (nI 60)) dX11_falls_59 (by decide) ?_
  refine bs_icmp_gt (tgt := 157) dX11_falls_61 (by decide) (fun c => ?_) (fun c => ?_)
  · replace h := fg_ip c h
    cases h
    refine bs_W.mk [(0, .ref x), (1, .int l1), (2, .int l2), (3, .int l3), (4, .ref b3), (5, .ref b11)] (by intro q hq; simp only [List.mem_cons, List.not_mem_nil, or_false] at hq; rcases hq with rfl | rfl | rfl | rfl | rfl | rfl <;> rfl) (ke _ rfl hR)
  · replace h := fg_iN c h
    refine bs_aload_n dX11_falls_64 rfl ?_
    refine fg_getR (b := (x + 45)) dX11_falls_65 fX11_73 (HX.s 0 rfl rfl rfl) hR (HX.r 0 9 rfl rfl rfl) ?_
    refine bs_iload dX11_falls_68 rfl ?_
    refine bs_aload dX11_falls_70 rfl ?_
    refine bs_aload dX11_falls_72 rfl ?_
    refine bs_aload_n dX11_falls_74 rfl ?_
    refine fg_getR (b := (x + 1)) dX11_falls_75 fX11_12 (HX.s 0 rfl rfl rfl) hR (HX.r 0 0 rfl rfl rfl) ?_
    refine bs_aload_n dX11_falls_78 rfl ?_
    refine fg_getR (b := (x + 26)) dX11_falls_79 fX11_52 (HX.s 0 rfl rfl rfl) hR (HX.r 0 6 rfl rfl rfl) ?_
    obtain ⟨mu16, k15, h⟩ := fg_bdE h
    refine fg_callVv dX11_falls_82 qX11_349 (wX0_reach HX h_b3 h_b11 hR k15) rfl (HX.s 45 rfl rfl rfl) rfl (Nat.le_of_ble_eq_true rfl) (fg_cr (by first | decide | omega) (by decide)) (fun hR => ?_)
    refine bs_iload dX11_falls_85 rfl ?_
    refine bs_iconst (v := (nI 1)) dX11_falls_87 (by decide) ?_
    refine bs_icmp_le (tgt := 120) dX11_falls_88 (by decide) (fun c => ?_) (fun c => ?_)
    · replace h := fg_ip c h
      refine bs_W.mk [(0, .ref x), (1, .int l1), (2, .int l2), (3, .int l3), (4, .ref b3), (5, .ref b11), (6, .int s.1)] (by intro q hq; simp only [List.mem_cons, List.not_mem_nil, or_false] at hq; rcases hq with rfl | rfl | rfl | rfl | rfl | rfl | rfl <;> rfl) ?_
      exact wFX11_falls_j120_L57 HX h_b3 h_b11 ka ke kr hR h
    · replace h := fg_iN c h
      refine bs_aload_n dX11_falls_91 rfl ?_
      refine fg_getR (b := (x + 45)) dX11_falls_92 fX11_73 (HX.s 0 rfl rfl rfl) hR (HX.r 0 9 rfl rfl rfl) ?_
      refine fg_getR (b := (x + 46)) dX11_falls_95 fX11_356 (HX.s 45 rfl rfl rfl) hR (HX.r 45 0 rfl rfl rfl) ?_
      refine bs_iload dX11_falls_98 rfl ?_
      obtain ⟨g21, h⟩ := fg_gdE h
      refine bs_iald dX11_falls_100 (HX.ss 46 rfl rfl) (fg_in_ix g21) ?_
      refine bs_aload_n dX11_falls_101 rfl ?_
      refine fg_getR (b := (x + 45)) dX11_falls_102 fX11_73 (HX.s 0 rfl rfl rfl) hR (HX.r 0 9 rfl rfl rfl) ?_
      refine fg_getR (b := (x + 46)) dX11_falls_105 fX11_356 (HX.s 45 rfl rfl rfl) hR (HX.r 45 0 rfl rfl rfl) ?_
      refine bs_iload dX11_falls_108 rfl ?_
      refine bs_iconst (v := (nI 1)) dX11_falls_110 (by decide) ?_
      refine bs_isub dX11_falls_111 ?_
      obtain ⟨g22, h⟩ := fg_gdE h
      refine bs_iald dX11_falls_112 (HX.ss 46 rfl rfl) (fg_in_ix g22) ?_
      refine bs_icmp_ne (tgt := 120) dX11_falls_113 (by decide) (fun c => ?_) (fun c => ?_)
      · replace h := fg_iN c h
        refine bs_W.mk [(0, .ref x), (1, .int l1), (2, .int l2), (3, .int l3), (4, .ref b3), (5, .ref b11), (6, .int s.1)] (by intro q hq; simp only [List.mem_cons, List.not_mem_nil, or_false] at hq; rcases hq with rfl | rfl | rfl | rfl | rfl | rfl | rfl <;> rfl) ?_
        exact wFX11_falls_j120_L57 HX h_b3 h_b11 ka ke kr hR h
      · replace h := fg_ip c h
        refine bs_iconst (v := (nI 1)) dX11_falls_116 (by decide) ?_
        refine bs_goto (tgt := 121) dX11_falls_117 (by decide) ?_
        refine bs_W.mk [(0, .ref x), (1, .int l1), (2, .int l2), (3, .int l3), (4, .ref b3), (5, .ref b11), (6, .int s.1)] (by intro q hq; simp only [List.mem_cons, List.not_mem_nil, or_false] at hq; rcases hq with rfl | rfl | rfl | rfl | rfl | rfl | rfl <;> rfl) ?_
        exact wFX11_falls_j121_L57 HX h_b3 h_b11 ka ke kr hR h
theorem wFX11_falls_l57 {nx : Nat} {sh : bs_Sh} {R : Nat → Nat → Option Nat} {x : Nat} (HX : fg_S (bs_tS x) R x sh) {b3 : Nat} (h_b3 : fg_F R sh b3) {b11 : Nat} (h_b11 : fg_U R sh b11) {l1 : Int32} {l2 : Int32} {l3 : Int32} {Ph : bs_Po} {t : (bs_Mm) ⊕ (Int32 × bs_Mm)} : ∀ n (y0 : Int32) (mu1 : bs_Mm), fg_lp (FX11_falls_b57 x b3 b11 l1 l2 l3) n (y0, mu1) = some t → fg_R R mu1 → (ke : ∀ s, t = .inl s → fg_R R s → bs_W Ph mX11_falls (bs_rm 7 0 0) 157 (bs_mk [(0, .ref x), (1, .int l1), (2, .int l2), (3, .int l3), (4, .ref b3), (5, .ref b11)]) [] 0 0 nx sh s) → (kr : ∀ q, t = .inr q → fg_R R q.2 → Ph (some (.int q.1)) nx sh q.2) → bs_W Ph mX11_falls (bs_rm 7 0 0) 57 (bs_mk [(0, .ref x), (1, .int l1), (2, .int l2), (3, .int l3), (4, .ref b3), (5, .ref b11), (6, .int y0)]) [] 0 0 nx sh mu1 := by
  intro n
  induction n with
  | zero => intro y0 mu1 h; exact absurd h (fun z => fg_lp0 z)
  | succ n ih =>
    intro y0 mu1 h hR ke kr
    obtain ⟨r, hb, h1, h2⟩ := fg_lpE h
    exact wFX11_falls_b57 (s := (y0, mu1)) HX h_b3 h_b11 (fun s' e hR' => ih s'.1 s'.2 (h1 s' e) hR' ke kr) (fun s' e => ke s' (h2 _ e).symm) (fun q e => kr q (h2 _ e).symm) hR hb
noncomputable def FX11_falls (x : Nat) (mu : bs_Mm) (p1 : Int32) (p2 : Int32) (p3 : Int32) : Option (Int32 × bs_Mm) :=
  fg_bd (FX11_figureAt x mu p1) (fun v2 => 
  fg_oq v2 (
    fg_bd (FX11_ruleAt x mu p2) (fun v6 => 
    fg_oq v6 (
      some ((-1), mu)
    ) (fun b7 => fg_gd (fg_isU x b7) (
      some ((-1), mu)
    )))
  ) (fun b3 => fg_gd (fg_isF x b3) (
    fg_bd (FX11_ruleAt x mu p2) (fun v10 => 
    fg_oq v10 (
      some ((-1), mu)
    ) (fun b11 => fg_gd (fg_isU x b11) (
      if (bs_iv (mu b3 7)) = 0 then (
        some ((-1), mu)
      ) else (
        if p3 < 0 then (
          some ((-1), mu)
        ) else (
          if p3 ≤ (nI 2) then (
            fg_bd (FX0_turnTo x mu b3 b11) (fun mu14 => 
            fg_l3 (fg_lp (FX11_falls_b57 x b3 b11 p1 p2 p3) fg_fu ((nI 1), mu14)) (fun t23 => 
              some ((-1), t23)
            ) (fun q25 => some q25))
          ) else (
            some ((-1), mu)
          )
        )
      )
    )))
  )))
set_option maxHeartbeats 4000000 in
theorem wX11_falls {nx : Nat} {sh : bs_Sh} {R : Nat → Nat → Option Nat} {x : Nat} (HX : fg_S (bs_tS x) R x sh) {mu : bs_Mm} (hR : fg_R R mu) {p1 : Int32} {p2 : Int32} {p3 : Int32} {r : Int32 × bs_Mm} (h : FX11_falls x mu p1 p2 p3 = some r) : bs_C mX11_falls (bs_rm 7 0 0) [.ref x, .int p1, .int p2, .int p3] nx sh mu (fg_po R nx sh (some (.int r.1)) r.2) := by
  refine bs_ct (by decide +kernel) (Nat.le_of_ble_eq_true rfl) ?_
  have kr : ∀ q, r = q → fg_R R q.2 → (fg_po R nx sh (some (.int r.1)) r.2) (some (.int q.1)) nx sh q.2 := fun q e hq => by subst e; exact ⟨rfl, rfl, rfl, rfl, hq⟩
  unfold FX11_falls at h
  refine bs_aload_n dX11_falls_0 rfl ?_
  refine bs_iload_n dX11_falls_1 rfl ?_
  obtain ⟨v2, k1, h⟩ := fg_bdE h
  refine fg_callV dX11_falls_2 qX11_143 (wX11_figureAt HX hR k1) rfl (HX.s 0 rfl rfl rfl) rfl (Nat.le_of_ble_eq_true rfl) (fg_cr (by first | decide | omega) (by decide)) (fun hR => ?_)
  cases v2 with
  | none =>
    replace h := fg_oq0 h
    refine bs_astoreN dX11_falls_5 rfl (by decide) ?_
    refine bs_aload_n dX11_falls_7 rfl ?_
    refine bs_iload_n dX11_falls_8 rfl ?_
    obtain ⟨v6, k5, h⟩ := fg_bdE h
    refine fg_callV dX11_falls_9 qX11_331 (wX11_ruleAt HX hR k5) rfl (HX.s 0 rfl rfl rfl) rfl (Nat.le_of_ble_eq_true rfl) (fg_cr (by first | decide | omega) (by decide)) (fun hR => ?_)
    cases v6 with
    | none =>
      replace h := fg_oq0 h
      refine bs_astoreN dX11_falls_12 rfl (by decide) ?_
      refine bs_aloadN dX11_falls_14 rfl ?_
      refine bs_ifnullN (tgt := 41) dX11_falls_16 (by decide) ?_
      refine bs_iconst (v := (-1)) dX11_falls_41 (by decide) ?_
      cases h
      exact bs_iret dX11_falls_42 rfl (Nat.zero_le _) (Nat.zero_le _) (kr _ rfl hR)
    | some b7 =>
      replace h := fg_oq1 h
      obtain ⟨g8, h⟩ := fg_gdE h
      have h_b7 := fg_isU_U HX g8
      refine bs_astore dX11_falls_12 rfl (by decide) ?_
      refine bs_aloadN dX11_falls_14 rfl ?_
      refine bs_ifnullN (tgt := 41) dX11_falls_16 (by decide) ?_
      refine bs_iconst (v := (-1)) dX11_falls_41 (by decide) ?_
      cases h
      exact bs_iret dX11_falls_42 rfl (Nat.zero_le _) (Nat.zero_le _) (kr _ rfl hR)
  | some b3 =>
    replace h := fg_oq1 h
    obtain ⟨g4, h⟩ := fg_gdE h
    have h_b3 := fg_isF_F HX g4
    refine bs_astore dX11_falls_5 rfl (by decide) ?_
    refine bs_aload_n dX11_falls_7 rfl ?_
    refine bs_iload_n dX11_falls_8 rfl ?_
    obtain ⟨v10, k9, h⟩ := fg_bdE h
    refine fg_callV dX11_falls_9 qX11_331 (wX11_ruleAt HX hR k9) rfl (HX.s 0 rfl rfl rfl) rfl (Nat.le_of_ble_eq_true rfl) (fg_cr (by first | decide | omega) (by decide)) (fun hR => ?_)
    cases v10 with
    | none =>
      replace h := fg_oq0 h
      refine bs_astoreN dX11_falls_12 rfl (by decide) ?_
      refine bs_aload dX11_falls_14 rfl ?_
      refine bs_ifnull dX11_falls_16 ?_
      refine bs_aloadN dX11_falls_19 rfl ?_
      refine bs_ifnullN (tgt := 41) dX11_falls_21 (by decide) ?_
      refine bs_iconst (v := (-1)) dX11_falls_41 (by decide) ?_
      cases h
      exact bs_iret dX11_falls_42 rfl (Nat.zero_le _) (Nat.zero_le _) (kr _ rfl hR)
    | some b11 =>
      replace h := fg_oq1 h
      obtain ⟨g12, h⟩ := fg_gdE h
      have h_b11 := fg_isU_U HX g12
      refine bs_astore dX11_falls_12 rfl (by decide) ?_
      refine bs_aload dX11_falls_14 rfl ?_
      refine bs_ifnull dX11_falls_16 ?_
      refine bs_aload dX11_falls_19 rfl ?_
      refine bs_ifnull dX11_falls_21 ?_
      refine bs_aload dX11_falls_24 rfl ?_
      refine bs_getI dX11_falls_26 fX11_150 (h_b3.s0) ?_
      refine bs_if_eq (tgt := 41) dX11_falls_29 (by decide) (fun c => ?_) (fun c => ?_)
      · replace h := fg_ip c h
        refine bs_iconst (v := (-1)) dX11_falls_41 (by decide) ?_
        cases h
        exact bs_iret dX11_falls_42 rfl (Nat.zero_le _) (Nat.zero_le _) (kr _ rfl hR)
      · replace h := fg_iN c h
        refine bs_iload_n dX11_falls_32 rfl ?_
        refine bs_if_lt (tgt := 41) dX11_falls_33 (by decide) (fun c => ?_) (fun c => ?_)
        · replace h := fg_ip c h
          refine bs_iconst (v := (-1)) dX11_falls_41 (by decide) ?_
          cases h
          exact bs_iret dX11_falls_42 rfl (Nat.zero_le _) (Nat.zero_le _) (kr _ rfl hR)
        · replace h := fg_iN c h
          refine bs_iload_n dX11_falls_36 rfl ?_
          refine bs_iconst (v := (nI 2)) dX11_falls_37 (by decide) ?_
          refine bs_icmp_le (tgt := 43) dX11_falls_38 (by decide) (fun c => ?_) (fun c => ?_)
          · replace h := fg_ip c h
            refine bs_aload_n dX11_falls_43 rfl ?_
            refine fg_getR (b := (x + 45)) dX11_falls_44 fX11_73 (HX.s 0 rfl rfl rfl) hR (HX.r 0 9 rfl rfl rfl) ?_
            refine bs_aload dX11_falls_47 rfl ?_
            refine bs_aload dX11_falls_49 rfl ?_
            obtain ⟨mu14, k13, h⟩ := fg_bdE h
            refine fg_callVv dX11_falls_51 qX11_345 (wX0_turnTo HX h_b3 h_b11 hR k13) rfl (HX.s 45 rfl rfl rfl) rfl (Nat.le_of_ble_eq_true rfl) (fg_cr (by first | decide | omega) (by decide)) (fun hR => ?_)
            refine bs_iconst (v := (nI 1)) dX11_falls_54 (by decide) ?_
            refine bs_istore dX11_falls_55 rfl (by decide) ?_
            obtain ⟨t230, k24, h1, h2⟩ := fg_l3E h
            refine bs_W.mk [(0, .ref x), (1, .int p1), (2, .int p2), (3, .int p3), (4, .ref b3), (5, .ref b11), (6, .int (nI 1))] (by intro q hq; simp only [List.mem_cons, List.not_mem_nil, or_false] at hq; rcases hq with rfl | rfl | rfl | rfl | rfl | rfl | rfl <;> rfl) ?_
            refine wFX11_falls_l57 HX h_b3 h_b11 _ _ _ k24 hR ?_ ?_
            · intro t23 e hR
              replace h := h1 t23 e
              refine bs_iconst (v := (-1)) dX11_falls_157 (by decide) ?_
              cases h
              exact bs_iret dX11_falls_158 rfl (Nat.zero_le _) (Nat.zero_le _) (kr _ rfl hR)
            · intro q25 e hR
              replace h := h2 q25 e
              cases h
              exact kr _ rfl hR
          · replace h := fg_iN c h
            refine bs_iconst (v := (-1)) dX11_falls_41 (by decide) ?_
            cases h
            exact bs_iret dX11_falls_42 rfl (Nat.zero_le _) (Nat.zero_le _) (kr _ rfl hR)
