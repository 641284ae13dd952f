noncomputable def FX11_match (x : Nat) (mu : bs_Mm) (p1 : Int32) (p2 : Int32) (p3 : Int32) : Option (Int32 × bs_Mm) :=
  fg_bd (FX11_figureAt x mu p1) (fun v2 => 
  fg_oq v2 (
    fg_bd (FX11_figureAt x mu p2) (fun v6 => 
    fg_oq v6 (
      fg_bd (FX4_mayCompare x mu none) (fun v10 => 
      if v10 = 0 then (
        some ((-1), mu)
      ) else (
        fg_bd (FX4_mayCompare x mu none) (fun v12 => 
        if v12 = 0 then (
          some ((-1), mu)
        ) else (
          none
        ))
      ))
    ) (fun b7 => fg_gd (fg_isF x b7) (
      fg_bd (FX4_mayCompare x mu none) (fun v14 => 
      if v14 = 0 then (
        some ((-1), mu)
      ) else (
        fg_bd (FX4_mayCompare x mu (some b7)) (fun v16 => 
        if v16 = 0 then (
          some ((-1), mu)
        ) else (
          none
        ))
      ))
    )))
  ) (fun b3 => fg_gd (fg_isF x b3) (
    fg_bd (FX11_figureAt x mu p2) (fun v18 => 
    fg_oq v18 (
      fg_bd (FX4_mayCompare x mu (some b3)) (fun v22 => 
      if v22 = 0 then (
        some ((-1), mu)
      ) else (
        fg_bd (FX4_mayCompare x mu none) (fun v24 => 
        if v24 = 0 then (
          some ((-1), mu)
        ) else (
          fg_bd (FX1_hasPoint x b3 mu p3) (fun v26 => 
          if v26 = 0 then (
            some ((-1), mu)
          ) else (
            none
          ))
        ))
      ))
    ) (fun b19 => fg_gd (fg_isF x b19) (
      fg_bd (FX4_mayCompare x mu (some b3)) (fun v28 => 
      if v28 = 0 then (
        some ((-1), mu)
      ) else (
        fg_bd (FX4_mayCompare x mu (some b19)) (fun v30 => 
        if v30 = 0 then (
          some ((-1), mu)
        ) else (
          fg_bd (FX1_hasPoint x b3 mu p3) (fun v32 => 
          if v32 = 0 then (
            some ((-1), mu)
          ) else (
            fg_b2 (FX4_matches x mu b3 b19) (fun v35 mu34 => 
            if v35 = 0 then (
              some ((-1), mu34)
            ) else (
              fg_gd (fg_in p3 8) (
              some ((bs_iv (mu34 (x + 31) p3.toNatClampNeg)), mu34))
            ))
          ))
        ))
      ))
    )))
  )))
set_option maxHeartbeats 4000000 in
theorem wX11_match {nx : Nat} {sh : bs_Sh} {R : Nat → Nat → Option Nat} {x : Nat} (HX : fg_S (bs_tS x) R x sh) {mu : bs_Mm} (hR : fg_R R mu) {p1 : Int32} {p2 : Int32} {p3 : Int32} {r : Int32 × bs_Mm} (h : FX11_match x mu p1 p2 p3 = some r) : bs_C mX11_match (bs_rm 5 0 0) [.ref x, .int p1, .int p2, .int p3] nx sh mu (fg_po R nx sh (some (.int r.1)) r.2) := by
  refine bs_ct (by decide +kernel) (Nat.le_of_ble_eq_true rfl) ?_
  have kr : ∀ q, r = q → fg_R R q.2 → (fg_po R nx sh (some (.int r.1)) r.2) (some (.int q.1)) nx sh q.2 := fun q e hq => by subst e; exact ⟨rfl, rfl, rfl, rfl, hq⟩
  unfold FX11_match at h
  refine bs_aload_n dX11_match_0 rfl ?_
  refine bs_iload_n dX11_match_1 rfl ?_
  obtain ⟨v2, k1, h⟩ := fg_bdE h
  refine fg_callV dX11_match_2 qX11_143 (wX11_figureAt HX hR k1) rfl (HX.s 0 rfl rfl rfl) rfl (Nat.le_of_ble_eq_true rfl) (fg_cr (by first | decide | omega) (by decide)) (fun hR => ?_)
  cases v2 with
  | none =>
    replace h := fg_oq0 h
    refine bs_astoreN dX11_match_5 rfl (by decide) ?_
    refine bs_aload_n dX11_match_7 rfl ?_
    refine bs_iload_n dX11_match_8 rfl ?_
    obtain ⟨v6, k5, h⟩ := fg_bdE h
    refine fg_callV dX11_match_9 qX11_143 (wX11_figureAt HX hR k5) rfl (HX.s 0 rfl rfl rfl) rfl (Nat.le_of_ble_eq_true rfl) (fg_cr (by first | decide | omega) (by decide)) (fun hR => ?_)
    cases v6 with
    | none =>
      replace h := fg_oq0 h
      refine bs_astoreN dX11_match_12 rfl (by decide) ?_
      refine bs_aloadN dX11_match_14 rfl ?_
      obtain ⟨v10, k9, h⟩ := fg_bdE h
      refine fg_callS dX11_match_16 qX11_253 (wX4_mayCompare HX hR k9) rfl rfl (Nat.le_of_ble_eq_true rfl) (fg_cr (by first | decide | omega) (by decide)) (fun hR => ?_)
      refine bs_if_eq (tgt := 39) dX11_match_19 (by decide) (fun c => ?_) (fun c => ?_)
      · replace h := fg_ip c h
        refine bs_iconst (v := (-1)) dX11_match_39 (by decide) ?_
        cases h
        exact bs_iret dX11_match_40 rfl (Nat.zero_le _) (Nat.zero_le _) (kr _ rfl hR)
      · replace h := fg_iN c h
        refine bs_aloadN dX11_match_22 rfl ?_
        obtain ⟨v12, k11, h⟩ := fg_bdE h
        refine fg_callS dX11_match_24 qX11_253 (wX4_mayCompare HX hR k11) rfl rfl (Nat.le_of_ble_eq_true rfl) (fg_cr (by first | decide | omega) (by decide)) (fun hR => ?_)
        refine bs_if_eq (tgt := 39) dX11_match_27 (by decide) (fun c => ?_) (fun c => ?_)
        · replace h := fg_ip c h
          refine bs_iconst (v := (-1)) dX11_match_39 (by decide) ?_
          cases h
          exact bs_iret dX11_match_40 rfl (Nat.zero_le _) (Nat.zero_le _) (kr _ rfl hR)
        · replace h := fg_iN c h
          refine bs_aloadN dX11_match_30 rfl ?_
          refine bs_iload_n dX11_match_32 rfl ?_
          cases h
    | some b7 =>
      replace h := fg_oq1 h
      obtain ⟨g8, h⟩ := fg_gdE h
      have h_b7 := fg_isF_F HX g8
      refine bs_astore dX11_match_12 rfl (by decide) ?_
      refine bs_aloadN dX11_match_14 rfl ?_
      obtain ⟨v14, k13, h⟩ := fg_bdE h
      refine fg_callS dX11_match_16 qX11_253 (wX4_mayCompare HX hR k13) rfl rfl (Nat.le_of_ble_eq_true rfl) (fg_cr (by first | decide | omega) (by decide)) (fun hR => ?_)
      refine bs_if_eq (tgt := 39) dX11_match_19 (by decide) (fun c => ?_) (fun c => ?_)
      · replace h := fg_ip c h
        refine bs_iconst (v := (-1)) dX11_match_39 (by decide) ?_
        cases h
        exact bs_iret dX11_match_40 rfl (Nat.zero_le _) (Nat.zero_le _) (kr _ rfl hR)
      · replace h := fg_iN c h
        refine bs_aload dX11_match_22 rfl ?_
        obtain ⟨v16, k15, h⟩ := fg_bdE h
        refine fg_callS dX11_match_24 qX11_253 (wX4_mayCompare HX hR k15) rfl rfl (Nat.le_of_ble_eq_true rfl) (fg_cr (by first | decide | omega) (by decide)) (fun hR => ?_)
        refine bs_if_eq (tgt := 39) dX11_match_27 (by decide) (fun c => ?_) (fun c => ?_)
        · replace h := fg_ip c h
          refine bs_iconst (v := (-1)) dX11_match_39 (by decide) ?_
          cases h
          exact bs_iret dX11_match_40 rfl (Nat.zero_le _) (Nat.zero_le _) (kr _ rfl hR)
        · replace h := fg_iN c h
          refine bs_aloadN dX11_match_30 rfl ?_
          refine bs_iload_n dX11_match_32 rfl ?_
          cases h
  | some b3 =>
    replace h := fg_oq1 h
    obtain ⟨g4, h⟩ := fg_gdE h
    have h_b3 := fg_isF_F HX g4
    refine bs_astore dX11_match_5 rfl (by decide) ?_
    refine bs_aload_n dX11_match_7 rfl ?_
    refine bs_iload_n dX11_match_8 rfl ?_
    obtain ⟨v18, k17, h⟩ := fg_bdE h
    refine fg_callV dX11_match_9 qX11_143 (wX11_figureAt HX hR k17) rfl (HX.s 0 rfl rfl rfl) rfl (Nat.le_of_ble_eq_true rfl) (fg_cr (by first | decide | omega) (by decide)) (fun hR => ?_)
    cases v18 with
    | none =>
      replace h := fg_oq0 h
      refine bs_astoreN dX11_match_12 rfl (by decide) ?_
      refine bs_aload dX11_match_14 rfl ?_
      obtain ⟨v22, k21, h⟩ := fg_bdE h
      refine fg_callS dX11_match_16 qX11_253 (wX4_mayCompare HX hR k21) rfl rfl (Nat.le_of_ble_eq_true rfl) (fg_cr (by first | decide | omega) (by decide)) (fun hR => ?_)
      refine bs_if_eq (tgt := 39) dX11_match_19 (by decide) (fun c => ?_) (fun c => ?_)
      · replace h := fg_ip c h
        refine bs_iconst (v := (-1)) dX11_match_39 (by decide) ?_
        cases h
        exact bs_iret dX11_match_40 rfl (Nat.zero_le _) (Nat.zero_le _) (kr _ rfl hR)
      · replace h := fg_iN c h
        refine bs_aloadN dX11_match_22 rfl ?_
        obtain ⟨v24, k23, h⟩ := fg_bdE h
        refine fg_callS dX11_match_24 qX11_253 (wX4_mayCompare HX hR k23) rfl rfl (Nat.le_of_ble_eq_true rfl) (fg_cr (by first | decide | omega) (by decide)) (fun hR => ?_)
        refine bs_if_eq (tgt := 39) dX11_match_27 (by decide) (fun c => ?_) (fun c => ?_)
        · replace h := fg_ip c h
          refine bs_iconst (v := (-1)) dX11_match_39 (by decide) ?_
          cases h
          exact bs_iret dX11_match_40 rfl (Nat.zero_le _) (Nat.zero_le _) (kr _ rfl hR)
        · replace h := fg_iN c h
          refine bs_aload dX11_match_30 rfl ?_
          refine bs_iload_n dX11_match_32 rfl ?_
          obtain ⟨v26, k25, h⟩ := fg_bdE h
          refine fg_callV dX11_match_33 qX11_198 (wX1_hasPoint HX h_b3 hR k25) rfl (h_b3.s0) rfl (Nat.le_of_ble_eq_true rfl) (fg_cr (by first | decide | omega) (by decide)) (fun hR => ?_)
          refine bs_if_ne (tgt := 41) dX11_match_36 (by decide) (fun c => ?_) (fun c => ?_)
          · replace h := fg_iN c h
            refine bs_aload_n dX11_match_41 rfl ?_
            refine fg_getR (b := (x + 30)) dX11_match_42 fX11_59 (HX.s 0 rfl rfl rfl) hR (HX.r 0 7 rfl rfl rfl) ?_
            refine bs_aload dX11_match_45 rfl ?_
            refine bs_aloadN dX11_match_47 rfl ?_
            cases h
          · replace h := fg_ip c h
            refine bs_iconst (v := (-1)) dX11_match_39 (by decide) ?_
            cases h
            exact bs_iret dX11_match_40 rfl (Nat.zero_le _) (Nat.zero_le _) (kr _ rfl hR)
    | some b19 =>
      replace h := fg_oq1 h
      obtain ⟨g20, h⟩ := fg_gdE h
      have h_b19 := fg_isF_F HX g20
      refine bs_astore dX11_match_12 rfl (by decide) ?_
      refine bs_aload dX11_match_14 rfl ?_
      obtain ⟨v28, k27, h⟩ := fg_bdE h
      refine fg_callS dX11_match_16 qX11_253 (wX4_mayCompare HX hR k27) rfl rfl (Nat.le_of_ble_eq_true rfl) (fg_cr (by first | decide | omega) (by decide)) (fun hR => ?_)
      refine bs_if_eq (tgt := 39) dX11_match_19 (by decide) (fun c => ?_) (fun c => ?_)
      · replace h := fg_ip c h
        refine bs_iconst (v := (-1)) dX11_match_39 (by decide) ?_
        cases h
        exact bs_iret dX11_match_40 rfl (Nat.zero_le _) (Nat.zero_le _) (kr _ rfl hR)
      · replace h := fg_iN c h
        refine bs_aload dX11_match_22 rfl ?_
        obtain ⟨v30, k29, h⟩ := fg_bdE h
        refine fg_callS dX11_match_24 qX11_253 (wX4_mayCompare HX hR k29) rfl rfl (Nat.le_of_ble_eq_true rfl) (fg_cr (by first | decide | omega) (by decide)) (fun hR => ?_)
        refine bs_if_eq (tgt := 39) dX11_match_27 (by decide) (fun c => ?_) (fun c => ?_)
        · replace h := fg_ip c h
          refine bs_iconst (v := (-1)) dX11_match_39 (by decide) ?_
          cases h
          exact bs_iret dX11_match_40 rfl (Nat.zero_le _) (Nat.zero_le _) (kr _ rfl hR)
        · replace h := fg_iN c h
          refine bs_aload dX11_match_30 rfl ?_
          refine bs_iload_n dX11_match_32 rfl ?_
          obtain ⟨v32, k31, h⟩ := fg_bdE h
          refine fg_callV dX11_match_33 qX11_198 (wX1_hasPoint HX h_b3 hR k31) rfl (h_b3.s0) rfl (Nat.le_of_ble_eq_true rfl) (fg_cr (by first | decide | omega) (by decide)) (fun hR => ?_)
          refine bs_if_ne (tgt := 41) dX11_match_36 (by decide) (fun c => ?_) (fun c => ?_)
          · replace h := fg_iN c h
            refine bs_aload_n dX11_match_41 rfl ?_
            refine fg_getR (b := (x + 30)) dX11_match_42 fX11_59 (HX.s 0 rfl rfl rfl) hR (HX.r 0 7 rfl rfl rfl) ?_
            refine bs_aload dX11_match_45 rfl ?_
            refine bs_aload dX11_match_47 rfl ?_
            obtain ⟨v35, mu34, k33, h⟩ := fg_b2E h
            refine fg_callV dX11_match_49 qX11_257 (wX4_matches HX h_b3 h_b19 hR k33) rfl (HX.s 30 rfl rfl rfl) rfl (Nat.le_of_ble_eq_true rfl) (fg_cr (by first | decide | omega) (by decide)) (fun hR => ?_)
            refine bs_if_eq (tgt := 67) dX11_match_52 (by decide) (fun c => ?_) (fun c => ?_)
            · replace h := fg_ip c h
              refine bs_iconst (v := (-1)) dX11_match_67 (by decide) ?_
              cases h
              exact bs_iret dX11_match_68 rfl (Nat.zero_le _) (Nat.zero_le _) (kr _ rfl hR)
            · replace h := fg_iN c h
              refine bs_aload_n dX11_match_55 rfl ?_
              refine fg_getR (b := (x + 30)) dX11_match_56 fX11_59 (HX.s 0 rfl rfl rfl) hR (HX.r 0 7 rfl rfl rfl) ?_
              refine fg_getR (b := (x + 31)) dX11_match_59 fX11_261 (HX.s 30 rfl rfl rfl) hR (HX.r 30 0 rfl rfl rfl) ?_
              refine bs_iload_n dX11_match_62 rfl ?_
              obtain ⟨g36, h⟩ := fg_gdE h
              refine bs_iald dX11_match_63 (HX.ss 31 rfl rfl) (fg_in_ix g36) ?_
              refine bs_goto (tgt := 68) dX11_match_64 (by decide) ?_
              cases h
              exact bs_iret dX11_match_68 rfl (Nat.zero_le _) (Nat.zero_le _) (kr _ rfl hR)
          · replace h := fg_ip c h
            refine bs_iconst (v := (-1)) dX11_match_39 (by decide) ?_
            cases h
            exact bs_iret dX11_match_40 rfl (Nat.zero_le _) (Nat.zero_le _) (kr _ rfl hR)
noncomputable def FX11_pace (x : Nat) (mu : bs_Mm) (p1 : Int32) (p2 : Int32) : Option (Int32 × bs_Mm) :=
  if p1 < (nI 1) then (
    some ((nI 0), mu)
  ) else (
    if (nI 9) < p1 then (
      some ((nI 0), mu)
    ) else (
      if p2 < 0 then (
        some ((nI 0), mu)
      ) else (
        if p2 ≤ (nI 9) then (
          fg_wr mu (x + 50) 1 (.int p1) (fun mu1 => 
          fg_wr mu1 (x + 50) 2 (.int p2) (fun mu2 => 
          some ((nI 1), mu2)))
        ) else (
          some ((nI 0), mu)
        )
      )
    )
  )
set_option maxHeartbeats 4000000 in
theorem wX11_pace {nx : Nat} {sh : bs_Sh} {R : Nat → Nat → Option Nat} {x : Nat} (HX : fg_S (bs_tS x) R x sh) {mu : bs_Mm} (hR : fg_R R mu) {p1 : Int32} {p2 : Int32} {r : Int32 × bs_Mm} (h : FX11_pace x mu p1 p2 = some r) : bs_C mX11_pace (bs_rm 0 0 0) [.ref x, .int p1, .int p2] nx sh mu (fg_po R nx sh (some (.int r.1)) r.2) := by
  refine bs_ct (by decide +kernel) (Nat.le_of_ble_eq_true rfl) ?_
  have kr : ∀ q, r = q → fg_R R q.2 → (fg_po R nx sh (some (.int r.1)) r.2) (some (.int q.1)) nx sh q.2 := fun q e hq => by subst e; exact ⟨rfl, rfl, rfl, rfl, hq⟩
  unfold FX11_pace at h
  refine bs_iload_n dX11_pace_0 rfl ?_
  refine bs_iconst (v := (nI 1)) dX11_pace_1 (by decide) ?_
  refine bs_icmp_lt (tgt := 21) dX11_pace_2 (by decide) (fun c => ?_) (fun c => ?_)
  · replace h := fg_ip c h
    refine bs_iconst (v := (nI 0)) dX11_pace_21 (by decide) ?_
    cases h
    exact bs_zret dX11_pace_22 rfl (Or.inl rfl) (Nat.zero_le _) (Nat.zero_le _) (kr _ rfl hR)
  · replace h := fg_iN c h
    refine bs_iload_n dX11_pace_5 rfl ?_
    refine bs_bipush (v := (nI 9)) dX11_pace_6 (by decide) ?_
    refine bs_icmp_gt (tgt := 21) dX11_pace_8 (by decide) (fun c => ?_) (fun c => ?_)
    · replace h := fg_ip c h
      refine bs_iconst (v := (nI 0)) dX11_pace_21 (by decide) ?_
      cases h
      exact bs_zret dX11_pace_22 rfl (Or.inl rfl) (Nat.zero_le _) (Nat.zero_le _) (kr _ rfl hR)
    · replace h := fg_iN c h
      refine bs_iload_n dX11_pace_11 rfl ?_
      refine bs_if_lt (tgt := 21) dX11_pace_12 (by decide) (fun c => ?_) (fun c => ?_)
      · replace h := fg_ip c h
        refine bs_iconst (v := (nI 0)) dX11_pace_21 (by decide) ?_
        cases h
        exact bs_zret dX11_pace_22 rfl (Or.inl rfl) (Nat.zero_le _) (Nat.zero_le _) (kr _ rfl hR)
      · replace h := fg_iN c h
        refine bs_iload_n dX11_pace_15 rfl ?_
        refine bs_bipush (v := (nI 9)) dX11_pace_16 (by decide) ?_
        refine bs_icmp_le (tgt := 23) dX11_pace_18 (by decide) (fun c => ?_) (fun c => ?_)
        · replace h := fg_ip c h
          refine bs_aload_n dX11_pace_23 rfl ?_
          refine fg_getR (b := (x + 50)) dX11_pace_24 fX11_80 (HX.s 0 rfl rfl rfl) hR (HX.r 0 10 rfl rfl rfl) ?_
          refine bs_iload_n dX11_pace_27 rfl ?_
          refine fg_putI dX11_pace_28 pX11_296 (HX.s 50 rfl rfl rfl) (HX.n 50 1 rfl rfl rfl) hR h (fun mu1 hR h => ?_)
          refine bs_aload_n dX11_pace_31 rfl ?_
          refine fg_getR (b := (x + 50)) dX11_pace_32 fX11_80 (HX.s 0 rfl rfl rfl) hR (HX.r 0 10 rfl rfl rfl) ?_
          refine bs_iload_n dX11_pace_35 rfl ?_
          refine fg_putI dX11_pace_36 pX11_299 (HX.s 50 rfl rfl rfl) (HX.n 50 2 rfl rfl rfl) hR h (fun mu2 hR h => ?_)
          refine bs_iconst (v := (nI 1)) dX11_pace_39 (by decide) ?_
          cases h
          exact bs_zret dX11_pace_40 rfl (Or.inr rfl) (Nat.zero_le _) (Nat.zero_le _) (kr _ rfl hR)
        · replace h := fg_iN c h
          refine bs_iconst (v := (nI 0)) dX11_pace_21 (by decide) ?_
          cases h
          exact bs_zret dX11_pace_22 rfl (Or.inl rfl) (Nat.zero_le _) (Nat.zero_le _) (kr _ rfl hR)
noncomputable def FX1_turnBalloonBack_b9 (x : Nat) (f : Nat) (p1 : Nat) (p4 : Nat)  (l2 : Int32) (l3 : Int32) (s : Int32 × Int32 × Int32 × bs_Mm) : Option ((Int32 × Int32 × Int32 × bs_Mm) ⊕ (Int32 × bs_Mm)) :=
  if (bs_iv (s.2.2.2 p1 7)) ≤ s.2.2.1 then (
    some (.inr (s.2.2.1, s.2.2.2))
  ) else (
    fg_gd (fg_in s.2.2.1 24) (
    if (bs_iv (s.2.2.2 (p1 + 5) s.2.2.1.toNatClampNeg)) = l2 then (
      fg_gd (fg_in s.2.2.1 24) (
      fg_bd (FX1_slackBehind x p1 s.2.2.2 s.2.2.1) (fun v4 => 
      if v4 = 0 then (
        fg_gd (fg_in s.2.1 24) (
        fg_gd (fg_in (bs_iv (s.2.2.2 (p1 + 3) s.2.1.toNatClampNeg)) 30) (
        fg_gd (fg_in s.2.2.1 24) (
        fg_gd (fg_in (bs_iv (s.2.2.2 (p1 + 4) s.2.2.1.toNatClampNeg)) 30) (
        fg_bd (FX1_makeBubble x f s.2.2.2 (s.1 + (bs_iv (s.2.2.2 (p1 + 2) s.2.2.1.toNatClampNeg))) (bs_iv (s.2.2.2 p4 (bs_iv (s.2.2.2 (p1 + 3) s.2.1.toNatClampNeg)).toNatClampNeg)) (bs_iv (s.2.2.2 p4 (bs_iv (s.2.2.2 (p1 + 4) s.2.2.1.toNatClampNeg)).toNatClampNeg))) (fun mu10 => 
        some (.inl ((nI 0), (s.2.2.1 + (nI 1)), (s.2.2.1 + (nI 1)), mu10)))))))
      ) else (
        some (.inl ((s.1 + (bs_iv (s.2.2.2 (p1 + 2) s.2.2.1.toNatClampNeg))), s.2.1, (s.2.2.1 + (nI 1)), s.2.2.2))
      )))
    ) else (
      some (.inr (s.2.2.1, s.2.2.2))
    ))
  )
set_option maxHeartbeats 4000000 in
theorem wFX1_turnBalloonBack_b9 {nx : Nat} {sh : bs_Sh} {R : Nat → Nat → Option Nat} {x : Nat} (HX : fg_S (bs_tS x) R x sh) {f : Nat} (h_f : fg_F R sh f) {p1 : Nat} (h_p1 : fg_F R sh p1) {p4 : Nat} (h_p4 : fg_A R sh p4 30) {l2 : Int32} {l3 : Int32} {Ph : bs_Po} {s : Int32 × Int32 × Int32 × bs_Mm} {r : (Int32 × Int32 × Int32 × bs_Mm) ⊕ (Int32 × bs_Mm)} (ka : ∀ s, r = .inl s → fg_R R s.2.2.2 → bs_W Ph mX1_turnBalloonBack (bs_rm 2 0 0) 9 (bs_mk [(0, .ref f), (1, .ref p1), (2, .int l2), (3, .int l3), (4, .ref p4), (5, .int s.1), (6, .int s.2.1), (7, .int s.2.2.1)]) [] 0 0 nx sh s.2.2.2) (ke : ∀ s, r = .inr s → fg_R R s.2 → bs_W Ph mX1_turnBalloonBack (bs_rm 2 0 0) 91 (bs_mk [(0, .ref f), (1, .ref p1), (2, .int l2), (3, .int l3), (4, .ref p4), (7, .int s.1)]) [] 0 0 nx sh s.2) (hR : fg_R R s.2.2.2) (h : FX1_turnBalloonBack_b9 x f p1 p4 l2 l3 s = some r) : bs_W Ph mX1_turnBalloonBack (bs_rm 2 0 0) 9 (bs_mk [(0, .ref f), (1, .ref p1), (2, .int l2), (3, .int l3), (4, .ref p4), (5, .int s.1), (6, .int s.2.1), (7, .int s.2.2.1)]) [] 0 0 nx sh s.2.2.2 := by
  unfold FX1_turnBalloonBack_b9 at h
  refine bs_iload dX1_turnBalloonBack_9 rfl ?_
  refine bs_aload_n dX1_turnBalloonBack_11 rfl ?_
  refine bs_getI dX1_turnBalloonBack_12 fX1_40 (h_p1.s0) ?_
  refine bs_icmp_ge (tgt := 91) dX1_turnBalloonBack_15 (by decide) (fun c => ?_) (fun c => ?_)
  · replace h := fg_ip c h
    cases h
    refine bs_W.mk [(0, .ref f), (1, .ref p1), (2, .int l2), (3, .int l3), (4, .ref p4), (7, .int s.2.2.1)] (by intro q hq; simp only [List.mem_cons, List.not_mem_nil, or_false] at hq; rcases hq with rfl | rfl | rfl | rfl | rfl | rfl <;> rfl) (ke _ rfl hR)
  · replace h := fg_iN c h
    refine bs_aload_n dX1_turnBalloonBack_18 rfl ?_
    refine fg_getR (b := (p1 + 5)) dX1_turnBalloonBack_19 fX1_24 (h_p1.s0) hR (h_p1.r4) ?_
    refine bs_iload dX1_turnBalloonBack_22 rfl ?_
    obtain ⟨g1, h⟩ := fg_gdE h
    refine bs_iald dX1_turnBalloonBack_24 (h_p1.s5) (fg_in_ix g1) ?_
    refine bs_iload_n dX1_turnBalloonBack_25 rfl ?_
    refine bs_icmp_ne (tgt := 91) dX1_turnBalloonBack_26 (by decide) (fun c => ?_) (fun c => ?_)
    · replace h := fg_iN c h
      cases h
      refine bs_W.mk [(0, .ref f), (1, .ref p1), (2, .int l2), (3, .int l3), (4, .ref p4), (7, .int s.2.2.1)] (by intro q hq; simp only [List.mem_cons, List.not_mem_nil, or_false] at hq; rcases hq with rfl | rfl | rfl | rfl | rfl | rfl <;> rfl) (ke _ rfl hR)
    · replace h := fg_ip c h
      refine bs_iload dX1_turnBalloonBack_29 rfl ?_
      refine bs_aload_n dX1_turnBalloonBack_31 rfl ?_
      refine fg_getR (b := (p1 + 2)) dX1_turnBalloonBack_32 fX1_15 (h_p1.s0) hR (h_p1.r1) ?_
      refine bs_iload dX1_turnBalloonBack_35 rfl ?_
      obtain ⟨g2, h⟩ := fg_gdE h
      refine bs_iald dX1_turnBalloonBack_37 (h_p1.s2) (fg_in_ix g2) ?_
      refine bs_iadd dX1_turnBalloonBack_38 ?_
      refine bs_istore dX1_turnBalloonBack_39 rfl (by decide) ?_
      refine bs_aload_n dX1_turnBalloonBack_41 rfl ?_
      refine bs_iload dX1_turnBalloonBack_42 rfl ?_
      obtain ⟨v4, k3, h⟩ := fg_bdE h
      refine fg_callV dX1_turnBalloonBack_44 qX1_79 (wX1_slackBehind HX h_p1 hR k3) rfl (h_p1.s0) rfl (Nat.le_of_ble_eq_true rfl) (fg_cr (by first | decide | omega) (by decide)) (fun hR => ?_)
      refine bs_if_ne (tgt := 85) dX1_turnBalloonBack_47 (by decide) (fun c => ?_) (fun c => ?_)
      · replace h := fg_iN c h
        refine fg_iinc (m := (nI 1)) dX1_turnBalloonBack_85 rfl rfl (by decide) ?_
        refine bs_goto (tgt := 9) dX1_turnBalloonBack_88 (by decide) ?_
        cases h
        refine bs_W.mk [(0, .ref f), (1, .ref p1), (2, .int l2), (3, .int l3), (4, .ref p4), (5, .int (s.1 + (bs_iv (s.2.2.2 (p1 + 2) s.2.2.1.toNatClampNeg)))), (6, .int s.2.1), (7, .int (s.2.2.1 + (nI 1)))] (by intro q hq; simp only [List.mem_cons, List.not_mem_nil, or_false] at hq; rcases hq with rfl | rfl | rfl | rfl | rfl | rfl | rfl | rfl <;> rfl) (by have k := ka _ rfl hR; dsimp only at k; exact k)
      · replace h := fg_ip c h
        refine bs_aload_n dX1_turnBalloonBack_50 rfl ?_
        refine bs_iload dX1_turnBalloonBack_51 rfl ?_
        refine bs_aload dX1_turnBalloonBack_53 rfl ?_
        refine bs_aload_n dX1_turnBalloonBack_55 rfl ?_
        refine fg_getR (b := (p1 + 3)) dX1_turnBalloonBack_56 fX1_18 (h_p1.s0) hR (h_p1.r2) ?_
        refine bs_iload dX1_turnBalloonBack_59 rfl ?_
        obtain ⟨g5, h⟩ := fg_gdE h
        refine bs_iald dX1_turnBalloonBack_61 (h_p1.s3) (fg_in_ix g5) ?_
        obtain ⟨g6, h⟩ := fg_gdE h
        refine bs_iald dX1_turnBalloonBack_62 (h_p4.1) (fg_in_ix g6) ?_
        refine bs_aload dX1_turnBalloonBack_63 rfl ?_
        refine bs_aload_n dX1_turnBalloonBack_65 rfl ?_
        refine fg_getR (b := (p1 + 4)) dX1_turnBalloonBack_66 fX1_21 (h_p1.s0) hR (h_p1.r3) ?_
        refine bs_iload dX1_turnBalloonBack_69 rfl ?_
        obtain ⟨g7, h⟩ := fg_gdE h
        refine bs_iald dX1_turnBalloonBack_71 (h_p1.s4) (fg_in_ix g7) ?_
        obtain ⟨g8, h⟩ := fg_gdE h
        refine bs_iald dX1_turnBalloonBack_72 (h_p4.1) (fg_in_ix g8) ?_
        obtain ⟨mu10, k9, h⟩ := fg_bdE h
        refine fg_callVv dX1_turnBalloonBack_73 qX1_90 (wX1_makeBubble HX h_f hR k9) rfl (h_f.s0) rfl (Nat.le_of_ble_eq_true rfl) (fg_cr (by first | decide | omega) (by decide)) (fun hR => ?_)
        refine bs_iconst (v := (nI 0)) dX1_turnBalloonBack_76 (by decide) ?_
        refine bs_istore dX1_turnBalloonBack_77 rfl (by decide) ?_
        refine bs_iload dX1_turnBalloonBack_79 rfl ?_
        refine bs_iconst (v := (nI 1)) dX1_turnBalloonBack_81 (by decide) ?_
        refine bs_iadd dX1_turnBalloonBack_82 ?_
        refine bs_istore dX1_turnBalloonBack_83 rfl (by decide) ?_
        refine fg_iinc (m := (nI 1)) dX1_turnBalloonBack_85 rfl rfl (by decide) ?_
        refine bs_goto (tgt := 9) dX1_turnBalloonBack_88 (by decide) ?_
        cases h
        refine bs_W.mk [(0, .ref f), (1, .ref p1), (2, .int l2), (3, .int l3), (4, .ref p4), (5, .int (nI 0)), (6, .int (s.2.2.1 + (nI 1))), (7, .int (s.2.2.1 + (nI 1)))] (by intro q hq; simp only [List.mem_cons, List.not_mem_nil, or_false] at hq; rcases hq with rfl | rfl | rfl | rfl | rfl | rfl | rfl | rfl <;> rfl) (by have k := ka _ rfl hR; dsimp only at k; exact k)
theorem wFX1_turnBalloonBack_l9 {nx : Nat} {sh : bs_Sh} {R : Nat → Nat → Option Nat} {x : Nat} (HX : fg_S (bs_tS x) R x sh) {f : Nat} (h_f : fg_F R sh f) {p1 : Nat} (h_p1 : fg_F R sh p1) {p4 : Nat} (h_p4 : fg_A R sh p4 30) {l2 : Int32} {l3 : Int32} {Ph : bs_Po} {t : Int32 × bs_Mm} : ∀ n (y0 : Int32) (y1 : Int32) (y2 : Int32) (mu1 : bs_Mm), fg_lp (FX1_turnBalloonBack_b9 x f p1 p4 l2 l3) n (y0, y1, y2, mu1) = some t → fg_R R mu1 → (ke : ∀ s, t = s → fg_R R s.2 → bs_W Ph mX1_turnBalloonBack (bs_rm 2 0 0) 91 (bs_mk [(0, .ref f), (1, .ref p1), (2, .int l2), (3, .int l3), (4, .ref p4), (7, .int s.1)]) [] 0 0 nx sh s.2) → bs_W Ph mX1_turnBalloonBack (bs_rm 2 0 0) 9 (bs_mk [(0, .ref f), (1, .ref p1), (2, .int l2), (3, .int l3), (4, .ref p4), (5, .int y0), (6, .int y1), (7, .int y2)]) [] 0 0 nx sh mu1 := by
  intro n
  induction n with
  | zero => intro y0 y1 y2 mu1 h; exact absurd h (fun z => fg_lp0 z)
  | succ n ih =>
    intro y0 y1 y2 mu1 h hR ke
    obtain ⟨r, hb, h1, h2⟩ := fg_lpE h
    exact wFX1_turnBalloonBack_b9 (s := (y0, y1, y2, mu1)) HX h_f h_p1 h_p4 (fun s' e hR' => ih s'.1 s'.2.1 s'.2.2.1 s'.2.2.2 (h1 s' e) hR' ke) (fun s' e => ke s' (h2 _ e).symm) hR hb
noncomputable def FX1_turnBalloonBack (x : Nat) (f : Nat) (mu : bs_Mm) (p1 : Nat) (p2 : Int32) (p3 : Int32) (p4 : Nat) : Option (Int32 × bs_Mm) :=
  fg_bd (fg_lp (FX1_turnBalloonBack_b9 x f p1 p4 p2 p3) fg_fu ((nI 0), p3, p3, mu)) (fun t11 => 
    some (t11.1, t11.2)
  )
set_option maxHeartbeats 4000000 in
theorem wX1_turnBalloonBack {nx : Nat} {sh : bs_Sh} {R : Nat → Nat → Option Nat} {x : Nat} (HX : fg_S (bs_tS x) R x sh) {f : Nat} (h_f : fg_F R sh f) {p1 : Nat} (h_p1 : fg_F R sh p1) {p4 : Nat} (h_p4 : fg_A R sh p4 30) {mu : bs_Mm} (hR : fg_R R mu) {p2 : Int32} {p3 : Int32} {r : Int32 × bs_Mm} (h : FX1_turnBalloonBack x f mu p1 p2 p3 p4 = some r) : bs_C mX1_turnBalloonBack (bs_rm 2 0 0) [.ref f, .ref p1, .int p2, .int p3, .ref p4] nx sh mu (fg_po R nx sh (some (.int r.1)) r.2) := by
  refine bs_ct (by decide +kernel) (Nat.le_of_ble_eq_true rfl) ?_
  have kr : ∀ q, r = q → fg_R R q.2 → (fg_po R nx sh (some (.int r.1)) r.2) (some (.int q.1)) nx sh q.2 := fun q e hq => by subst e; exact ⟨rfl, rfl, rfl, rfl, hq⟩
  unfold FX1_turnBalloonBack at h
  refine bs_iconst (v := (nI 0)) dX1_turnBalloonBack_0 (by decide) ?_
  refine bs_istore dX1_turnBalloonBack_1 rfl (by decide) ?_
  refine bs_iload_n dX1_turnBalloonBack_3 rfl ?_
  refine bs_istore dX1_turnBalloonBack_4 rfl (by decide) ?_
  refine bs_iload_n dX1_turnBalloonBack_6 rfl ?_
  refine bs_istore dX1_turnBalloonBack_7 rfl (by decide) ?_
  obtain ⟨t11, k12, h⟩ := fg_bdE h
  refine bs_W.mk [(0, .ref f), (1, .ref p1), (2, .int p2), (3, .int p3), (4, .ref p4), (5, .int (nI 0)), (6, .int p3), (7, .int p3)] (by intro q hq; simp only [List.mem_cons, List.not_mem_nil, or_false] at hq; rcases hq with rfl | rfl | rfl | rfl | rfl | rfl | rfl | rfl <;> rfl) ?_
  refine wFX1_turnBalloonBack_l9 HX h_f h_p1 h_p4 _ _ _ _ _ k12 hR ?_
  intro s e hR
  subst e
  refine bs_iload dX1_turnBalloonBack_91 rfl ?_
  cases h
  exact bs_iret dX1_turnBalloonBack_93 rfl (Nat.zero_le _) (Nat.zero_le _) (kr _ rfl hR)
noncomputable def FX1_turnBack_b11 (x : Nat) (f : Nat) (p1 : Nat) (p2 : Nat)  (s : Int32 × bs_Mm) : Option ((Int32 × bs_Mm) ⊕ (bs_Mm)) :=
  if (bs_iv (s.2 p1 7)) ≤ s.1 then (
    some (.inr s.2)
  ) else (
    fg_bd (FX1_slackBehind x p1 s.2 s.1) (fun v5 => 
    if v5 = 0 then (
      some (.inl ((s.1 + (nI 1)), s.2))
    ) else (
      fg_gd (fg_in s.1 24) (
      fg_gd (fg_in (bs_iv (s.2 (p1 + 4) s.1.toNatClampNeg)) 30) (
      fg_wr s.2 p2 (bs_iv (s.2 (p1 + 4) s.1.toNatClampNeg)).toNatClampNeg (.int (-1)) (fun mu8 => 
      some (.inl ((s.1 + (nI 1)), mu8)))))
    ))
  )
set_option maxHeartbeats 4000000 in
theorem wFX1_turnBack_b11 {nx : Nat} {sh : bs_Sh} {R : Nat → Nat → Option Nat} {x : Nat} (HX : fg_S (bs_tS x) R x sh) {f : Nat} (h_f : fg_F R sh f) {p1 : Nat} (h_p1 : fg_F R sh p1) {p2 : Nat} (h_p2 : fg_A R sh p2 30) {Ph : bs_Po} {s : Int32 × bs_Mm} {r : (Int32 × bs_Mm) ⊕ (bs_Mm)} (ka : ∀ s, r = .inl s → fg_R R s.2 → bs_W Ph mX1_turnBack (bs_rm 3 0 0) 11 (bs_mk [(0, .ref f), (1, .ref p1), (2, .ref p2), (3, .int s.1)]) [] 0 0 nx sh s.2) (ke : ∀ s, r = .inr s → fg_R R s → bs_W Ph mX1_turnBack (bs_rm 3 0 0) 42 (bs_mk [(0, .ref f), (1, .ref p1), (2, .ref p2)]) [] 0 0 nx sh s) (hR : fg_R R s.2) (h : FX1_turnBack_b11 x f p1 p2 s = some r) : bs_W Ph mX1_turnBack (bs_rm 3 0 0) 11 (bs_mk [(0, .ref f), (1, .ref p1), (2, .ref p2), (3, .int s.1)]) [] 0 0 nx sh s.2 := by
  unfold FX1_turnBack_b11 at h
  refine bs_iload_n dX1_turnBack_11 rfl ?_
  refine bs_aload_n dX1_turnBack_12 rfl ?_
  refine bs_getI dX1_turnBack_13 fX1_40 (h_p1.s0) ?_
  refine bs_icmp_ge (tgt := 42) dX1_turnBack_16 (by decide) (fun c => ?_) (fun c => ?_)
  · replace h := fg_ip c h
    cases h
    refine bs_W.mk [(0, .ref f), (1, .ref p1), (2, .ref p2)] (by intro q hq; simp only [List.mem_cons, List.not_mem_nil, or_false] at hq; rcases hq with rfl | rfl | rfl <;> rfl) (ke _ rfl hR)
  · replace h := fg_iN c h
    refine bs_aload_n dX1_turnBack_19 rfl ?_
    refine bs_iload_n dX1_turnBack_20 rfl ?_
    obtain ⟨v5, k4, h⟩ := fg_bdE h
    refine fg_callV dX1_turnBack_21 qX1_79 (wX1_slackBehind HX h_p1 hR k4) rfl (h_p1.s0) rfl (Nat.le_of_ble_eq_true rfl) (fg_cr (by first | decide | omega) (by decide)) (fun hR => ?_)
    refine bs_if_eq (tgt := 36) dX1_turnBack_24 (by decide) (fun c => ?_) (fun c => ?_)
    · replace h := fg_ip c h
      refine fg_iinc (m := (nI 1)) dX1_turnBack_36 rfl rfl (by decide) ?_
      refine bs_goto (tgt := 11) dX1_turnBack_39 (by decide) ?_
      cases h
      refine bs_W.mk [(0, .ref f), (1, .ref p1), (2, .ref p2), (3, .int (s.1 + (nI 1)))] (by intro q hq; simp only [List.mem_cons, List.not_mem_nil, or_false] at hq; rcases hq with rfl | rfl | rfl | rfl <;> rfl) (by have k := ka _ rfl hR; dsimp only at k; exact k)
    · replace h := fg_iN c h
      refine bs_aload_n dX1_turnBack_27 rfl ?_
      refine bs_aload_n dX1_turnBack_28 rfl ?_
      refine fg_getR (b := (p1 + 4)) dX1_turnBack_29 fX1_21 (h_p1.s0) hR (h_p1.r3) ?_
      refine bs_iload_n dX1_turnBack_32 rfl ?_
      obtain ⟨g6, h⟩ := fg_gdE h
      refine bs_iald dX1_turnBack_33 (h_p1.s4) (fg_in_ix g6) ?_
      refine bs_iconst (v := (-1)) dX1_turnBack_34 (by decide) ?_
      obtain ⟨g7, h⟩ := fg_gdE h
      refine fg_iast dX1_turnBack_35 (h_p2.1) (h_p2.2.1) g7 hR h (fun mu8 hR h => ?_)
      refine fg_iinc (m := (nI 1)) dX1_turnBack_36 rfl rfl (by decide) ?_
      refine bs_goto (tgt := 11) dX1_turnBack_39 (by decide) ?_
      cases h
      refine bs_W.mk [(0, .ref f), (1, .ref p1), (2, .ref p2), (3, .int (s.1 + (nI 1)))] (by intro q hq; simp only [List.mem_cons, List.not_mem_nil, or_false] at hq; rcases hq with rfl | rfl | rfl | rfl <;> rfl) (by have k := ka _ rfl hR; dsimp only at k; exact k)
theorem wFX1_turnBack_l11 {nx : Nat} {sh : bs_Sh} {R : Nat → Nat → Option Nat} {x : Nat} (HX : fg_S (bs_tS x) R x sh) {f : Nat} (h_f : fg_F R sh f) {p1 : Nat} (h_p1 : fg_F R sh p1) {p2 : Nat} (h_p2 : fg_A R sh p2 30) {Ph : bs_Po} {t : bs_Mm} : ∀ n (y0 : Int32) (mu1 : bs_Mm), fg_lp (FX1_turnBack_b11 x f p1 p2) n (y0, mu1) = some t → fg_R R mu1 → (ke : ∀ s, t = s → fg_R R s → bs_W Ph mX1_turnBack (bs_rm 3 0 0) 42 (bs_mk [(0, .ref f), (1, .ref p1), (2, .ref p2)]) [] 0 0 nx sh s) → bs_W Ph mX1_turnBack (bs_rm 3 0 0) 11 (bs_mk [(0, .ref f), (1, .ref p1), (2, .ref p2), (3, .int y0)]) [] 0 0 nx sh mu1 := by
  intro n
  induction n with
  | zero => intro y0 mu1 h; exact absurd h (fun z => fg_lp0 z)
  | succ n ih =>
    intro y0 mu1 h hR ke
    obtain ⟨r, hb, h1, h2⟩ := fg_lpE h
    exact wFX1_turnBack_b11 (s := (y0, mu1)) HX h_f h_p1 h_p2 (fun s' e hR' => ih s'.1 s'.2 (h1 s' e) hR' ke) (fun s' e => ke s' (h2 _ e).symm) hR hb
noncomputable def FX1_turnBack_b59 (x : Nat) (f : Nat) (p1 : Nat) (p2 : Nat)  (s : Int32 × Int32 × bs_Mm) : Option ((Int32 × Int32 × bs_Mm) ⊕ (bs_Mm)) :=
  if (bs_iv (s.2.2 p1 6)) ≤ s.2.1 then (
    some (.inr s.2.2)
  ) else (
    fg_gd (fg_in s.2.1 6) (
    fg_bd (FX1_startBalloon x f s.2.2 (bs_iv (s.2.2 (p1 + 1) s.2.1.toNatClampNeg))) (fun mu17 => 
    fg_b2 (FX1_turnBalloonBack x f mu17 p1 s.2.1 s.1 p2) (fun v20 mu19 => 
    some (.inl (v20, (s.2.1 + (nI 1)), mu19)))))
  )
set_option maxHeartbeats 4000000 in
theorem wFX1_turnBack_b59 {nx : Nat} {sh : bs_Sh} {R : Nat → Nat → Option Nat} {x : Nat} (HX : fg_S (bs_tS x) R x sh) {f : Nat} (h_f : fg_F R sh f) {p1 : Nat} (h_p1 : fg_F R sh p1) {p2 : Nat} (h_p2 : fg_A R sh p2 30) {Ph : bs_Po} {s : Int32 × Int32 × bs_Mm} {r : (Int32 × Int32 × bs_Mm) ⊕ (bs_Mm)} (ka : ∀ s, r = .inl s → fg_R R s.2.2 → bs_W Ph mX1_turnBack (bs_rm 3 0 0) 59 (bs_mk [(0, .ref f), (1, .ref p1), (2, .ref p2), (3, .int s.1), (4, .int s.2.1)]) [] 0 0 nx sh s.2.2) (ke : ∀ s, r = .inr s → fg_R R s → bs_W Ph mX1_turnBack (bs_rm 3 0 0) 95 (bs_mk [(0, .ref f), (1, .ref p1), (2, .ref p2)]) [] 0 0 nx sh s) (hR : fg_R R s.2.2) (h : FX1_turnBack_b59 x f p1 p2 s = some r) : bs_W Ph mX1_turnBack (bs_rm 3 0 0) 59 (bs_mk [(0, .ref f), (1, .ref p1), (2, .ref p2), (3, .int s.1), (4, .int s.2.1)]) [] 0 0 nx sh s.2.2 := by
  unfold FX1_turnBack_b59 at h
  refine bs_iload dX1_turnBack_59 rfl ?_
  refine bs_aload_n dX1_turnBack_61 rfl ?_
  refine bs_getI dX1_turnBack_62 fX1_36 (h_p1.s0) ?_
  refine bs_icmp_ge (tgt := 95) dX1_turnBack_65 (by decide) (fun c => ?_) (fun c => ?_)
  · replace h := fg_ip c h
    cases h
    refine bs_W.mk [(0, .ref f), (1, .ref p1), (2, .ref p2)] (by intro q hq; simp only [List.mem_cons, List.not_mem_nil, or_false] at hq; rcases hq with rfl | rfl | rfl <;> rfl) (ke _ rfl hR)
  · replace h := fg_iN c h
    refine bs_aload_n dX1_turnBack_68 rfl ?_
    refine bs_aload_n dX1_turnBack_69 rfl ?_
    refine fg_getR (b := (p1 + 1)) dX1_turnBack_70 fX1_9 (h_p1.s0) hR (h_p1.r0) ?_
    refine bs_iload dX1_turnBack_73 rfl ?_
    obtain ⟨g15, h⟩ := fg_gdE h
    refine bs_iald dX1_turnBack_75 (h_p1.s1) (fg_in_ix g15) ?_
    obtain ⟨mu17, k16, h⟩ := fg_bdE h
    refine fg_callVv dX1_turnBack_76 qX1_82 (wX1_startBalloon HX h_f hR k16) rfl (h_f.s0) rfl (Nat.le_of_ble_eq_true rfl) (fg_cr (by first | decide | omega) (by decide)) (fun hR => ?_)
    refine bs_aload_n dX1_turnBack_79 rfl ?_
    refine bs_aload_n dX1_turnBack_80 rfl ?_
    refine bs_iload dX1_turnBack_81 rfl ?_
    refine bs_iload_n dX1_turnBack_83 rfl ?_
    refine bs_aload_n dX1_turnBack_84 rfl ?_
    obtain ⟨v20, mu19, k18, h⟩ := fg_b2E h
    refine fg_callV dX1_turnBack_85 qX1_86 (wX1_turnBalloonBack HX h_f h_p1 h_p2 hR k18) rfl (h_f.s0) rfl (Nat.le_of_ble_eq_true rfl) (fg_cr (by first | decide | omega) (by decide)) (fun hR => ?_)
    refine bs_istore_n dX1_turnBack_88 rfl (by decide) ?_
    refine fg_iinc (m := (nI 1)) dX1_turnBack_89 rfl rfl (by decide) ?_
    refine bs_goto (tgt := 59) dX1_turnBack_92 (by decide) ?_
    cases h
    refine bs_W.mk [(0, .ref f), (1, .ref p1), (2, .ref p2), (3, .int v20), (4, .int (s.2.1 + (nI 1)))] (by intro q hq; simp only [List.mem_cons, List.not_mem_nil, or_false] at hq; rcases hq with rfl | rfl | rfl | rfl | rfl <;> rfl) (by have k := ka _ rfl hR; dsimp only at k; exact k)
theorem wFX1_turnBack_l59 {nx : Nat} {sh : bs_Sh} {R : Nat → Nat → Option Nat} {x : Nat} (HX : fg_S (bs_tS x) R x sh) {f : Nat} (h_f : fg_F R sh f) {p1 : Nat} (h_p1 : fg_F R sh p1) {p2 : Nat} (h_p2 : fg_A R sh p2 30) {Ph : bs_Po} {t : bs_Mm} : ∀ n (y0 : Int32) (y1 : Int32) (mu1 : bs_Mm), fg_lp (FX1_turnBack_b59 x f p1 p2) n (y0, y1, mu1) = some t → fg_R R mu1 → (ke : ∀ s, t = s → fg_R R s → bs_W Ph mX1_turnBack (bs_rm 3 0 0) 95 (bs_mk [(0, .ref f), (1, .ref p1), (2, .ref p2)]) [] 0 0 nx sh s) → bs_W Ph mX1_turnBack (bs_rm 3 0 0) 59 (bs_mk [(0, .ref f), (1, .ref p1), (2, .ref p2), (3, .int y0), (4, .int y1)]) [] 0 0 nx sh mu1 := by
  intro n
  induction n with
  | zero => intro y0 y1 mu1 h; exact absurd h (fun z => fg_lp0 z)
  | succ n ih =>
    intro y0 y1 mu1 h hR ke
    obtain ⟨r, hb, h1, h2⟩ := fg_lpE h
    exact wFX1_turnBack_b59 (s := (y0, y1, mu1)) HX h_f h_p1 h_p2 (fun s' e hR' => ih s'.1 s'.2.1 s'.2.2 (h1 s' e) hR' ke) (fun s' e => ke s' (h2 _ e).symm) hR hb
noncomputable def FX1_turnBack (x : Nat) (f : Nat) (mu : bs_Mm) (p1 : Nat) (p2 : Nat) : Option (bs_Mm) :=
  fg_bd (FX1_clear x f mu) (fun mu2 => 
  fg_wf mu2 p2 30 (.int (nI 0)) (fun mu3 => 
  fg_bd (fg_lp (FX1_turnBack_b11 x f p1 p2) fg_fu ((nI 0), mu3)) (fun t9 => 
    fg_b2 (FX1_numberAnew x t9 p2 (bs_iv (t9 p1 8))) (fun v13 mu12 => 
    fg_wr mu12 f 8 (.int v13) (fun mu14 => 
    fg_bd (fg_lp (FX1_turnBack_b59 x f p1 p2) fg_fu ((nI 0), (nI 0), mu14)) (fun t21 => 
      some t21
    )))
  )))
set_option maxHeartbeats 4000000 in
theorem wX1_turnBack {nx : Nat} {sh : bs_Sh} {R : Nat → Nat → Option Nat} {x : Nat} (HX : fg_S (bs_tS x) R x sh) {f : Nat} (h_f : fg_F R sh f) {p1 : Nat} (h_p1 : fg_F R sh p1) {p2 : Nat} (h_p2 : fg_A R sh p2 30) {mu : bs_Mm} (hR : fg_R R mu) {r : bs_Mm} (h : FX1_turnBack x f mu p1 p2 = some r) : bs_C mX1_turnBack (bs_rm 3 0 0) [.ref f, .ref p1, .ref p2] nx sh mu (fg_po R nx sh none r) := by
  refine bs_ct (by decide +kernel) (Nat.le_of_ble_eq_true rfl) ?_
  have kr : ∀ q, r = q → fg_R R q → (fg_po R nx sh none r) none nx sh q := fun q e hq => by subst e; exact ⟨rfl, rfl, rfl, rfl, hq⟩
  unfold FX1_turnBack at h
  refine bs_aload_n dX1_turnBack_0 rfl ?_
  obtain ⟨mu2, k1, h⟩ := fg_bdE h
  refine fg_callVv dX1_turnBack_1 qX1_76 (wX1_clear HX h_f hR k1) rfl (h_f.s0) rfl (Nat.le_of_ble_eq_true rfl) (fg_cr (by first | decide | omega) (by decide)) (fun hR => ?_)
  refine bs_aload_n dX1_turnBack_4 rfl ?_
  refine bs_iconst (v := (nI 0)) dX1_turnBack_5 (by decide) ?_
  refine fg_fill dX1_turnBack_6 qX1_30 (h_p2.1) (h_p2.2.1) (by decide) (Nat.le_of_ble_eq_true rfl) (fg_cr (by first | decide | omega) (by decide)) hR h (fun mu3 hR h => ?_)
  refine bs_iconst (v := (nI 0)) dX1_turnBack_9 (by decide) ?_
  refine bs_istore_n dX1_turnBack_10 rfl (by decide) ?_
  obtain ⟨t9, k10, h⟩ := fg_bdE h
  refine bs_W.mk [(0, .ref f), (1, .ref p1), (2, .ref p2), (3, .int (nI 0))] (by intro q hq; simp only [List.mem_cons, List.not_mem_nil, or_false] at hq; rcases hq with rfl | rfl | rfl | rfl <;> rfl) ?_
  refine wFX1_turnBack_l11 HX h_f h_p1 h_p2 _ _ _ k10 hR ?_
  intro s e hR
  subst e
  refine bs_aload_n dX1_turnBack_42 rfl ?_
  refine bs_aload_n dX1_turnBack_43 rfl ?_
  refine bs_aload_n dX1_turnBack_44 rfl ?_
  refine bs_getI dX1_turnBack_45 fX1_43 (h_p1.s0) ?_
  obtain ⟨v13, mu12, k11, h⟩ := fg_b2E h
  refine fg_callS dX1_turnBack_48 qX1_72 (wX1_numberAnew HX h_p2 hR k11) rfl rfl (Nat.le_of_ble_eq_true rfl) (fg_cr (by first | decide | omega) (by decide)) (fun hR => ?_)
  refine fg_putI dX1_turnBack_51 pX1_43 (h_f.s0) (h_f.n8) hR h (fun mu14 hR h => ?_)
  refine bs_iconst (v := (nI 0)) dX1_turnBack_54 (by decide) ?_
  refine bs_istore_n dX1_turnBack_55 rfl (by decide) ?_
  refine bs_iconst (v := (nI 0)) dX1_turnBack_56 (by decide) ?_
  refine bs_istore dX1_turnBack_57 rfl (by decide) ?_
  obtain ⟨t21, k22, h⟩ := fg_bdE h
  refine bs_W.mk [(0, .ref f), (1, .ref p1), (2, .ref p2), (3, .int (nI 0)), (4, .int (nI 0))] (by intro q hq; simp only [List.mem_cons, List.not_mem_nil, or_false] at hq; rcases hq with rfl | rfl | rfl | rfl | rfl <;> rfl) ?_
  refine wFX1_turnBack_l59 HX h_f h_p1 h_p2 _ _ _ _ k22 hR ?_
  intro s e hR
  subst e
  cases h
  exact bs_vret dX1_turnBack_95 rfl (Nat.zero_le _) (Nat.zero_le _) (kr _ rfl hR)
noncomputable def FX11_plain (x : Nat) (mu : bs_Mm) (p1 : Int32) : Option (Int32 × bs_Mm) :=
  fg_bd (FX11_figureAt x mu p1) (fun v2 => 
  fg_oq v2 (
    fg_bd (FX11_freeFigure x mu) (fun v6 => 
    fg_oq v6 (
      some ((-1), mu)
    ) (fun b7 => fg_gd (fg_isF x b7) (
      some ((-1), mu)
    )))
  ) (fun b3 => fg_gd (fg_isF x b3) (
    fg_bd (FX11_freeFigure x mu) (fun v10 => 
    fg_oq v10 (
      some ((-1), mu)
    ) (fun b11 => fg_gd (fg_isF x b11) (
      fg_bd (FX1_turnBack x b11 mu b3 (x + 62)) (fun mu14 => 
      fg_wr mu14 x 13 (.int ((bs_iv (mu14 x 13)) + (nI 1))) (fun mu15 => 
      some ((bs_iv (mu14 x 13)), mu15)))
    )))
  )))
set_option maxHeartbeats 4000000 in
theorem wX11_plain {nx : Nat} {sh : bs_Sh} {R : Nat → Nat → Option Nat} {x : Nat} (HX : fg_S (bs_tS x) R x sh) {mu : bs_Mm} (hR : fg_R R mu) {p1 : Int32} {r : Int32 × bs_Mm} (h : FX11_plain x mu p1 = some r) : bs_C mX11_plain (bs_rm 4 0 0) [.ref x, .int p1] nx sh mu (fg_po R nx sh (some (.int r.1)) r.2) := by
  refine bs_ct (by decide +kernel) (Nat.le_of_ble_eq_true rfl) ?_
  have kr : ∀ q, r = q → fg_R R q.2 → (fg_po R nx sh (some (.int r.1)) r.2) (some (.int q.1)) nx sh q.2 := fun q e hq => by subst e; exact ⟨rfl, rfl, rfl, rfl, hq⟩
  unfold FX11_plain at h
  refine bs_aload_n dX11_plain_0 rfl ?_
  refine bs_iload_n dX11_plain_1 rfl ?_
  obtain ⟨v2, k1, h⟩ := fg_bdE h
  refine fg_callV dX11_plain_2 qX11_143 (wX11_figureAt HX hR k1) rfl (HX.s 0 rfl rfl rfl) rfl (Nat.le_of_ble_eq_true rfl) (fg_cr (by first | decide | omega) (by decide)) (fun hR => ?_)
  cases v2 with
  | none =>
    replace h := fg_oq0 h
    refine bs_astoreN_n dX11_plain_5 rfl (by decide) ?_
    refine bs_aload_n dX11_plain_6 rfl ?_
    obtain ⟨v6, k5, h⟩ := fg_bdE h
    refine fg_callV dX11_plain_7 qX11_119 (wX11_freeFigure HX hR k5) rfl (HX.s 0 rfl rfl rfl) rfl (Nat.le_of_ble_eq_true rfl) (fg_cr (by first | decide | omega) (by decide)) (fun hR => ?_)
    cases v6 with
    | none =>
      replace h := fg_oq0 h
      refine bs_astoreN_n dX11_plain_10 rfl (by decide) ?_
      refine bs_aloadN_n dX11_plain_11 rfl ?_
      refine bs_ifnullN (tgt := 19) dX11_plain_12 (by decide) ?_
      refine bs_iconst (v := (-1)) dX11_plain_19 (by decide) ?_
      cases h
      exact bs_iret dX11_plain_20 rfl (Nat.zero_le _) (Nat.zero_le _) (kr _ rfl hR)
    | some b7 =>
      replace h := fg_oq1 h
      obtain ⟨g8, h⟩ := fg_gdE h
      have h_b7 := fg_isF_F HX g8
      refine bs_astore_n dX11_plain_10 rfl (by decide) ?_
      refine bs_aloadN_n dX11_plain_11 rfl ?_
      refine bs_ifnullN (tgt := 19) dX11_plain_12 (by decide) ?_
      refine bs_iconst (v := (-1)) dX11_plain_19 (by decide) ?_
      cases h
      exact bs_iret dX11_plain_20 rfl (Nat.zero_le _) (Nat.zero_le _) (kr _ rfl hR)
  | some b3 =>
    replace h := fg_oq1 h
    obtain ⟨g4, h⟩ := fg_gdE h
    have h_b3 := fg_isF_F HX g4
    refine bs_astore_n dX11_plain_5 rfl (by decide) ?_
    refine bs_aload_n dX11_plain_6 rfl ?_
    obtain ⟨v10, k9, h⟩ := fg_bdE h
    refine fg_callV dX11_plain_7 qX11_119 (wX11_freeFigure HX hR k9) rfl (HX.s 0 rfl rfl rfl) rfl (Nat.le_of_ble_eq_true rfl) (fg_cr (by first | decide | omega) (by decide)) (fun hR => ?_)
    cases v10 with
    | none =>
      replace h := fg_oq0 h
      refine bs_astoreN_n dX11_plain_10 rfl (by decide) ?_
      refine bs_aload_n dX11_plain_11 rfl ?_
      refine bs_ifnull dX11_plain_12 ?_
      refine bs_aloadN_n dX11_plain_15 rfl ?_
      refine bs_ifnonnullN dX11_plain_16 ?_
      refine bs_iconst (v := (-1)) dX11_plain_19 (by decide) ?_
      cases h
      exact bs_iret dX11_plain_20 rfl (Nat.zero_le _) (Nat.zero_le _) (kr _ rfl hR)
    | some b11 =>
      replace h := fg_oq1 h
      obtain ⟨g12, h⟩ := fg_gdE h
      have h_b11 := fg_isF_F HX g12
      refine bs_astore_n dX11_plain_10 rfl (by decide) ?_
      refine bs_aload_n dX11_plain_11 rfl ?_
      refine bs_ifnull dX11_plain_12 ?_
      refine bs_aload_n dX11_plain_15 rfl ?_
      refine bs_ifnonnull (tgt := 21) dX11_plain_16 (by decide) ?_
      refine bs_aload_n dX11_plain_21 rfl ?_
      refine bs_aload_n dX11_plain_22 rfl ?_
      refine bs_aload_n dX11_plain_23 rfl ?_
      refine fg_getR (b := (x + 62)) dX11_plain_24 fX11_88 (HX.s 0 rfl rfl rfl) hR (HX.r 0 12 rfl rfl rfl) ?_
      obtain ⟨mu14, k13, h⟩ := fg_bdE h
      refine fg_callVv dX11_plain_27 qX11_234 (wX1_turnBack HX h_b11 h_b3 ⟨(HX.ss 62 rfl rfl), (fun j => HX.n 62 j rfl rfl rfl), by decide⟩ hR k13) rfl (h_b11.s0) rfl (Nat.le_of_ble_eq_true rfl) (fg_cr (by first | decide | omega) (by decide)) (fun hR => ?_)
      refine bs_aload_n dX11_plain_30 rfl ?_
      refine bs_dup dX11_plain_31 rfl ?_
      refine bs_getI dX11_plain_32 fX11_131 (HX.s 0 rfl rfl rfl) ?_
      refine bs_dup_x1 dX11_plain_35 rfl rfl ?_
      refine bs_iconst (v := (nI 1)) dX11_plain_36 (by decide) ?_
      refine bs_iadd dX11_plain_37 ?_
      refine fg_putI dX11_plain_38 pX11_131 (HX.s 0 rfl rfl rfl) (HX.n 0 13 rfl rfl rfl) hR h (fun mu15 hR h => ?_)
      cases h
      exact bs_iret dX11_plain_41 rfl (Nat.zero_le _) (Nat.zero_le _) (kr _ rfl hR)
noncomputable def FX11_pop (x : Nat) (mu : bs_Mm) (p1 : Int32) (p2 : Int32) (p3 : Int32) : Option (Int32 × bs_Mm) :=
  fg_bd (FX11_figureAt x mu p1) (fun v2 => 
  fg_oq v2 (
    some ((-1), mu)
  ) (fun b3 => fg_gd (fg_isF x b3) (
    fg_bd (FX1_hasBubble x b3 mu p2) (fun v6 => 
    if v6 = 0 then (
      some ((-1), mu)
    ) else (
      fg_b2 (FX5_lostWith x mu b3 ((nI 1) <<< (p2 &&& 31))) (fun v9 mu8 => 
      if p3 = (nI 0) then (
        some (v9, mu8)
      ) else (
      if p3 = (nI 1) then (
        fg_bd (FJ6_bitCount_0f7a4  mu8 v9) (fun v13 => 
        some (v13, mu8))
      ) else (
      if p3 = (nI 2) then (
        fg_b2 (FX5_parts x mu8 b3 v9) (fun v17 mu16 => 
        some (v17, mu16))
      ) else (
      some ((-1), mu8)
      ))))
    ))
  )))
set_option maxHeartbeats 4000000 in
theorem wX11_pop {nx : Nat} {sh : bs_Sh} {R : Nat → Nat → Option Nat} {x : Nat} (HX : fg_S (bs_tS x) R x sh) {mu : bs_Mm} (hR : fg_R R mu) {p1 : Int32} {p2 : Int32} {p3 : Int32} {r : Int32 × bs_Mm} (h : FX11_pop x mu p1 p2 p3 = some r) : bs_C mX11_pop (bs_rm 3 0 0) [.ref x, .int p1, .int p2, .int p3] nx sh mu (fg_po R nx sh (some (.int r.1)) r.2) := by
  refine bs_ct (by decide +kernel) (Nat.le_of_ble_eq_true rfl) ?_
  have kr : ∀ q, r = q → fg_R R q.2 → (fg_po R nx sh (some (.int r.1)) r.2) (some (.int q.1)) nx sh q.2 := fun q e hq => by subst e; exact ⟨rfl, rfl, rfl, rfl, hq⟩
  unfold FX11_pop at h
  refine bs_aload_n dX11_pop_0 rfl ?_
  refine bs_iload_n dX11_pop_1 rfl ?_
  obtain ⟨v2, k1, h⟩ := fg_bdE h
  refine fg_callV dX11_pop_2 qX11_143 (wX11_figureAt HX hR k1) rfl (HX.s 0 rfl rfl rfl) rfl (Nat.le_of_ble_eq_true rfl) (fg_cr (by first | decide | omega) (by decide)) (fun hR => ?_)
  cases v2 with
  | none =>
    replace h := fg_oq0 h
    refine bs_astoreN dX11_pop_5 rfl (by decide) ?_
    refine bs_aloadN dX11_pop_7 rfl ?_
    refine bs_ifnullN (tgt := 21) dX11_pop_9 (by decide) ?_
    refine bs_iconst (v := (-1)) dX11_pop_21 (by decide) ?_
    cases h
    exact bs_iret dX11_pop_22 rfl (Nat.zero_le _) (Nat.zero_le _) (kr _ rfl hR)
  | some b3 =>
    replace h := fg_oq1 h
    obtain ⟨g4, h⟩ := fg_gdE h
    have h_b3 := fg_isF_F HX g4
    refine bs_astore dX11_pop_5 rfl (by decide) ?_
    refine bs_aload dX11_pop_7 rfl ?_
    refine bs_ifnull dX11_pop_9 ?_
    refine bs_aload dX11_pop_12 rfl ?_
    refine bs_iload_n dX11_pop_14 rfl ?_
    obtain ⟨v6, k5, h⟩ := fg_bdE h
    refine fg_callV dX11_pop_15 qX11_171 (wX1_hasBubble HX h_b3 hR k5) rfl (h_b3.s0) rfl (Nat.le_of_ble_eq_true rfl) (fg_cr (by first | decide | omega) (by decide)) (fun hR => ?_)
    refine bs_if_ne (tgt := 23) dX11_pop_18 (by decide) (fun c => ?_) (fun c => ?_)
    · replace h := fg_iN c h
      refine bs_aload_n dX11_pop_23 rfl ?_
      refine fg_getR (b := (x + 26)) dX11_pop_24 fX11_52 (HX.s 0 rfl rfl rfl) hR (HX.r 0 6 rfl rfl rfl) ?_
      refine bs_aload dX11_pop_27 rfl ?_
      refine bs_iconst (v := (nI 1)) dX11_pop_29 (by decide) ?_
      refine bs_iload_n dX11_pop_30 rfl ?_
      refine bs_ishl dX11_pop_31 ?_
      obtain ⟨v9, mu8, k7, h⟩ := fg_b2E h
      refine fg_callV dX11_pop_32 qX11_238 (wX5_lostWith HX h_b3 hR k7) rfl (HX.s 26 rfl rfl rfl) rfl (Nat.le_of_ble_eq_true rfl) (fg_cr (by first | decide | omega) (by decide)) (fun hR => ?_)
      refine bs_istore dX11_pop_35 rfl (by decide) ?_
      refine bs_iload_n dX11_pop_37 rfl ?_
      by_cases e10 : p3 = (nI 0)
      · replace h := fg_ip e10 h
        refine bs_tableIn (off := 26) (tgt := 64) dX11_pop_38 (by rw [e10]; decide) (by rw [e10]; decide) (by rw [e10]; decide) (by decide) ?_
        refine bs_iload dX11_pop_64 rfl ?_
        cases h
        exact bs_iret dX11_pop_66 rfl (Nat.zero_le _) (Nat.zero_le _) (kr _ rfl hR)
      · replace h := fg_iN e10 h
        by_cases e11 : p3 = (nI 1)
        · replace h := fg_ip e11 h
          refine bs_tableIn (off := 29) (tgt := 67) dX11_pop_38 (by rw [e11]; decide) (by rw [e11]; decide) (by rw [e11]; decide) (by decide) ?_
          refine bs_iload dX11_pop_67 rfl ?_
          obtain ⟨v13, k12, h⟩ := fg_bdE h
          refine fg_callS dX11_pop_69 qX11_166 (wJ6_bitCount_0f7a4  hR k12) rfl rfl (Nat.le_of_ble_eq_true rfl) (fg_cr (by first | decide | omega) (by decide)) (fun hR => ?_)
          cases h
          exact bs_iret dX11_pop_72 rfl (Nat.zero_le _) (Nat.zero_le _) (kr _ rfl hR)
        · replace h := fg_iN e11 h
          by_cases e14 : p3 = (nI 2)
          · replace h := fg_ip e14 h
            refine bs_tableIn (off := 35) (tgt := 73) dX11_pop_38 (by rw [e14]; decide) (by rw [e14]; decide) (by rw [e14]; decide) (by decide) ?_
            refine bs_aload_n dX11_pop_73 rfl ?_
            refine fg_getR (b := (x + 26)) dX11_pop_74 fX11_52 (HX.s 0 rfl rfl rfl) hR (HX.r 0 6 rfl rfl rfl) ?_
            refine bs_aload dX11_pop_77 rfl ?_
            refine bs_iload dX11_pop_79 rfl ?_
            obtain ⟨v17, mu16, k15, h⟩ := fg_b2E h
            refine fg_callV dX11_pop_81 qX11_242 (wX5_parts HX h_b3 hR k15) rfl (HX.s 26 rfl rfl rfl) rfl (Nat.le_of_ble_eq_true rfl) (fg_cr (by first | decide | omega) (by decide)) (fun hR => ?_)
            cases h
            exact bs_iret dX11_pop_84 rfl (Nat.zero_le _) (Nat.zero_le _) (kr _ rfl hR)
          · replace h := fg_iN e14 h
            refine fg_tabD (b := 0) (tgt := 85) (sp := [0, 1, 2]) dX11_pop_38 (by decide) (by decide) (by decide) ?_ (by decide) ?_
            · intro k hk; simp only [List.mem_cons, List.not_mem_nil, or_false] at hk; rcases hk with rfl | rfl | rfl <;> assumption
            · refine bs_iconst (v := (-1)) dX11_pop_85 (by decide) ?_
              cases h
              exact bs_iret dX11_pop_86 rfl (Nat.zero_le _) (Nat.zero_le _) (kr _ rfl hR)
    · replace h := fg_ip c h
      refine bs_iconst (v := (-1)) dX11_pop_21 (by decide) ?_
      cases h
      exact bs_iret dX11_pop_22 rfl (Nat.zero_le _) (Nat.zero_le _) (kr _ rfl hR)
noncomputable def FX1_needOf_b5 (x : Nat) (f : Nat) (mu : bs_Mm) (l1 : Int32) (l2 : Int32) (s : Int32 × Int32) : Option ((Int32 × Int32) ⊕ (Int32)) :=
  if (bs_iv (mu f 7)) ≤ s.2 then (
    some (.inr s.1)
  ) else (
    fg_gd (fg_in s.2 24) (
    if (bs_iv (mu (f + 5) s.2.toNatClampNeg)) = l1 then (
      fg_gd (fg_in s.2 24) (
      fg_bd (FX1_twistBehind x f mu s.2) (fun v4 => 
      if v4 = 0 then (
        some (.inl ((s.1 + ((bs_iv (mu (f + 2) s.2.toNatClampNeg)) + (nI 0))), (s.2 + (nI 1))))
      ) else (
        some (.inl ((s.1 + ((bs_iv (mu (f + 2) s.2.toNatClampNeg)) + l2)), (s.2 + (nI 1))))
      )))
    ) else (
      some (.inl (s.1, (s.2 + (nI 1))))
    ))
  )
set_option maxHeartbeats 4000000 in
theorem wFX1_needOf_b5 {nx : Nat} {sh : bs_Sh} {R : Nat → Nat → Option Nat} {x : Nat} (HX : fg_S (bs_tS x) R x sh) {f : Nat} (h_f : fg_F R sh f) {mu : bs_Mm} {l1 : Int32} {l2 : Int32} {Ph : bs_Po} {s : Int32 × Int32} {r : (Int32 × Int32) ⊕ (Int32)} (ka : ∀ s, r = .inl s → bs_W Ph mX1_needOf (bs_rm 1 0 0) 5 (bs_mk [(0, .ref f), (1, .int l1), (2, .int l2), (3, .int s.1), (4, .int s.2)]) [] 0 0 nx sh mu) (ke : ∀ s, r = .inr s → bs_W Ph mX1_needOf (bs_rm 1 0 0) 56 (bs_mk [(0, .ref f), (1, .int l1), (2, .int l2), (3, .int s)]) [] 0 0 nx sh mu) (hR : fg_R R mu) (h : FX1_needOf_b5 x f mu l1 l2 s = some r) : bs_W Ph mX1_needOf (bs_rm 1 0 0) 5 (bs_mk [(0, .ref f), (1, .int l1), (2, .int l2), (3, .int s.1), (4, .int s.2)]) [] 0 0 nx sh mu := by
  unfold FX1_needOf_b5 at h
  refine bs_iload dX1_needOf_5 rfl ?_
  refine bs_aload_n dX1_needOf_7 rfl ?_
  refine bs_getI dX1_needOf_8 fX1_40 (h_f.s0) ?_
  refine bs_icmp_ge (tgt := 56) dX1_needOf_11 (by decide) (fun c => ?_) (fun c => ?_)
  · replace h := fg_ip c h
    cases h
    refine bs_W.mk [(0, .ref f), (1, .int l1), (2, .int l2), (3, .int s.1)] (by intro q hq; simp only [List.mem_cons, List.not_mem_nil, or_false] at hq; rcases hq with rfl | rfl | rfl | rfl <;> rfl) (ke _ rfl)
  · replace h := fg_iN c h
    refine bs_aload_n dX1_needOf_14 rfl ?_
    refine fg_getR (b := (f + 5)) dX1_needOf_15 fX1_24 (h_f.s0) hR (h_f.r4) ?_
    refine bs_iload dX1_needOf_18 rfl ?_
    obtain ⟨g1, h⟩ := fg_gdE h
    refine bs_iald dX1_needOf_20 (h_f.s5) (fg_in_ix g1) ?_
    refine bs_iload_n dX1_needOf_21 rfl ?_
    refine bs_icmp_ne (tgt := 50) dX1_needOf_22 (by decide) (fun c => ?_) (fun c => ?_)
    · replace h := fg_iN c h
      refine fg_iinc (m := (nI 1)) dX1_needOf_50 rfl rfl (by decide) ?_
      refine bs_goto (tgt := 5) dX1_needOf_53 (by decide) ?_
      cases h
      refine bs_W.mk [(0, .ref f), (1, .int l1), (2, .int l2), (3, .int s.1), (4, .int (s.2 + (nI 1)))] (by intro q hq; simp only [List.mem_cons, List.not_mem_nil, or_false] at hq; rcases hq with rfl | rfl | rfl | rfl | rfl <;> rfl) (by have k := ka _ rfl; dsimp only at k; exact k)
    · replace h := fg_ip c h
      refine bs_iload_n dX1_needOf_25 rfl ?_
      refine bs_aload_n dX1_needOf_26 rfl ?_
      refine fg_getR (b := (f + 2)) dX1_needOf_27 fX1_15 (h_f.s0) hR (h_f.r1) ?_
      refine bs_iload dX1_needOf_30 rfl ?_
      obtain ⟨g2, h⟩ := fg_gdE h
      refine bs_iald dX1_needOf_32 (h_f.s2) (fg_in_ix g2) ?_
      refine bs_aload_n dX1_needOf_33 rfl ?_
      refine bs_iload dX1_needOf_34 rfl ?_
      obtain ⟨v4, k3, h⟩ := fg_bdE h
      refine fg_callV dX1_needOf_36 qX1_65 (wX1_twistBehind HX h_f hR k3) rfl (h_f.s0) rfl (Nat.le_of_ble_eq_true rfl) (fg_cr (by first | decide | omega) (by decide)) (fun hR => ?_)
      refine bs_if_eq (tgt := 46) dX1_needOf_39 (by decide) (fun c => ?_) (fun c => ?_)
      · replace h := fg_ip c h
        refine bs_iconst (v := (nI 0)) dX1_needOf_46 (by decide) ?_
        refine bs_iadd dX1_needOf_47 ?_
        refine bs_iadd dX1_needOf_48 ?_
        refine bs_istore_n dX1_needOf_49 rfl (by decide) ?_
        refine fg_iinc (m := (nI 1)) dX1_needOf_50 rfl rfl (by decide) ?_
        refine bs_goto (tgt := 5) dX1_needOf_53 (by decide) ?_
        cases h
        refine bs_W.mk [(0, .ref f), (1, .int l1), (2, .int l2), (3, .int (s.1 + ((bs_iv (mu (f + 2) s.2.toNatClampNeg)) + (nI 0)))), (4, .int (s.2 + (nI 1)))] (by intro q hq; simp only [List.mem_cons, List.not_mem_nil, or_false] at hq; rcases hq with rfl | rfl | rfl | rfl | rfl <;> rfl) (by have k := ka _ rfl; dsimp only at k; exact k)
      · replace h := fg_iN c h
        refine bs_iload_n dX1_needOf_42 rfl ?_
        refine bs_goto (tgt := 47) dX1_needOf_43 (by decide) ?_
        refine bs_iadd dX1_needOf_47 ?_
        refine bs_iadd dX1_needOf_48 ?_
        refine bs_istore_n dX1_needOf_49 rfl (by decide) ?_
        refine fg_iinc (m := (nI 1)) dX1_needOf_50 rfl rfl (by decide) ?_
        refine bs_goto (tgt := 5) dX1_needOf_53 (by decide) ?_
        cases h
        refine bs_W.mk [(0, .ref f), (1, .int l1), (2, .int l2), (3, .int (s.1 + ((bs_iv (mu (f + 2) s.2.toNatClampNeg)) + l2))), (4, .int (s.2 + (nI 1)))] (by intro q hq; simp only [List.mem_cons, List.not_mem_nil, or_false] at hq; rcases hq with rfl | rfl | rfl | rfl | rfl <;> rfl) (by have k := ka _ rfl; dsimp only at k; exact k)
theorem wFX1_needOf_l5 {nx : Nat} {sh : bs_Sh} {R : Nat → Nat → Option Nat} {x : Nat} (HX : fg_S (bs_tS x) R x sh) {f : Nat} (h_f : fg_F R sh f) {mu : bs_Mm} {l1 : Int32} {l2 : Int32} {Ph : bs_Po} {t : Int32} : ∀ n (y0 : Int32) (y1 : Int32), fg_lp (FX1_needOf_b5 x f mu l1 l2) n (y0, y1) = some t → fg_R R mu → (ke : ∀ s, t = s → bs_W Ph mX1_needOf (bs_rm 1 0 0) 56 (bs_mk [(0, .ref f), (1, .int l1), (2, .int l2), (3, .int s)]) [] 0 0 nx sh mu) → bs_W Ph mX1_needOf (bs_rm 1 0 0) 5 (bs_mk [(0, .ref f), (1, .int l1), (2, .int l2), (3, .int y0), (4, .int y1)]) [] 0 0 nx sh mu := by
  intro n
  induction n with
  | zero => intro y0 y1 h; exact absurd h (fun z => fg_lp0 z)
  | succ n ih =>
    intro y0 y1 h hR ke
    obtain ⟨r, hb, h1, h2⟩ := fg_lpE h
    exact wFX1_needOf_b5 (s := (y0, y1)) HX h_f (fun s' e => ih s'.1 s'.2 (h1 s' e) hR ke) (fun s' e => ke s' (h2 _ e).symm) hR hb
noncomputable def FX1_needOf (x : Nat) (f : Nat) (mu : bs_Mm) (p1 : Int32) (p2 : Int32) : Option (Int32) :=
  fg_bd (fg_lp (FX1_needOf_b5 x f mu p1 p2) fg_fu ((nI 0), (nI 0))) (fun t5 => 
    some (t5)
  )
set_option maxHeartbeats 4000000 in
theorem wX1_needOf {nx : Nat} {sh : bs_Sh} {R : Nat → Nat → Option Nat} {x : Nat} (HX : fg_S (bs_tS x) R x sh) {f : Nat} (h_f : fg_F R sh f) {mu : bs_Mm} (hR : fg_R R mu) {p1 : Int32} {p2 : Int32} {r : Int32} (h : FX1_needOf x f mu p1 p2 = some r) : bs_C mX1_needOf (bs_rm 1 0 0) [.ref f, .int p1, .int p2] nx sh mu (fg_po R nx sh (some (.int r)) mu) := by
  refine bs_ct (by decide +kernel) (Nat.le_of_ble_eq_true rfl) ?_
  have kr : ∀ q, r = q → fg_R R mu → (fg_po R nx sh (some (.int r)) mu) (some (.int q)) nx sh mu := fun q e hq => by subst e; exact ⟨rfl, rfl, rfl, rfl, hq⟩
  unfold FX1_needOf at h
  refine bs_iconst (v := (nI 0)) dX1_needOf_0 (by decide) ?_
  refine bs_istore_n dX1_needOf_1 rfl (by decide) ?_
  refine bs_iconst (v := (nI 0)) dX1_needOf_2 (by decide) ?_
  refine bs_istore dX1_needOf_3 rfl (by decide) ?_
  obtain ⟨t5, k6, h⟩ := fg_bdE h
  refine bs_W.mk [(0, .ref f), (1, .int p1), (2, .int p2), (3, .int (nI 0)), (4, .int (nI 0))] (by intro q hq; simp only [List.mem_cons, List.not_mem_nil, or_false] at hq; rcases hq with rfl | rfl | rfl | rfl | rfl <;> rfl) ?_
  refine wFX1_needOf_l5 HX h_f _ _ _ k6 hR ?_
  intro s e
  subst e
  refine bs_iload_n dX1_needOf_56 rfl ?_
  cases h
  exact bs_iret dX1_needOf_57 rfl (Nat.zero_le _) (Nat.zero_le _) (kr _ rfl hR)
noncomputable def FX11_rest (x : Nat) (mu : bs_Mm) (p1 : Int32) (p2 : Int32) : Option (Int32) :=
  fg_bd (FX11_figureAt x mu p1) (fun v2 => 
  fg_oq v2 (
    some ((-1))
  ) (fun b3 => fg_gd (fg_isF x b3) (
    fg_bd (FX1_hasBalloon x b3 mu p2) (fun v6 => 
    if v6 = 0 then (
      some ((-1))
    ) else (
      fg_gd (fg_in p2 6) (
      fg_gd (fg_in (bs_iv (mu (b3 + 1) p2.toNatClampNeg)) 6) (
      fg_gd (fg_in (bs_iv (mu (b3 + 1) p2.toNatClampNeg)) 6) (
      fg_bd (FX1_needOf x b3 mu p2 (bs_iv (mu (x + 3) (bs_iv (mu (b3 + 1) p2.toNatClampNeg)).toNatClampNeg))) (fun v11 => 
      some ((if (nI 0) < ((bs_iv (mu (x + 2) (bs_iv (mu (b3 + 1) p2.toNatClampNeg)).toNatClampNeg)) - v11) then ((bs_iv (mu (x + 2) (bs_iv (mu (b3 + 1) p2.toNatClampNeg)).toNatClampNeg)) - v11) else (nI 0)))))))
    ))
  )))
set_option maxHeartbeats 4000000 in
theorem wX11_rest {nx : Nat} {sh : bs_Sh} {R : Nat → Nat → Option Nat} {x : Nat} (HX : fg_S (bs_tS x) R x sh) {mu : bs_Mm} (hR : fg_R R mu) {p1 : Int32} {p2 : Int32} {r : Int32} (h : FX11_rest x mu p1 p2 = some r) : bs_C mX11_rest (bs_rm 2 0 0) [.ref x, .int p1, .int p2] nx sh mu (fg_po R nx sh (some (.int r)) mu) := by
  refine bs_ct (by decide +kernel) (Nat.le_of_ble_eq_true rfl) ?_
  have kr : ∀ q, r = q → fg_R R mu → (fg_po R nx sh (some (.int r)) mu) (some (.int q)) nx sh mu := fun q e hq => by subst e; exact ⟨rfl, rfl, rfl, rfl, hq⟩
  unfold FX11_rest at h
  refine bs_aload_n dX11_rest_0 rfl ?_
  refine bs_iload_n dX11_rest_1 rfl ?_
  obtain ⟨v2, k1, h⟩ := fg_bdE h
  refine fg_callV dX11_rest_2 qX11_143 (wX11_figureAt HX hR k1) rfl (HX.s 0 rfl rfl rfl) rfl (Nat.le_of_ble_eq_true rfl) (fg_cr (by first | decide | omega) (by decide)) (fun hR => ?_)
  cases v2 with
  | none =>
    replace h := fg_oq0 h
    refine bs_astoreN_n dX11_rest_5 rfl (by decide) ?_
    refine bs_aloadN_n dX11_rest_6 rfl ?_
    refine bs_ifnullN (tgt := 18) dX11_rest_7 (by decide) ?_
    refine bs_iconst (v := (-1)) dX11_rest_18 (by decide) ?_
    cases h
    exact bs_iret dX11_rest_19 rfl (Nat.zero_le _) (Nat.zero_le _) (kr _ rfl hR)
  | some b3 =>
    replace h := fg_oq1 h
    obtain ⟨g4, h⟩ := fg_gdE h
    have h_b3 := fg_isF_F HX g4
    refine bs_astore_n dX11_rest_5 rfl (by decide) ?_
    refine bs_aload_n dX11_rest_6 rfl ?_
    refine bs_ifnull dX11_rest_7 ?_
    refine bs_aload_n dX11_rest_10 rfl ?_
    refine bs_iload_n dX11_rest_11 rfl ?_
    obtain ⟨v6, k5, h⟩ := fg_bdE h
    refine fg_callV dX11_rest_12 qX11_204 (wX1_hasBalloon HX h_b3 hR k5) rfl (h_b3.s0) rfl (Nat.le_of_ble_eq_true rfl) (fg_cr (by first | decide | omega) (by decide)) (fun hR => ?_)
    refine bs_if_ne (tgt := 20) dX11_rest_15 (by decide) (fun c => ?_) (fun c => ?_)
    · replace h := fg_iN c h
      refine bs_aload_n dX11_rest_20 rfl ?_
      refine fg_getR (b := (b3 + 1)) dX11_rest_21 fX11_193 (h_b3.s0) hR (h_b3.r0) ?_
      refine bs_iload_n dX11_rest_24 rfl ?_
      obtain ⟨g7, h⟩ := fg_gdE h
      refine bs_iald dX11_rest_25 (h_b3.s1) (fg_in_ix g7) ?_
      refine bs_istore dX11_rest_26 rfl (by decide) ?_
      refine bs_iconst (v := (nI 0)) dX11_rest_28 (by decide) ?_
      refine bs_aload_n dX11_rest_29 rfl ?_
      refine fg_getR (b := (x + 1)) dX11_rest_30 fX11_12 (HX.s 0 rfl rfl rfl) hR (HX.r 0 0 rfl rfl rfl) ?_
      refine fg_getR (b := (x + 2)) dX11_rest_33 fX11_207 (HX.s 1 rfl rfl rfl) hR (HX.r 1 0 rfl rfl rfl) ?_
      refine bs_iload dX11_rest_36 rfl ?_
      obtain ⟨g8, h⟩ := fg_gdE h
      refine bs_iald dX11_rest_38 (HX.ss 2 rfl rfl) (fg_in_ix g8) ?_
      refine bs_aload_n dX11_rest_39 rfl ?_
      refine bs_iload_n dX11_rest_40 rfl ?_
      refine bs_aload_n dX11_rest_41 rfl ?_
      refine fg_getR (b := (x + 1)) dX11_rest_42 fX11_12 (HX.s 0 rfl rfl rfl) hR (HX.r 0 0 rfl rfl rfl) ?_
      refine fg_getR (b := (x + 3)) dX11_rest_45 fX11_210 (HX.s 1 rfl rfl rfl) hR (HX.r 1 1 rfl rfl rfl) ?_
      refine bs_iload dX11_rest_48 rfl ?_
      obtain ⟨g9, h⟩ := fg_gdE h
      refine bs_iald dX11_rest_50 (HX.ss 3 rfl rfl) (fg_in_ix g9) ?_
      obtain ⟨v11, k10, h⟩ := fg_bdE h
      refine fg_callV dX11_rest_51 qX11_216 (wX1_needOf HX h_b3 hR k10) rfl (h_b3.s0) rfl (Nat.le_of_ble_eq_true rfl) (fg_cr (by first | decide | omega) (by decide)) (fun hR => ?_)
      refine bs_isub dX11_rest_54 ?_
      refine bs_mmax dX11_rest_55 xX11_220 (by first | decide | (simp only [bs_rm]; omega)) (by first | exact Nat.le_of_ble_eq_true rfl | (simp only [bs_rm, List.map, List.sum_cons, List.sum_nil, Value.category]; omega)) (Nat.zero_le _) (Nat.zero_le _) ?_
      cases h
      exact bs_iret dX11_rest_58 rfl (Nat.zero_le _) (Nat.zero_le _) (kr _ rfl hR)
    · replace h := fg_ip c h
      refine bs_iconst (v := (-1)) dX11_rest_18 (by decide) ?_
      cases h
      exact bs_iret dX11_rest_19 rfl (Nat.zero_le _) (Nat.zero_le _) (kr _ rfl hR)
noncomputable def FX6_copy (x : Nat) (u : Nat) (mu : bs_Mm) (p1 : Nat) : Option (bs_Mm) :=
  fg_wc mu (p1 + 1) (u + 1) 0 0 201 (fun mu1 => 
  fg_wr mu1 u 1 (.int (bs_iv (mu1 p1 1))) (fun mu2 => 
  some mu2))
set_option maxHeartbeats 4000000 in
theorem wX6_copy {nx : Nat} {sh : bs_Sh} {R : Nat → Nat → Option Nat} {x : Nat} (HX : fg_S (bs_tS x) R x sh) {u : Nat} (h_u : fg_U R sh u) {p1 : Nat} (h_p1 : fg_U R sh p1) {mu : bs_Mm} (hR : fg_R R mu) {r : bs_Mm} (h : FX6_copy x u mu p1 = some r) : bs_C mX6_copy (bs_rm 1 0 0) [.ref u, .ref p1] nx sh mu (fg_po R nx sh none r) := by
  refine bs_ct (by decide +kernel) (Nat.le_of_ble_eq_true rfl) ?_
  have kr : ∀ q, r = q → fg_R R q → (fg_po R nx sh none r) none nx sh q := fun q e hq => by subst e; exact ⟨rfl, rfl, rfl, rfl, hq⟩
  unfold FX6_copy at h
  refine bs_aload_n dX6_copy_0 rfl ?_
  refine fg_getR (b := (p1 + 1)) dX6_copy_1 fX6_11 (h_p1.1) hR (h_p1.2.2.1) ?_
  refine bs_iconst (v := (nI 0)) dX6_copy_4 (by decide) ?_
  refine bs_aload_n dX6_copy_5 rfl ?_
  refine fg_getR (b := (u + 1)) dX6_copy_6 fX6_11 (h_u.1) hR (h_u.2.2.1) ?_
  refine bs_iconst (v := (nI 0)) dX6_copy_9 (by decide) ?_
  refine bs_sipush (v := (nI 201)) dX6_copy_10 (by decide) ?_
  refine fg_copy (sp := 0) (dp := 0) (n := 201) dX6_copy_13 ⟨lX6_15, w_acp_native, w_acp_static, w_acp_ini⟩ (h_p1.2.1) (h_u.2.1) (h_u.2.2.2.2) rfl rfl rfl (by decide) (by decide) (by decide) (by decide) (Nat.le_of_ble_eq_true rfl) hR h (fun mu1 hR h => ?_)
  refine bs_aload_n dX6_copy_16 rfl ?_
  refine bs_aload_n dX6_copy_17 rfl ?_
  refine bs_getI dX6_copy_18 fX6_21 (h_p1.1) ?_
  refine fg_putI dX6_copy_21 pX6_21 (h_u.1) (h_u.2.2.2.1) hR h (fun mu2 hR h => ?_)
  cases h
  exact bs_vret dX6_copy_24 rfl (Nat.zero_le _) (Nat.zero_le _) (kr _ rfl hR)
noncomputable def FX11_rule (x : Nat) (mu : bs_Mm) : Option (Int32 × bs_Mm) :=
  if (nI 6) ≤ (bs_iv (mu x 14)) then (
    some ((-1), mu)
  ) else (
    fg_b2 (FX7_read x mu) (fun v3 mu2 => 
    if v3 = (-1) then (
      fg_gd (fg_in (bs_iv (mu2 x 14)) 6) (
      fg_let (x + 147 + 2 * (bs_iv (mu2 x 14)).toNatClampNeg) (fun b5 => 
      fg_bd (FX6_copy x b5 mu2 (x + 21)) (fun mu7 => 
      fg_wr mu7 (x + 5) 1 (.int (nI 0)) (fun mu8 => 
      fg_wr mu8 x 14 (.int ((bs_iv (mu8 x 14)) + (nI 1))) (fun mu9 => 
      some ((bs_iv (mu8 x 14)), mu9))))))
    ) else (
      some ((-1), mu2)
    ))
  )
set_option maxHeartbeats 4000000 in
theorem wX11_rule {nx : Nat} {sh : bs_Sh} {R : Nat → Nat → Option Nat} {x : Nat} (HX : fg_S (bs_tS x) R x sh) {mu : bs_Mm} (hR : fg_R R mu) {r : Int32 × bs_Mm} (h : FX11_rule x mu = some r) : bs_C mX11_rule (bs_rm 6 0 0) [.ref x] nx sh mu (fg_po R nx sh (some (.int r.1)) r.2) := by
  refine bs_ct (by decide +kernel) (Nat.le_of_ble_eq_true rfl) ?_
  have kr : ∀ q, r = q → fg_R R q.2 → (fg_po R nx sh (some (.int r.1)) r.2) (some (.int q.1)) nx sh q.2 := fun q e hq => by subst e; exact ⟨rfl, rfl, rfl, rfl, hq⟩
  unfold FX11_rule at h
  refine bs_aload_n dX11_rule_0 rfl ?_
  refine bs_getI dX11_rule_1 fX11_134 (HX.s 0 rfl rfl rfl) ?_
  refine bs_bipush (v := (nI 6)) dX11_rule_4 (by decide) ?_
  refine bs_icmp_ge (tgt := 24) dX11_rule_6 (by decide) (fun c => ?_) (fun c => ?_)
  · replace h := fg_ip c h
    refine bs_iconst (v := (-1)) dX11_rule_24 (by decide) ?_
    cases h
    exact bs_iret dX11_rule_25 rfl (Nat.zero_le _) (Nat.zero_le _) (kr _ rfl hR)
  · replace h := fg_iN c h
    refine bs_aload_n dX11_rule_9 rfl ?_
    refine fg_getR (b := (x + 20)) dX11_rule_10 fX11_45 (HX.s 0 rfl rfl rfl) hR (HX.r 0 5 rfl rfl rfl) ?_
    refine bs_aload_n dX11_rule_13 rfl ?_
    refine fg_getR (b := (x + 5)) dX11_rule_14 fX11_19 (HX.s 0 rfl rfl rfl) hR (HX.r 0 1 rfl rfl rfl) ?_
    obtain ⟨v3, mu2, k1, h⟩ := fg_b2E h
    refine fg_callV dX11_rule_17 qX11_116 (wX7_read HX hR k1) rfl (HX.s 20 rfl rfl rfl) rfl (Nat.le_of_ble_eq_true rfl) (fg_cr (by first | decide | omega) (by decide)) (fun hR => ?_)
    refine bs_iconst (v := (-1)) dX11_rule_20 (by decide) ?_
    refine bs_icmp_eq (tgt := 26) dX11_rule_21 (by decide) (fun c => ?_) (fun c => ?_)
    · replace h := fg_ip c h
      refine bs_aload_n dX11_rule_26 rfl ?_
      refine fg_getR (b := (x + 8)) dX11_rule_27 fX11_31 (HX.s 0 rfl rfl rfl) hR (HX.r 0 3 rfl rfl rfl) ?_
      refine bs_aload_n dX11_rule_30 rfl ?_
      refine bs_getI dX11_rule_31 fX11_134 (HX.s 0 rfl rfl rfl) ?_
      obtain ⟨g4, h⟩ := fg_gdE h
      refine fg_aald dX11_rule_34 (HX.ss 8 rfl rfl) (Or.inr rfl) (fg_in_ix g4) hR (fg_uR HX _ (fg_in_lt g4)) ?_
      have h_b5 := fg_U6 HX _ (fg_in_lt g4)
      generalize x + 147 + 2 * (bs_iv (mu2 x 14)).toNatClampNeg = b5 at h h_b5 ⊢
      replace h := fg_letE h
      refine bs_aload_n dX11_rule_35 rfl ?_
      refine fg_getR (b := (x + 20)) dX11_rule_36 fX11_45 (HX.s 0 rfl rfl rfl) hR (HX.r 0 5 rfl rfl rfl) ?_
      refine fg_getR (b := (x + 21)) dX11_rule_39 fX11_137 (HX.s 20 rfl rfl rfl) hR (HX.r 20 0 rfl rfl rfl) ?_
      obtain ⟨mu7, k6, h⟩ := fg_bdE h
      refine fg_callVv dX11_rule_42 qX11_140 (wX6_copy HX h_b5 (fg_Ud HX) hR k6) rfl (h_b5.1) rfl (Nat.le_of_ble_eq_true rfl) (fg_cr (by first | decide | omega) (by decide)) (fun hR => ?_)
      refine bs_aload_n dX11_rule_45 rfl ?_
      refine fg_getR (b := (x + 5)) dX11_rule_46 fX11_19 (HX.s 0 rfl rfl rfl) hR (HX.r 0 1 rfl rfl rfl) ?_
      refine bs_iconst (v := (nI 0)) dX11_rule_49 (by decide) ?_
      refine fg_putI dX11_rule_50 pX11_101 (HX.s 5 rfl rfl rfl) (HX.n 5 1 rfl rfl rfl) hR h (fun mu8 hR h => ?_)
      refine bs_aload_n dX11_rule_53 rfl ?_
      refine bs_dup dX11_rule_54 rfl ?_
      refine bs_getI dX11_rule_55 fX11_134 (HX.s 0 rfl rfl rfl) ?_
      refine bs_dup_x1 dX11_rule_58 rfl rfl ?_
      refine bs_iconst (v := (nI 1)) dX11_rule_59 (by decide) ?_
      refine bs_iadd dX11_rule_60 ?_
      refine fg_putI dX11_rule_61 pX11_134 (HX.s 0 rfl rfl rfl) (HX.n 0 14 rfl rfl rfl) hR h (fun mu9 hR h => ?_)
      cases h
      exact bs_iret dX11_rule_64 rfl (Nat.zero_le _) (Nat.zero_le _) (kr _ rfl hR)
    · replace h := fg_iN c h
      refine bs_iconst (v := (-1)) dX11_rule_24 (by decide) ?_
      cases h
      exact bs_iret dX11_rule_25 rfl (Nat.zero_le _) (Nat.zero_le _) (kr _ rfl hR)
noncomputable def FX9_isThere_b10 (x : Nat) (p1 : Nat)  (s : Int32 × bs_Mm) : Option ((Int32 × bs_Mm) ⊕ (bs_Mm)) :=
  if (bs_iv (s.2 p1 6)) ≤ s.1 then (
    some (.inr s.2)
  ) else (
    fg_gd (fg_in s.1 6) (
    fg_gd (fg_in (bs_iv (s.2 (p1 + 1) s.1.toNatClampNeg)) 6) (
    fg_gd (fg_in (bs_iv (s.2 (p1 + 1) s.1.toNatClampNeg)) 6) (
    fg_wr s.2 (x + 60) (bs_iv (s.2 (p1 + 1) s.1.toNatClampNeg)).toNatClampNeg (.int ((bs_iv (s.2 (x + 60) (bs_iv (s.2 (p1 + 1) s.1.toNatClampNeg)).toNatClampNeg)) + (nI 1))) (fun mu5 => 
    some (.inl ((s.1 + (nI 1)), mu5))))))
  )
set_option maxHeartbeats 4000000 in
theorem wFX9_isThere_b10 {nx : Nat} {sh : bs_Sh} {R : Nat → Nat → Option Nat} {x : Nat} (HX : fg_S (bs_tS x) R x sh) {p1 : Nat} (h_p1 : fg_F R sh p1) {Ph : bs_Po} {s : Int32 × bs_Mm} {r : (Int32 × bs_Mm) ⊕ (bs_Mm)} (ka : ∀ s, r = .inl s → fg_R R s.2 → bs_W Ph mX9_isThere (bs_rm 1 0 0) 10 (bs_mk [(0, .ref (x + 50)), (1, .ref p1), (2, .int s.1)]) [] 0 0 nx sh s.2) (ke : ∀ s, r = .inr s → fg_R R s → bs_W Ph mX9_isThere (bs_rm 1 0 0) 39 (bs_mk [(0, .ref (x + 50)), (1, .ref p1)]) [] 0 0 nx sh s) (hR : fg_R R s.2) (h : FX9_isThere_b10 x p1 s = some r) : bs_W Ph mX9_isThere (bs_rm 1 0 0) 10 (bs_mk [(0, .ref (x + 50)), (1, .ref p1), (2, .int s.1)]) [] 0 0 nx sh s.2 := by
  unfold FX9_isThere_b10 at h
  refine bs_iload_n dX9_isThere_10 rfl ?_
  refine bs_aload_n dX9_isThere_11 rfl ?_
  refine bs_getI dX9_isThere_12 fX9_76 (h_p1.s0) ?_
  refine bs_icmp_ge (tgt := 39) dX9_isThere_15 (by decide) (fun c => ?_) (fun c => ?_)
  · replace h := fg_ip c h
    cases h
    refine bs_W.mk [(0, .ref (x + 50)), (1, .ref p1)] (by intro q hq; simp only [List.mem_cons, List.not_mem_nil, or_false] at hq; rcases hq with rfl | rfl <;> rfl) (ke _ rfl hR)
  · replace h := fg_iN c h
    refine bs_aload_n dX9_isThere_18 rfl ?_
    refine fg_getR (b := (x + 60)) dX9_isThere_19 fX9_43 (HX.s 50 rfl rfl rfl) hR (HX.r 50 13 rfl rfl rfl) ?_
    refine bs_aload_n dX9_isThere_22 rfl ?_
    refine fg_getR (b := (p1 + 1)) dX9_isThere_23 fX9_81 (h_p1.s0) hR (h_p1.r0) ?_
    refine bs_iload_n dX9_isThere_26 rfl ?_
    obtain ⟨g2, h⟩ := fg_gdE h
    refine bs_iald dX9_isThere_27 (h_p1.s1) (fg_in_ix g2) ?_
    refine bs_dup2 dX9_isThere_28 rfl rfl ?_
    obtain ⟨g3, h⟩ := fg_gdE h
    refine bs_iald dX9_isThere_29 (HX.ss 60 rfl rfl) (fg_in_ix g3) ?_
    refine bs_iconst (v := (nI 1)) dX9_isThere_30 (by decide) ?_
    refine bs_iadd dX9_isThere_31 ?_
    obtain ⟨g4, h⟩ := fg_gdE h
    refine fg_iast dX9_isThere_32 (HX.ss 60 rfl rfl) (fun j => HX.n 60 j rfl rfl rfl) g4 hR h (fun mu5 hR h => ?_)
    refine fg_iinc (m := (nI 1)) dX9_isThere_33 rfl rfl (by decide) ?_
    refine bs_goto (tgt := 10) dX9_isThere_36 (by decide) ?_
    cases h
    refine bs_W.mk [(0, .ref (x + 50)), (1, .ref p1), (2, .int (s.1 + (nI 1)))] (by intro q hq; simp only [List.mem_cons, List.not_mem_nil, or_false] at hq; rcases hq with rfl | rfl | rfl <;> rfl) (by have k := ka _ rfl hR; dsimp only at k; exact k)
theorem wFX9_isThere_l10 {nx : Nat} {sh : bs_Sh} {R : Nat → Nat → Option Nat} {x : Nat} (HX : fg_S (bs_tS x) R x sh) {p1 : Nat} (h_p1 : fg_F R sh p1) {Ph : bs_Po} {t : bs_Mm} : ∀ n (y0 : Int32) (mu1 : bs_Mm), fg_lp (FX9_isThere_b10 x p1) n (y0, mu1) = some t → fg_R R mu1 → (ke : ∀ s, t = s → fg_R R s → bs_W Ph mX9_isThere (bs_rm 1 0 0) 39 (bs_mk [(0, .ref (x + 50)), (1, .ref p1)]) [] 0 0 nx sh s) → bs_W Ph mX9_isThere (bs_rm 1 0 0) 10 (bs_mk [(0, .ref (x + 50)), (1, .ref p1), (2, .int y0)]) [] 0 0 nx sh mu1 := by
  intro n
  induction n with
  | zero => intro y0 mu1 h; exact absurd h (fun z => fg_lp0 z)
  | succ n ih =>
    intro y0 mu1 h hR ke
    obtain ⟨r, hb, h1, h2⟩ := fg_lpE h
    exact wFX9_isThere_b10 (s := (y0, mu1)) HX h_p1 (fun s' e hR' => ih s'.1 s'.2 (h1 s' e) hR' ke) (fun s' e => ke s' (h2 _ e).symm) hR hb
noncomputable def FX9_isThere_b41 (x : Nat) (p1 : Nat) (mu : bs_Mm) (s : Int32) : Option ((Int32) ⊕ ((Unit) ⊕ (Int32 × bs_Mm))) :=
  if (nI 6) ≤ s then (
    some (.inr (.inl ()))
  ) else (
    fg_gd (fg_in s 6) (
    fg_gd (fg_in s 6) (
    if (bs_iv (mu (x + 60) s.toNatClampNeg)) ≤ (bs_iv (mu (x + 59) s.toNatClampNeg)) then (
      some (.inl (s + (nI 1)))
    ) else (
      some (.inr (.inr ((nI 0), mu)))
    )))
  )
set_option maxHeartbeats 4000000 in
theorem wFX9_isThere_b41 {nx : Nat} {sh : bs_Sh} {R : Nat → Nat → Option Nat} {x : Nat} (HX : fg_S (bs_tS x) R x sh) {p1 : Nat} (h_p1 : fg_F R sh p1) {mu : bs_Mm} {Ph : bs_Po} {s : Int32} {r : (Int32) ⊕ ((Unit) ⊕ (Int32 × bs_Mm))} (ka : ∀ s, r = .inl s → bs_W Ph mX9_isThere (bs_rm 1 0 0) 41 (bs_mk [(0, .ref (x + 50)), (1, .ref p1), (2, .int s)]) [] 0 0 nx sh mu) (ke : ∀ s, r = .inr (.inl s) → bs_W Ph mX9_isThere (bs_rm 1 0 0) 70 (bs_mk [(0, .ref (x + 50)), (1, .ref p1)]) [] 0 0 nx sh mu) (kr : ∀ q, r = .inr (.inr q) → fg_R R q.2 → Ph (some (.int q.1)) nx sh q.2) (hR : fg_R R mu) (h : FX9_isThere_b41 x p1 mu s = some r) : bs_W Ph mX9_isThere (bs_rm 1 0 0) 41 (bs_mk [(0, .ref (x + 50)), (1, .ref p1), (2, .int s)]) [] 0 0 nx sh mu := by
  unfold FX9_isThere_b41 at h
  refine bs_iload_n dX9_isThere_41 rfl ?_
  refine bs_bipush (v := (nI 6)) dX9_isThere_42 (by decide) ?_
  refine bs_icmp_ge (tgt := 70) dX9_isThere_44 (by decide) (fun c => ?_) (fun c => ?_)
  · replace h := fg_ip c h
    cases h
    refine bs_W.mk [(0, .ref (x + 50)), (1, .ref p1)] (by intro q hq; simp only [List.mem_cons, List.not_mem_nil, or_false] at hq; rcases hq with rfl | rfl <;> rfl) (ke _ rfl)
  · replace h := fg_iN c h
    refine bs_aload_n dX9_isThere_47 rfl ?_
    refine fg_getR (b := (x + 59)) dX9_isThere_48 fX9_40 (HX.s 50 rfl rfl rfl) hR (HX.r 50 12 rfl rfl rfl) ?_
    refine bs_iload_n dX9_isThere_51 rfl ?_
    obtain ⟨g8, h⟩ := fg_gdE h
    refine bs_iald dX9_isThere_52 (HX.ss 59 rfl rfl) (fg_in_ix g8) ?_
    refine bs_aload_n dX9_isThere_53 rfl ?_
    refine fg_getR (b := (x + 60)) dX9_isThere_54 fX9_43 (HX.s 50 rfl rfl rfl) hR (HX.r 50 13 rfl rfl rfl) ?_
    refine bs_iload_n dX9_isThere_57 rfl ?_
    obtain ⟨g9, h⟩ := fg_gdE h
    refine bs_iald dX9_isThere_58 (HX.ss 60 rfl rfl) (fg_in_ix g9) ?_
    refine bs_icmp_ge (tgt := 64) dX9_isThere_59 (by decide) (fun c => ?_) (fun c => ?_)
    · replace h := fg_ip c h
      refine fg_iinc (m := (nI 1)) dX9_isThere_64 rfl rfl (by decide) ?_
      refine bs_goto (tgt := 41) dX9_isThere_67 (by decide) ?_
      cases h
      refine bs_W.mk [(0, .ref (x + 50)), (1, .ref p1), (2, .int (s + (nI 1)))] (by intro q hq; simp only [List.mem_cons, List.not_mem_nil, or_false] at hq; rcases hq with rfl | rfl | rfl <;> rfl) (ka _ rfl)
    · replace h := fg_iN c h
      refine bs_iconst (v := (nI 0)) dX9_isThere_62 (by decide) ?_
      cases h
      exact bs_zret dX9_isThere_63 rfl (Or.inl rfl) (Nat.zero_le _) (Nat.zero_le _) (kr _ rfl hR)
theorem wFX9_isThere_l41 {nx : Nat} {sh : bs_Sh} {R : Nat → Nat → Option Nat} {x : Nat} (HX : fg_S (bs_tS x) R x sh) {p1 : Nat} (h_p1 : fg_F R sh p1) {mu : bs_Mm} {Ph : bs_Po} {t : (Unit) ⊕ (Int32 × bs_Mm)} : ∀ n (y0 : Int32), fg_lp (FX9_isThere_b41 x p1 mu) n y0 = some t → fg_R R mu → (ke : ∀ s, t = .inl s → bs_W Ph mX9_isThere (bs_rm 1 0 0) 70 (bs_mk [(0, .ref (x + 50)), (1, .ref p1)]) [] 0 0 nx sh mu) → (kr : ∀ q, t = .inr q → fg_R R q.2 → Ph (some (.int q.1)) nx sh q.2) → bs_W Ph mX9_isThere (bs_rm 1 0 0) 41 (bs_mk [(0, .ref (x + 50)), (1, .ref p1), (2, .int y0)]) [] 0 0 nx sh mu := by
  intro n
  induction n with
  | zero => intro y0 h; exact absurd h (fun z => fg_lp0 z)
  | succ n ih =>
    intro y0 h hR ke kr
    obtain ⟨r, hb, h1, h2⟩ := fg_lpE h
    exact wFX9_isThere_b41 (s := y0) HX h_p1 (fun s' e => ih s' (h1 s' e) hR ke kr) (fun s' e => ke s' (h2 _ e).symm) (fun q e => kr q (h2 _ e).symm) hR hb
noncomputable def FX9_isThere (x : Nat) (mu : bs_Mm) (p1 : Nat) : Option (Int32 × bs_Mm) :=
  fg_wf mu (x + 60) 6 (.int (nI 0)) (fun mu1 => 
  fg_bd (fg_lp (FX9_isThere_b10 x p1) fg_fu ((nI 0), mu1)) (fun t6 => 
    fg_l3 (fg_lp (FX9_isThere_b41 x p1 t6) fg_fu (nI 0)) (fun t10 => 
      some ((nI 1), t6)
    ) (fun q12 => some q12)
  ))
set_option maxHeartbeats 4000000 in
theorem wX9_isThere {nx : Nat} {sh : bs_Sh} {R : Nat → Nat → Option Nat} {x : Nat} (HX : fg_S (bs_tS x) R x sh) {p1 : Nat} (h_p1 : fg_F R sh p1) {mu : bs_Mm} (hR : fg_R R mu) {r : Int32 × bs_Mm} (h : FX9_isThere x mu p1 = some r) : bs_C mX9_isThere (bs_rm 1 0 0) [.ref (x + 50), .ref p1] nx sh mu (fg_po R nx sh (some (.int r.1)) r.2) := by
  refine bs_ct (by decide +kernel) (Nat.le_of_ble_eq_true rfl) ?_
  have kr : ∀ q, r = q → fg_R R q.2 → (fg_po R nx sh (some (.int r.1)) r.2) (some (.int q.1)) nx sh q.2 := fun q e hq => by subst e; exact ⟨rfl, rfl, rfl, rfl, hq⟩
  unfold FX9_isThere at h
  refine bs_aload_n dX9_isThere_0 rfl ?_
  refine fg_getR (b := (x + 60)) dX9_isThere_1 fX9_43 (HX.s 50 rfl rfl rfl) hR (HX.r 50 13 rfl rfl rfl) ?_
  refine bs_iconst (v := (nI 0)) dX9_isThere_4 (by decide) ?_
  refine fg_fill dX9_isThere_5 qX9_99 (HX.ss 60 rfl rfl) (fun j => HX.n 60 j rfl rfl rfl) (by decide) (Nat.le_of_ble_eq_true rfl) (fg_cr (by first | decide | omega) (by decide)) hR h (fun mu1 hR h => ?_)
  refine bs_iconst (v := (nI 0)) dX9_isThere_8 (by decide) ?_
  refine bs_istore_n dX9_isThere_9 rfl (by decide) ?_
  obtain ⟨t6, k7, h⟩ := fg_bdE h
  refine bs_W.mk [(0, .ref (x + 50)), (1, .ref p1), (2, .int (nI 0))] (by intro q hq; simp only [List.mem_cons, List.not_mem_nil, or_false] at hq; rcases hq with rfl | rfl | rfl <;> rfl) ?_
  refine wFX9_isThere_l10 HX h_p1 _ _ _ k7 hR ?_
  intro s e hR
  subst e
  refine bs_iconst (v := (nI 0)) dX9_isThere_39 (by decide) ?_
  refine bs_istore_n dX9_isThere_40 rfl (by decide) ?_
  obtain ⟨t100, k11, h1, h2⟩ := fg_l3E h
  refine bs_W.mk [(0, .ref (x + 50)), (1, .ref p1), (2, .int (nI 0))] (by intro q hq; simp only [List.mem_cons, List.not_mem_nil, or_false] at hq; rcases hq with rfl | rfl | rfl <;> rfl) ?_
  refine wFX9_isThere_l41 HX h_p1 _ _ k11 hR ?_ ?_
  · intro t10 e
    replace h := h1 t10 e
    refine bs_iconst (v := (nI 1)) dX9_isThere_70 (by decide) ?_
    cases h
    exact bs_zret dX9_isThere_71 rfl (Or.inr rfl) (Nat.zero_le _) (Nat.zero_le _) (kr _ rfl hR)
  · intro q12 e hR
    replace h := h2 q12 e
    cases h
    exact kr _ rfl hR
noncomputable def FX1_bubblesOf_b4 (x : Nat) (f : Nat) (mu : bs_Mm) (l1 : Int32) (s : Int32 × Int32) : Option ((Int32 × Int32) ⊕ (Int32)) :=
  if (bs_iv (mu f 7)) ≤ s.2 then (
    some (.inr s.1)
  ) else (
    fg_gd (fg_in s.2 24) (
    if (bs_iv (mu (f + 5) s.2.toNatClampNeg)) = l1 then (
      some (.inl ((s.1 + (nI 1)), (s.2 + (nI 1))))
    ) else (
      some (.inl (s.1, (s.2 + (nI 1))))
    ))
  )
set_option maxHeartbeats 4000000 in
theorem wFX1_bubblesOf_b4 {nx : Nat} {sh : bs_Sh} {R : Nat → Nat → Option Nat} {x : Nat} (HX : fg_S (bs_tS x) R x sh) {f : Nat} (h_f : fg_F R sh f) {mu : bs_Mm} {l1 : Int32} {Ph : bs_Po} {s : Int32 × Int32} {r : (Int32 × Int32) ⊕ (Int32)} (ka : ∀ s, r = .inl s → bs_W Ph mX1_bubblesOf (bs_rm 0 0 0) 4 (bs_mk [(0, .ref f), (1, .int l1), (2, .int s.1), (3, .int s.2)]) [] 0 0 nx sh mu) (ke : ∀ s, r = .inr s → bs_W Ph mX1_bubblesOf (bs_rm 0 0 0) 31 (bs_mk [(0, .ref f), (1, .int l1), (2, .int s)]) [] 0 0 nx sh mu) (hR : fg_R R mu) (h : FX1_bubblesOf_b4 x f mu l1 s = some r) : bs_W Ph mX1_bubblesOf (bs_rm 0 0 0) 4 (bs_mk [(0, .ref f), (1, .int l1), (2, .int s.1), (3, .int s.2)]) [] 0 0 nx sh mu := by
  unfold FX1_bubblesOf_b4 at h
  refine bs_iload_n dX1_bubblesOf_4 rfl ?_
  refine bs_aload_n dX1_bubblesOf_5 rfl ?_
  refine bs_getI dX1_bubblesOf_6 fX1_40 (h_f.s0) ?_
  refine bs_icmp_ge (tgt := 31) dX1_bubblesOf_9 (by decide) (fun c => ?_) (fun c => ?_)
  · replace h := fg_ip c h
    cases h
    refine bs_W.mk [(0, .ref f), (1, .int l1), (2, .int s.1)] (by intro q hq; simp only [List.mem_cons, List.not_mem_nil, or_false] at hq; rcases hq with rfl | rfl | rfl <;> rfl) (ke _ rfl)
  · replace h := fg_iN c h
    refine bs_aload_n dX1_bubblesOf_12 rfl ?_
    refine fg_getR (b := (f + 5)) dX1_bubblesOf_13 fX1_24 (h_f.s0) hR (h_f.r4) ?_
    refine bs_iload_n dX1_bubblesOf_16 rfl ?_
    obtain ⟨g1, h⟩ := fg_gdE h
    refine bs_iald dX1_bubblesOf_17 (h_f.s5) (fg_in_ix g1) ?_
    refine bs_iload_n dX1_bubblesOf_18 rfl ?_
    refine bs_icmp_ne (tgt := 25) dX1_bubblesOf_19 (by decide) (fun c => ?_) (fun c => ?_)
    · replace h := fg_iN c h
      refine fg_iinc (m := (nI 1)) dX1_bubblesOf_25 rfl rfl (by decide) ?_
      refine bs_goto (tgt := 4) dX1_bubblesOf_28 (by decide) ?_
      cases h
      refine bs_W.mk [(0, .ref f), (1, .int l1), (2, .int s.1), (3, .int (s.2 + (nI 1)))] (by intro q hq; simp only [List.mem_cons, List.not_mem_nil, or_false] at hq; rcases hq with rfl | rfl | rfl | rfl <;> rfl) (by have k := ka _ rfl; dsimp only at k; exact k)
    · replace h := fg_ip c h
      refine fg_iinc (m := (nI 1)) dX1_bubblesOf_22 rfl rfl (by decide) ?_
      refine fg_iinc (m := (nI 1)) dX1_bubblesOf_25 rfl rfl (by decide) ?_
      refine bs_goto (tgt := 4) dX1_bubblesOf_28 (by decide) ?_
      cases h
      refine bs_W.mk [(0, .ref f), (1, .int l1), (2, .int (s.1 + (nI 1))), (3, .int (s.2 + (nI 1)))] (by intro q hq; simp only [List.mem_cons, List.not_mem_nil, or_false] at hq; rcases hq with rfl | rfl | rfl | rfl <;> rfl) (by have k := ka _ rfl; dsimp only at k; exact k)
theorem wFX1_lubblesOf_l4 {nx : Nat} {sh : bs_Sh} {R : Nat → Nat → Option Nat} {x : Nat} (HX : fg_S (bs_tS x) R x sh) {f : Nat} (h_f : fg_F R sh f) {mu : bs_Mm} {l1 : Int32} {Ph : bs_Po} {t : Int32} : ∀ n (y0 : Int32) (y1 : Int32), fg_lp (FX1_bubblesOf_b4 x f mu l1) n (y0, y1) = some t → fg_R R mu → (ke : ∀ s, t = s → bs_W Ph mX1_bubblesOf (bs_rm 0 0 0) 31 (bs_mk [(0, .ref f), (1, .int l1), (2, .int s)]) [] 0 0 nx sh mu) → bs_W Ph mX1_bubblesOf (bs_rm 0 0 0) 4 (bs_mk [(0, .ref f), (1, .int l1), (2, .int y0), (3, .int y1)]) [] 0 0 nx sh mu := by
  intro n
  induction n with
  | zero => intro y0 y1 h; exact absurd h (fun z => fg_lp0 z)
  | succ n ih =>
    intro y0 y1 h hR ke
    obtain ⟨r, hb, h1, h2⟩ := fg_lpE h
    exact wFX1_bubblesOf_b4 (s := (y0, y1)) HX h_f (fun s' e => ih s'.1 s'.2 (h1 s' e) hR ke) (fun s' e => ke s' (h2 _ e).symm) hR hb
noncomputable def FX1_bubblesOf (x : Nat) (f : Nat) (mu : bs_Mm) (p1 : Int32) : Option (Int32) :=
  fg_bd (fg_lp (FX1_bubblesOf_b4 x f mu p1) fg_fu ((nI 0), (nI 0))) (fun t2 => 
    some (t2)
  )
set_option maxHeartbeats 4000000 in
theorem wX1_bubblesOf {nx : Nat} {sh : bs_Sh} {R : Nat → Nat → Option Nat} {x : Nat} (HX : fg_S (bs_tS x) R x sh) {f : Nat} (h_f : fg_F R sh f) {mu : bs_Mm} (hR : fg_R R mu) {p1 : Int32} {r : Int32} (h : FX1_bubblesOf x f mu p1 = some r) : bs_C mX1_bubblesOf (bs_rm 0 0 0) [.ref f, .int p1] nx sh mu (fg_po R nx sh (some (.int r)) mu) := by
  refine bs_ct (by decide +kernel) (Nat.le_of_ble_eq_true rfl) ?_
  have kr : ∀ q, r = q → fg_R R mu → (fg_po R nx sh (some (.int r)) mu) (some (.int q)) nx sh mu := fun q e hq => by subst e; exact ⟨rfl, rfl, rfl, rfl, hq⟩
  unfold FX1_bubblesOf at h
  refine bs_iconst (v := (nI 0)) dX1_bubblesOf_0 (by decide) ?_
  refine bs_istore_n dX1_bubblesOf_1 rfl (by decide) ?_
  refine bs_iconst (v := (nI 0)) dX1_bubblesOf_2 (by decide) ?_
  refine bs_istore_n dX1_bubblesOf_3 rfl (by decide) ?_
  obtain ⟨t2, k3, h⟩ := fg_bdE h
  refine bs_W.mk [(0, .ref f), (1, .int p1), (2, .int (nI 0)), (3, .int (nI 0))] (by intro q hq; simp only [List.mem_cons, List.not_mem_nil, or_false] at hq; rcases hq with rfl | rfl | rfl | rfl <;> rfl) ?_
  refine wFX1_lubblesOf_l4 HX h_f _ _ _ k3 hR ?_
  intro s e
  subst e
  refine bs_iload_n dX1_bubblesOf_31 rfl ?_
  cases h
  exact bs_iret dX1_bubblesOf_32 rfl (Nat.zero_le _) (Nat.zero_le _) (kr _ rfl hR)
noncomputable def FX9_makesBalloon_b0 (x : Nat)  (l1 : Int32) (l2 : Int32) (l3 : Int32) (l4 : Int32) (s : bs_Mm) : Option ((bs_Mm) ⊕ ((bs_Mm) ⊕ (Int32 × bs_Mm))) :=
  fg_gd (fg_in l2 6) (
  if (bs_iv (s (x + 59) l2.toNatClampNeg)) ≤ 0 then (
    some (.inr (.inl s))
  ) else (
    fg_gd (fg_in l2 6) (
    fg_gd (fg_in l2 6) (
    fg_wr s (x + 59) l2.toNatClampNeg (.int ((bs_iv (s (x + 59) l2.toNatClampNeg)) - (nI 1))) (fun mu4 => 
    fg_gd (fg_in l1 30) (
    fg_gd (fg_in l1 30) (
    fg_wr mu4 (x + 55) l1.toNatClampNeg (.int ((bs_iv (mu4 (x + 55) l1.toNatClampNeg)) + (nI 1))) (fun mu7 => 
    fg_gd (fg_in l1 30) (
    fg_gd (fg_in l1 30) (
    fg_wr mu7 (x + 54) l1.toNatClampNeg (.int ((bs_iv (mu7 (x + 54) l1.toNatClampNeg)) + l3)) (fun mu10 => 
    fg_wr mu10 (x + 50) 14 (.long (((bs_lv (mu10 (x + 50) 14)) * (6364136223846793005 : Int64)) + (1442695040888963407 : Int64))) (fun mu11 => 
    fg_gd (decide (¬ (100 : Int64) = 0)) (
    if (lg_cmp (((Int64.toUInt64 (bs_lv (mu11 (x + 50) 14)) >>> ((Int32.toInt64 (nI 33)).toUInt64 &&& Int64.toUInt64 63)).toInt64) - ((Int64.toUInt64 (bs_lv (mu11 (x + 50) 14)) >>> ((Int32.toInt64 (nI 33)).toUInt64 &&& Int64.toUInt64 63)).toInt64) / (100 : Int64) * (100 : Int64)) (Int32.toInt64 l4)) < 0 then (
      some (.inl mu11)
    ) else (
      some (.inr (.inr ((nI 1), mu11)))
    ))))))))))))
  ))
set_option maxHeartbeats 4000000 in
theorem wFX9_makesBalloon_b0 {nx : Nat} {sh : bs_Sh} {R : Nat → Nat → Option Nat} {x : Nat} (HX : fg_S (bs_tS x) R x sh) {l1 : Int32} {l2 : Int32} {l3 : Int32} {l4 : Int32} {Ph : bs_Po} {s : bs_Mm} {r : (bs_Mm) ⊕ ((bs_Mm) ⊕ (Int32 × bs_Mm))} (ka : ∀ s, r = .inl s → fg_R R s → bs_W Ph mX9_makesBalloon (bs_rm 0 0 0) 0 (bs_mk [(0, .ref (x + 50)), (1, .int l1), (2, .int l2), (3, .int l3), (4, .int l4)]) [] 0 0 nx sh s) (ke : ∀ s, r = .inr (.inl s) → fg_R R s → bs_W Ph mX9_makesBalloon (bs_rm 0 0 0) 75 (bs_mk [(0, .ref (x + 50)), (1, .int l1), (2, .int l2), (3, .int l3), (4, .int l4)]) [] 0 0 nx sh s) (kr : ∀ q, r = .inr (.inr q) → fg_R R q.2 → Ph (some (.int q.1)) nx sh q.2) (hR : fg_R R s) (h : FX9_makesBalloon_b0 x l1 l2 l3 l4 s = some r) : bs_W Ph mX9_makesBalloon (bs_rm 0 0 0) 0 (bs_mk [(0, .ref (x + 50)), (1, .int l1), (2, .int l2), (3, .int l3), (4, .int l4)]) [] 0 0 nx sh s := by
  unfold FX9_makesBalloon_b0 at h
  refine bs_aload_n dX9_makesBalloon_0 rfl ?_
  refine fg_getR (b := (x + 59)) dX9_makesBalloon_1 fX9_40 (HX.s 50 rfl rfl rfl) hR (HX.r 50 12 rfl rfl rfl) ?_
  refine bs_iload_n dX9_makesBalloon_4 rfl ?_
  obtain ⟨g1, h⟩ := fg_gdE h
  refine bs_iald dX9_makesBalloon_5 (HX.ss 59 rfl rfl) (fg_in_ix g1) ?_
  refine bs_if_le (tgt := 75) dX9_makesBalloon_6 (by decide) (fun c => ?_) (fun c => ?_)
  · replace h := fg_ip c h
    cases h
    refine bs_W.mk [(0, .ref (x + 50)), (1, .int l1), (2, .int l2), (3, .int l3), (4, .int l4)] (by intro q hq; simp only [List.mem_cons, List.not_mem_nil, or_false] at hq; rcases hq with rfl | rfl | rfl | rfl | rfl <;> rfl) (ke _ rfl hR)
  · replace h := fg_iN c h
    refine bs_aload_n dX9_makesBalloon_9 rfl ?_
    refine fg_getR (b := (x + 59)) dX9_makesBalloon_10 fX9_40 (HX.s 50 rfl rfl rfl) hR (HX.r 50 12 rfl rfl rfl) ?_
    refine bs_iload_n dX9_makesBalloon_13 rfl ?_
    refine bs_dup2 dX9_makesBalloon_14 rfl rfl ?_
    obtain ⟨g2, h⟩ := fg_gdE h
    refine bs_iald dX9_makesBalloon_15 (HX.ss 59 rfl rfl) (fg_in_ix g2) ?_
    refine bs_iconst (v := (nI 1)) dX9_makesBalloon_16 (by decide) ?_
    refine bs_isub dX9_makesBalloon_17 ?_
    obtain ⟨g3, h⟩ := fg_gdE h
    refine fg_iast dX9_makesBalloon_18 (HX.ss 59 rfl rfl) (fun j => HX.n 59 j rfl rfl rfl) g3 hR h (fun mu4 hR h => ?_)
    refine bs_aload_n dX9_makesBalloon_19 rfl ?_
    refine fg_getR (b := (x + 55)) dX9_makesBalloon_20 fX9_28 (HX.s 50 rfl rfl rfl) hR (HX.r 50 8 rfl rfl rfl) ?_
    refine bs_iload_n dX9_makesBalloon_23 rfl ?_
    refine bs_dup2 dX9_makesBalloon_24 rfl rfl ?_
    obtain ⟨g5, h⟩ := fg_gdE h
    refine bs_iald dX9_makesBalloon_25 (HX.ss 55 rfl rfl) (fg_in_ix g5) ?_
    refine bs_iconst (v := (nI 1)) dX9_makesBalloon_26 (by decide) ?_
    refine bs_iadd dX9_makesBalloon_27 ?_
    obtain ⟨g6, h⟩ := fg_gdE h
    refine fg_iast dX9_makesBalloon_28 (HX.ss 55 rfl rfl) (fun j => HX.n 55 j rfl rfl rfl) g6 hR h (fun mu7 hR h => ?_)
    refine bs_aload_n dX9_makesBalloon_29 rfl ?_
    refine fg_getR (b := (x + 54)) dX9_makesBalloon_30 fX9_25 (HX.s 50 rfl rfl rfl) hR (HX.r 50 7 rfl rfl rfl) ?_
    refine bs_iload_n dX9_makesBalloon_33 rfl ?_
    refine bs_dup2 dX9_makesBalloon_34 rfl rfl ?_
    obtain ⟨g8, h⟩ := fg_gdE h
    refine bs_iald dX9_makesBalloon_35 (HX.ss 54 rfl rfl) (fg_in_ix g8) ?_
    refine bs_iload_n dX9_makesBalloon_36 rfl ?_
    refine bs_iadd dX9_makesBalloon_37 ?_
    obtain ⟨g9, h⟩ := fg_gdE h
    refine fg_iast dX9_makesBalloon_38 (HX.ss 54 rfl rfl) (fun j => HX.n 54 j rfl rfl rfl) g9 hR h (fun mu10 hR h => ?_)
    refine bs_aload_n dX9_makesBalloon_39 rfl ?_
    refine bs_aload_n dX9_makesBalloon_40 rfl ?_
    refine bs_getL dX9_makesBalloon_41 fX9_58 (HX.s 50 rfl rfl rfl) ?_
    refine bs_ldc2 (v := (6364136223846793005)) dX9_makesBalloon_44 cX9_105 ?_
    refine bs_lmul dX9_makesBalloon_47 ?_
    refine bs_ldc2 (v := (1442695040888963407)) dX9_makesBalloon_48 cX9_107 ?_
    refine bs_ladd dX9_makesBalloon_51 ?_
    refine fg_putL dX9_makesBalloon_52 pX9_58 (HX.s 50 rfl rfl rfl) (HX.n 50 14 rfl rfl rfl) hR h (fun mu11 hR h => ?_)
    refine bs_aload_n dX9_makesBalloon_55 rfl ?_
    refine bs_getL dX9_makesBalloon_56 fX9_58 (HX.s 50 rfl rfl rfl) ?_
    refine bs_bipush (v := (nI 33)) dX9_makesBalloon_59 (by decide) ?_
    refine bs_lushr dX9_makesBalloon_61 ?_
    refine bs_ldc2 (v := (100)) dX9_makesBalloon_62 cX9_109 ?_
    obtain ⟨g12, h⟩ := fg_gdE h
    refine bs_lrem dX9_makesBalloon_65 (of_decide_eq_true g12) ?_
    refine bs_iload dX9_makesBalloon_66 rfl ?_
    refine bs_i2l dX9_makesBalloon_68 ?_
    refine bs_lcmp dX9_makesBalloon_69 ?_
    refine bs_if_lt (tgt := 0) dX9_makesBalloon_70 (by decide) (fun c => ?_) (fun c => ?_)
    · replace h := fg_ip c h
      cases h
      refine bs_W.mk [(0, .ref (x + 50)), (1, .int l1), (2, .int l2), (3, .int l3), (4, .int l4)] (by intro q hq; simp only [List.mem_cons, List.not_mem_nil, or_false] at hq; rcases hq with rfl | rfl | rfl | rfl | rfl <;> rfl) (ka _ rfl hR)
    · replace h := fg_iN c h
      refine bs_iconst (v := (nI 1)) dX9_makesBalloon_73 (by decide) ?_
      cases h
      exact bs_zret dX9_makesBalloon_74 rfl (Or.inr rfl) (Nat.zero_le _) (Nat.zero_le _) (kr _ rfl hR)
theorem wFX9_makesBalloon_l0 {nx : Nat} {sh : bs_Sh} {R : Nat → Nat → Option Nat} {x : Nat} (HX : fg_S (bs_tS x) R x sh) {l1 : Int32} {l2 : Int32} {l3 : Int32} {l4 : Int32} {Ph : bs_Po} {t : (bs_Mm) ⊕ (Int32 × bs_Mm)} : ∀ n (mu1 : bs_Mm), fg_lp (FX9_makesBalloon_b0 x l1 l2 l3 l4) n mu1 = some t → fg_R R mu1 → (ke : ∀ s, t = .inl s → fg_R R s → bs_W Ph mX9_makesBalloon (bs_rm 0 0 0) 75 (bs_mk [(0, .ref (x + 50)), (1, .int l1), (2, .int l2), (3, .int l3), (4, .int l4)]) [] 0 0 nx sh s) → (kr : ∀ q, t = .inr q → fg_R R q.2 → Ph (some (.int q.1)) nx sh q.2) → bs_W Ph mX9_makesBalloon (bs_rm 0 0 0) 0 (bs_mk [(0, .ref (x + 50)), (1, .int l1), (2, .int l2), (3, .int l3), (4, .int l4)]) [] 0 0 nx sh mu1 := by
  intro n
  induction n with
  | zero => intro mu1 h; exact absurd h (fun z => fg_lp0 z)
  | succ n ih =>
    intro mu1 h hR ke kr
    obtain ⟨r, hb, h1, h2⟩ := fg_lpE h
    exact wFX9_makesBalloon_b0 (s := mu1) HX (fun s' e hR' => ih s' (h1 s' e) hR' ke kr) (fun s' e => ke s' (h2 _ e).symm) (fun q e => kr q (h2 _ e).symm) hR hb
noncomputable def FX9_makesBalloon (x : Nat) (mu : bs_Mm) (p1 : Int32) (p2 : Int32) (p3 : Int32) (p4 : Int32) : Option (Int32 × bs_Mm) :=
  fg_l3 (fg_lp (FX9_makesBalloon_b0 x p1 p2 p3 p4) fg_fu mu) (fun t13 => 
    some ((nI 0), t13)
  ) (fun q15 => some q15)
set_option maxHeartbeats 4000000 in
theorem wX9_makesBalloon {nx : Nat} {sh : bs_Sh} {R : Nat → Nat → Option Nat} {x : Nat} (HX : fg_S (bs_tS x) R x sh) {mu : bs_Mm} (hR : fg_R R mu) {p1 : Int32} {p2 : Int32} {p3 : Int32} {p4 : Int32} {r : Int32 × bs_Mm} (h : FX9_makesBalloon x mu p1 p2 p3 p4 = some r) : bs_C mX9_makesBalloon (bs_rm 0 0 0) [.ref (x + 50), .int p1, .int p2, .int p3, .int p4] nx sh mu (fg_po R nx sh (some (.int r.1)) r.2) := by
  refine bs_ct (by decide +kernel) (Nat.le_of_ble_eq_true rfl) ?_
  have kr : ∀ q, r = q → fg_R R q.2 → (fg_po R nx sh (some (.int r.1)) r.2) (some (.int q.1)) nx sh q.2 := fun q e hq => by subst e; exact ⟨rfl, rfl, rfl, rfl, hq⟩
  unfold FX9_makesBalloon at h
  obtain ⟨t130, k14, h1, h2⟩ := fg_l3E h
  refine bs_W.mk [(0, .ref (x + 50)), (1, .int p1), (2, .int p2), (3, .int p3), (4, .int p4)] (by intro q hq; simp only [List.mem_cons, List.not_mem_nil, or_false] at hq; rcases hq with rfl | rfl | rfl | rfl | rfl <;> rfl) ?_
  refine wFX9_makesBalloon_l0 HX _ _ k14 hR ?_ ?_
  · intro t13 e hR
    replace h := h1 t13 e
    refine bs_iconst (v := (nI 0)) dX9_makesBalloon_75 (by decide) ?_
    cases h
    exact bs_zret dX9_makesBalloon_76 rfl (Or.inl rfl) (Nat.zero_le _) (Nat.zero_le _) (kr _ rfl hR)
  · intro q15 e hR
    replace h := h2 q15 e
    cases h
    exact kr _ rfl hR
