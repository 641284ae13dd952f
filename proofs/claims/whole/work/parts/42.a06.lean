noncomputable def FX7_takesSign_j158 (x : Nat) (mu : bs_Mm) (l1 : Int32) : Option (Int32 × bs_Mm) :=
  fg_b2 (FX7_joins x mu l1 (nI 3) (nI 2)) (fun v37 mu36 => 
  if v37 = 0 then (
    some ((nI 0), mu36)
  ) else (
    some ((nI 1), mu36)
  ))
set_option maxHeartbeats 4000000 in
theorem wFX7_takesSign_j158 {nx : Nat} {sh : bs_Sh} {R : Nat → Nat → Option Nat} {x : Nat} (HX : fg_S (bs_tS x) R x sh) {mu : bs_Mm} {l1 : Int32} {Ph : bs_Po} {r : Int32 × bs_Mm} (kr : ∀ q, r = q → fg_R R q.2 → Ph (some (.int q.1)) nx sh q.2) (hR : fg_R R mu) (h : FX7_takesSign_j158 x mu l1 = some r) : bs_W Ph mX7_takesSign (bs_rm 3 0 0) 158 (bs_mk [(0, .ref (x + 20)), (1, .int l1)]) [] 0 0 nx sh mu := by
  unfold FX7_takesSign_j158 at h
  refine bs_aload_n dX7_takesSign_158 rfl ?_
  refine bs_iload_n dX7_takesSign_159 rfl ?_
  refine bs_iconst (v := (nI 3)) dX7_takesSign_160 (by decide) ?_
  refine bs_iconst (v := (nI 2)) dX7_takesSign_161 (by decide) ?_
  obtain ⟨v37, mu36, k35, h⟩ := fg_b2E h
  refine fg_callV dX7_takesSign_162 qX7_105 (wX7_joins HX hR k35) rfl (HX.s 20 rfl rfl rfl) rfl (Nat.le_of_ble_eq_true rfl) (fg_cr (by first | decide | omega) (by decide)) (fun hR => ?_)
  refine bs_if_eq (tgt := 172) dX7_takesSign_165 (by decide) (fun c => ?_) (fun c => ?_)
  · replace h := fg_ip c h
    refine bs_iconst (v := (nI 0)) dX7_takesSign_172 (by decide) ?_
    cases h
    exact bs_zret dX7_takesSign_173 rfl (Or.inl rfl) (Nat.zero_le _) (Nat.zero_le _) (kr _ rfl hR)
  · replace h := fg_iN c h
    refine bs_iconst (v := (nI 1)) dX7_takesSign_168 (by decide) ?_
    refine bs_goto (tgt := 173) dX7_takesSign_169 (by decide) ?_
    cases h
    exact bs_zret dX7_takesSign_173 rfl (Or.inr rfl) (Nat.zero_le _) (Nat.zero_le _) (kr _ rfl hR)
noncomputable def FX7_takesSign (x : Nat) (mu : bs_Mm) (p1 : Int32) : Option (Int32 × bs_Mm) :=
  if p1 = (nI 38) then (
    fg_bd (FX7_unitIsWhole x mu) (fun v3 => 
    if v3 = 0 then (
      some ((nI 0), mu)
    ) else (
      fg_b2 (FX7_joins x mu p1 (nI 2) (nI 1)) (fun v6 mu5 => 
      if v6 = 0 then (
        some ((nI 0), mu5)
      ) else (
        some ((nI 1), mu5)
      ))
    ))
  ) else (
  if p1 = (nI 41) then (
    fg_bd (FX7_unitIsWhole x mu) (fun v9 => 
    if v9 = 0 then (
      some ((nI 0), mu)
    ) else (
      if (bs_iv (mu (x + 20) 8)) ≤ 0 then (
        some ((nI 0), mu)
      ) else (
        fg_b2 (FX7_closes x mu (nI 40) (nI 5)) (fun v12 mu11 => 
        if v12 = 0 then (
          some ((nI 0), mu11)
        ) else (
          some ((nI 1), mu11)
        ))
      )
    ))
  ) else (
  if p1 = (nI 42) then (
    if (bs_iv (mu (x + 20) 6)) = (nI 5) then (
      some ((nI 0), mu)
    ) else (
      fg_b2 (FX7_joins x mu p1 (nI 3) (bs_iv (mu (x + 20) 6))) (fun v16 mu15 => 
      if v16 = 0 then (
        some ((nI 0), mu15)
      ) else (
        some ((nI 1), mu15)
      ))
    )
  ) else (
  if p1 = (nI 43) then (
    if (bs_iv (mu (x + 20) 6)) = (nI 5) then (
      some ((nI 0), mu)
    ) else (
      fg_b2 (FX7_joins x mu p1 (nI 3) (bs_iv (mu (x + 20) 6))) (fun v20 mu19 => 
      if v20 = 0 then (
        some ((nI 0), mu19)
      ) else (
        some ((nI 1), mu19)
      ))
    )
  ) else (
  if p1 = (nI 45) then (
    if (bs_iv (mu (x + 20) 6)) = (nI 5) then (
      some ((nI 0), mu)
    ) else (
      fg_b2 (FX7_joins x mu p1 (nI 3) (bs_iv (mu (x + 20) 6))) (fun v24 mu23 => 
      if v24 = 0 then (
        some ((nI 0), mu23)
      ) else (
        some ((nI 1), mu23)
      ))
    )
  ) else (
  if p1 = (nI 47) then (
    if (bs_iv (mu (x + 20) 6)) = (nI 5) then (
      some ((nI 0), mu)
    ) else (
      fg_b2 (FX7_joins x mu p1 (nI 3) (bs_iv (mu (x + 20) 6))) (fun v28 mu27 => 
      if v28 = 0 then (
        some ((nI 0), mu27)
      ) else (
        some ((nI 1), mu27)
      ))
    )
  ) else (
  if p1 = (nI 59) then (
    fg_b2 (FX7_endsClause x mu) (fun v32 mu31 => 
    fg_gd (decide (v32 = 0 ∨ v32 = 1)) (
    some (v32, mu31)))
  ) else (
  if p1 = (nI 60) then (
    if (bs_iv (mu (x + 20) 6)) = 0 then (
      FX7_takesSign_j158 x mu p1
    ) else (
      if (bs_iv (mu (x + 20) 6)) = (nI 1) then (
        FX7_takesSign_j158 x mu p1
      ) else (
        some ((nI 0), mu)
      )
    )
  ) else (
  if p1 = (nI 61) then (
    if (bs_iv (mu (x + 20) 6)) = 0 then (
      FX7_takesSign_j158 x mu p1
    ) else (
      if (bs_iv (mu (x + 20) 6)) = (nI 1) then (
        FX7_takesSign_j158 x mu p1
      ) else (
        some ((nI 0), mu)
      )
    )
  ) else (
  if p1 = (nI 62) then (
    if (bs_iv (mu (x + 20) 6)) = 0 then (
      FX7_takesSign_j158 x mu p1
    ) else (
      if (bs_iv (mu (x + 20) 6)) = (nI 1) then (
        FX7_takesSign_j158 x mu p1
      ) else (
        some ((nI 0), mu)
      )
    )
  ) else (
  if p1 = (nI 63) then (
    fg_bd (FX7_unitIsWhole x mu) (fun v42 => 
    if v42 = 0 then (
      some ((nI 0), mu)
    ) else (
      if (bs_iv (mu (x + 20) 8)) = 0 then (
        fg_b2 (FX7_endsCondition x mu) (fun v45 mu44 => 
        if v45 = 0 then (
          some ((nI 0), mu44)
        ) else (
          some ((nI 1), mu44)
        ))
      ) else (
        some ((nI 0), mu)
      )
    ))
  ) else (
  if p1 = (nI 93) then (
    if (bs_iv (mu (x + 20) 6)) = (nI 4) then (
      fg_b2 (FX7_closes x mu (nI 91) (-1)) (fun v49 mu48 => 
      if v49 = 0 then (
        some ((nI 0), mu48)
      ) else (
        some ((nI 1), mu48)
      ))
    ) else (
      some ((nI 0), mu)
    )
  ) else (
  if p1 = (nI 124) then (
    fg_bd (FX7_unitIsWhole x mu) (fun v52 => 
    if v52 = 0 then (
      some ((nI 0), mu)
    ) else (
      fg_b2 (FX7_joins x mu p1 (nI 2) (nI 1)) (fun v55 mu54 => 
      if v55 = 0 then (
        some ((nI 0), mu54)
      ) else (
        some ((nI 1), mu54)
      ))
    ))
  ) else (
  some ((nI 0), mu)
  )))))))))))))
set_option maxHeartbeats 4000000 in
theorem wX7_takesSign {nx : Nat} {sh : bs_Sh} {R : Nat → Nat → Option Nat} {x : Nat} (HX : fg_S (bs_tS x) R x sh) {mu : bs_Mm} (hR : fg_R R mu) {p1 : Int32} {r : Int32 × bs_Mm} (h : FX7_takesSign x mu p1 = some r) : bs_C mX7_takesSign (bs_rm 3 0 0) [.ref (x + 20), .int p1] nx sh mu (fg_po R nx sh (some (.int r.1)) r.2) := by
  refine bs_ct (by decide +kernel) (Nat.le_of_ble_eq_true rfl) ?_
  have kr : ∀ q, r = q → fg_R R q.2 → (fg_po R nx sh (some (.int r.1)) r.2) (some (.int q.1)) nx sh q.2 := fun q e hq => by subst e; exact ⟨rfl, rfl, rfl, rfl, hq⟩
  unfold FX7_takesSign at h
  refine bs_iload_n dX7_takesSign_0 rfl ?_
  by_cases e1 : p1 = (nI 38)
  · replace h := fg_ip e1 h
    refine bs_lookup (off := 173) (tgt := 174) dX7_takesSign_1 (by decide) (by rw [e1]; decide) (by decide) ?_
    refine bs_aload_n dX7_takesSign_174 rfl ?_
    obtain ⟨v3, k2, h⟩ := fg_bdE h
    refine fg_callV dX7_takesSign_175 qX7_109 (wX7_unitIsWhole HX hR k2) rfl (HX.s 20 rfl rfl rfl) rfl (Nat.le_of_ble_eq_true rfl) (fg_cr (by first | decide | omega) (by decide)) (fun hR => ?_)
    refine bs_if_eq (tgt := 195) dX7_takesSign_178 (by decide) (fun c => ?_) (fun c => ?_)
    · replace h := fg_ip c h
      refine bs_iconst (v := (nI 0)) dX7_takesSign_195 (by decide) ?_
      cases h
      exact bs_zret dX7_takesSign_196 rfl (Or.inl rfl) (Nat.zero_le _) (Nat.zero_le _) (kr _ rfl hR)
    · replace h := fg_iN c h
      refine bs_aload_n dX7_takesSign_181 rfl ?_
      refine bs_iload_n dX7_takesSign_182 rfl ?_
      refine bs_iconst (v := (nI 2)) dX7_takesSign_183 (by decide) ?_
      refine bs_iconst (v := (nI 1)) dX7_takesSign_184 (by decide) ?_
      obtain ⟨v6, mu5, k4, h⟩ := fg_b2E h
      refine fg_callV dX7_takesSign_185 qX7_105 (wX7_joins HX hR k4) rfl (HX.s 20 rfl rfl rfl) rfl (Nat.le_of_ble_eq_true rfl) (fg_cr (by first | decide | omega) (by decide)) (fun hR => ?_)
      refine bs_if_eq (tgt := 195) dX7_takesSign_188 (by decide) (fun c => ?_) (fun c => ?_)
      · replace h := fg_ip c h
        refine bs_iconst (v := (nI 0)) dX7_takesSign_195 (by decide) ?_
        cases h
        exact bs_zret dX7_takesSign_196 rfl (Or.inl rfl) (Nat.zero_le _) (Nat.zero_le _) (kr _ rfl hR)
      · replace h := fg_iN c h
        refine bs_iconst (v := (nI 1)) dX7_takesSign_191 (by decide) ?_
        refine bs_goto (tgt := 196) dX7_takesSign_192 (by decide) ?_
        cases h
        exact bs_zret dX7_takesSign_196 rfl (Or.inr rfl) (Nat.zero_le _) (Nat.zero_le _) (kr _ rfl hR)
  · replace h := fg_iN e1 h
    by_cases e7 : p1 = (nI 41)
    · replace h := fg_ip e7 h
      refine bs_lookup (off := 196) (tgt := 197) dX7_takesSign_1 (by decide) (by rw [e7]; decide) (by decide) ?_
      refine bs_aload_n dX7_takesSign_197 rfl ?_
      obtain ⟨v9, k8, h⟩ := fg_bdE h
      refine fg_callV dX7_takesSign_198 qX7_109 (wX7_unitIsWhole HX hR k8) rfl (HX.s 20 rfl rfl rfl) rfl (Nat.le_of_ble_eq_true rfl) (fg_cr (by first | decide | omega) (by decide)) (fun hR => ?_)
      refine bs_if_eq (tgt := 225) dX7_takesSign_201 (by decide) (fun c => ?_) (fun c => ?_)
      · replace h := fg_ip c h
        refine bs_iconst (v := (nI 0)) dX7_takesSign_225 (by decide) ?_
        cases h
        exact bs_zret dX7_takesSign_226 rfl (Or.inl rfl) (Nat.zero_le _) (Nat.zero_le _) (kr _ rfl hR)
      · replace h := fg_iN c h
        refine bs_aload_n dX7_takesSign_204 rfl ?_
        refine bs_getI dX7_takesSign_205 fX7_65 (HX.s 20 rfl rfl rfl) ?_
        refine bs_if_le (tgt := 225) dX7_takesSign_208 (by decide) (fun c => ?_) (fun c => ?_)
        · replace h := fg_ip c h
          refine bs_iconst (v := (nI 0)) dX7_takesSign_225 (by decide) ?_
          cases h
          exact bs_zret dX7_takesSign_226 rfl (Or.inl rfl) (Nat.zero_le _) (Nat.zero_le _) (kr _ rfl hR)
        · replace h := fg_iN c h
          refine bs_aload_n dX7_takesSign_211 rfl ?_
          refine bs_bipush (v := (nI 40)) dX7_takesSign_212 (by decide) ?_
          refine bs_iconst (v := (nI 5)) dX7_takesSign_214 (by decide) ?_
          obtain ⟨v12, mu11, k10, h⟩ := fg_b2E h
          refine fg_callV dX7_takesSign_215 qX7_112 (wX7_closes HX hR k10) rfl (HX.s 20 rfl rfl rfl) rfl (Nat.le_of_ble_eq_true rfl) (fg_cr (by first | decide | omega) (by decide)) (fun hR => ?_)
          refine bs_if_eq (tgt := 225) dX7_takesSign_218 (by decide) (fun c => ?_) (fun c => ?_)
          · replace h := fg_ip c h
            refine bs_iconst (v := (nI 0)) dX7_takesSign_225 (by decide) ?_
            cases h
            exact bs_zret dX7_takesSign_226 rfl (Or.inl rfl) (Nat.zero_le _) (Nat.zero_le _) (kr _ rfl hR)
          · replace h := fg_iN c h
            refine bs_iconst (v := (nI 1)) dX7_takesSign_221 (by decide) ?_
            refine bs_goto (tgt := 226) dX7_takesSign_222 (by decide) ?_
            cases h
            exact bs_zret dX7_takesSign_226 rfl (Or.inr rfl) (Nat.zero_le _) (Nat.zero_le _) (kr _ rfl hR)
    · replace h := fg_iN e7 h
      by_cases e13 : p1 = (nI 42)
      · replace h := fg_ip e13 h
        refine bs_lookup (off := 115) (tgt := 116) dX7_takesSign_1 (by decide) (by rw [e13]; decide) (by decide) ?_
        refine bs_aload_n dX7_takesSign_116 rfl ?_
        refine bs_getI dX7_takesSign_117 fX7_59 (HX.s 20 rfl rfl rfl) ?_
        refine bs_iconst (v := (nI 5)) dX7_takesSign_120 (by decide) ?_
        refine bs_icmp_eq (tgt := 141) dX7_takesSign_121 (by decide) (fun c => ?_) (fun c => ?_)
        · replace h := fg_ip c h
          refine bs_iconst (v := (nI 0)) dX7_takesSign_141 (by decide) ?_
          cases h
          exact bs_zret dX7_takesSign_142 rfl (Or.inl rfl) (Nat.zero_le _) (Nat.zero_le _) (kr _ rfl hR)
        · replace h := fg_iN c h
          refine bs_aload_n dX7_takesSign_124 rfl ?_
          refine bs_iload_n dX7_takesSign_125 rfl ?_
          refine bs_iconst (v := (nI 3)) dX7_takesSign_126 (by decide) ?_
          refine bs_aload_n dX7_takesSign_127 rfl ?_
          refine bs_getI dX7_takesSign_128 fX7_59 (HX.s 20 rfl rfl rfl) ?_
          obtain ⟨v16, mu15, k14, h⟩ := fg_b2E h
          refine fg_callV dX7_takesSign_131 qX7_105 (wX7_joins HX hR k14) rfl (HX.s 20 rfl rfl rfl) rfl (Nat.le_of_ble_eq_true rfl) (fg_cr (by first | decide | omega) (by decide)) (fun hR => ?_)
          refine bs_if_eq (tgt := 141) dX7_takesSign_134 (by decide) (fun c => ?_) (fun c => ?_)
          · replace h := fg_ip c h
            refine bs_iconst (v := (nI 0)) dX7_takesSign_141 (by decide) ?_
            cases h
            exact bs_zret dX7_takesSign_142 rfl (Or.inl rfl) (Nat.zero_le _) (Nat.zero_le _) (kr _ rfl hR)
          · replace h := fg_iN c h
            refine bs_iconst (v := (nI 1)) dX7_takesSign_137 (by decide) ?_
            refine bs_goto (tgt := 142) dX7_takesSign_138 (by decide) ?_
            cases h
            exact bs_zret dX7_takesSign_142 rfl (Or.inr rfl) (Nat.zero_le _) (Nat.zero_le _) (kr _ rfl hR)
      · replace h := fg_iN e13 h
        by_cases e17 : p1 = (nI 43)
        · replace h := fg_ip e17 h
          refine bs_lookup (off := 115) (tgt := 116) dX7_takesSign_1 (by decide) (by rw [e17]; decide) (by decide) ?_
          refine bs_aload_n dX7_takesSign_116 rfl ?_
          refine bs_getI dX7_takesSign_117 fX7_59 (HX.s 20 rfl rfl rfl) ?_
          refine bs_iconst (v := (nI 5)) dX7_takesSign_120 (by decide) ?_
          refine bs_icmp_eq (tgt := 141) dX7_takesSign_121 (by decide) (fun c => ?_) (fun c => ?_)
          · replace h := fg_ip c h
            refine bs_iconst (v := (nI 0)) dX7_takesSign_141 (by decide) ?_
            cases h
            exact bs_zret dX7_takesSign_142 rfl (Or.inl rfl) (Nat.zero_le _) (Nat.zero_le _) (kr _ rfl hR)
          · replace h := fg_iN c h
            refine bs_aload_n dX7_takesSign_124 rfl ?_
            refine bs_iload_n dX7_takesSign_125 rfl ?_
            refine bs_iconst (v := (nI 3)) dX7_takesSign_126 (by decide) ?_
            refine bs_aload_n dX7_takesSign_127 rfl ?_
            refine bs_getI dX7_takesSign_128 fX7_59 (HX.s 20 rfl rfl rfl) ?_
            obtain ⟨v20, mu19, k18, h⟩ := fg_b2E h
            refine fg_callV dX7_takesSign_131 qX7_105 (wX7_joins HX hR k18) rfl (HX.s 20 rfl rfl rfl) rfl (Nat.le_of_ble_eq_true rfl) (fg_cr (by first | decide | omega) (by decide)) (fun hR => ?_)
            refine bs_if_eq (tgt := 141) dX7_takesSign_134 (by decide) (fun c => ?_) (fun c => ?_)
            · replace h := fg_ip c h
              refine bs_iconst (v := (nI 0)) dX7_takesSign_141 (by decide) ?_
              cases h
              exact bs_zret dX7_takesSign_142 rfl (Or.inl rfl) (Nat.zero_le _) (Nat.zero_le _) (kr _ rfl hR)
            · replace h := fg_iN c h
              refine bs_iconst (v := (nI 1)) dX7_takesSign_137 (by decide) ?_
              refine bs_goto (tgt := 142) dX7_takesSign_138 (by decide) ?_
              cases h
              exact bs_zret dX7_takesSign_142 rfl (Or.inr rfl) (Nat.zero_le _) (Nat.zero_le _) (kr _ rfl hR)
        · replace h := fg_iN e17 h
          by_cases e21 : p1 = (nI 45)
          · replace h := fg_ip e21 h
            refine bs_lookup (off := 115) (tgt := 116) dX7_takesSign_1 (by decide) (by rw [e21]; decide) (by decide) ?_
            refine bs_aload_n dX7_takesSign_116 rfl ?_
            refine bs_getI dX7_takesSign_117 fX7_59 (HX.s 20 rfl rfl rfl) ?_
            refine bs_iconst (v := (nI 5)) dX7_takesSign_120 (by decide) ?_
            refine bs_icmp_eq (tgt := 141) dX7_takesSign_121 (by decide) (fun c => ?_) (fun c => ?_)
            · replace h := fg_ip c h
              refine bs_iconst (v := (nI 0)) dX7_takesSign_141 (by decide) ?_
              cases h
              exact bs_zret dX7_takesSign_142 rfl (Or.inl rfl) (Nat.zero_le _) (Nat.zero_le _) (kr _ rfl hR)
            · replace h := fg_iN c h
              refine bs_aload_n dX7_takesSign_124 rfl ?_
              refine bs_iload_n dX7_takesSign_125 rfl ?_
              refine bs_iconst (v := (nI 3)) dX7_takesSign_126 (by decide) ?_
              refine bs_aload_n dX7_takesSign_127 rfl ?_
              refine bs_getI dX7_takesSign_128 fX7_59 (HX.s 20 rfl rfl rfl) ?_
              obtain ⟨v24, mu23, k22, h⟩ := fg_b2E h
              refine fg_callV dX7_takesSign_131 qX7_105 (wX7_joins HX hR k22) rfl (HX.s 20 rfl rfl rfl) rfl (Nat.le_of_ble_eq_true rfl) (fg_cr (by first | decide | omega) (by decide)) (fun hR => ?_)
              refine bs_if_eq (tgt := 141) dX7_takesSign_134 (by decide) (fun c => ?_) (fun c => ?_)
              · replace h := fg_ip c h
                refine bs_iconst (v := (nI 0)) dX7_takesSign_141 (by decide) ?_
                cases h
                exact bs_zret dX7_takesSign_142 rfl (Or.inl rfl) (Nat.zero_le _) (Nat.zero_le _) (kr _ rfl hR)
              · replace h := fg_iN c h
                refine bs_iconst (v := (nI 1)) dX7_takesSign_137 (by decide) ?_
                refine bs_goto (tgt := 142) dX7_takesSign_138 (by decide) ?_
                cases h
                exact bs_zret dX7_takesSign_142 rfl (Or.inr rfl) (Nat.zero_le _) (Nat.zero_le _) (kr _ rfl hR)
          · replace h := fg_iN e21 h
            by_cases e25 : p1 = (nI 47)
            · replace h := fg_ip e25 h
              refine bs_lookup (off := 115) (tgt := 116) dX7_takesSign_1 (by decide) (by rw [e25]; decide) (by decide) ?_
              refine bs_aload_n dX7_takesSign_116 rfl ?_
              refine bs_getI dX7_takesSign_117 fX7_59 (HX.s 20 rfl rfl rfl) ?_
              refine bs_iconst (v := (nI 5)) dX7_takesSign_120 (by decide) ?_
              refine bs_icmp_eq (tgt := 141) dX7_takesSign_121 (by decide) (fun c => ?_) (fun c => ?_)
              · replace h := fg_ip c h
                refine bs_iconst (v := (nI 0)) dX7_takesSign_141 (by decide) ?_
                cases h
                exact bs_zret dX7_takesSign_142 rfl (Or.inl rfl) (Nat.zero_le _) (Nat.zero_le _) (kr _ rfl hR)
              · replace h := fg_iN c h
                refine bs_aload_n dX7_takesSign_124 rfl ?_
                refine bs_iload_n dX7_takesSign_125 rfl ?_
                refine bs_iconst (v := (nI 3)) dX7_takesSign_126 (by decide) ?_
                refine bs_aload_n dX7_takesSign_127 rfl ?_
                refine bs_getI dX7_takesSign_128 fX7_59 (HX.s 20 rfl rfl rfl) ?_
                obtain ⟨v28, mu27, k26, h⟩ := fg_b2E h
                refine fg_callV dX7_takesSign_131 qX7_105 (wX7_joins HX hR k26) rfl (HX.s 20 rfl rfl rfl) rfl (Nat.le_of_ble_eq_true rfl) (fg_cr (by first | decide | omega) (by decide)) (fun hR => ?_)
                refine bs_if_eq (tgt := 141) dX7_takesSign_134 (by decide) (fun c => ?_) (fun c => ?_)
                · replace h := fg_ip c h
                  refine bs_iconst (v := (nI 0)) dX7_takesSign_141 (by decide) ?_
                  cases h
                  exact bs_zret dX7_takesSign_142 rfl (Or.inl rfl) (Nat.zero_le _) (Nat.zero_le _) (kr _ rfl hR)
                · replace h := fg_iN c h
                  refine bs_iconst (v := (nI 1)) dX7_takesSign_137 (by decide) ?_
                  refine bs_goto (tgt := 142) dX7_takesSign_138 (by decide) ?_
                  cases h
                  exact bs_zret dX7_takesSign_142 rfl (Or.inr rfl) (Nat.zero_le _) (Nat.zero_le _) (kr _ rfl hR)
            · replace h := fg_iN e25 h
              by_cases e29 : p1 = (nI 59)
              · replace h := fg_ip e29 h
                refine bs_lookup (off := 277) (tgt := 278) dX7_takesSign_1 (by decide) (by rw [e29]; decide) (by decide) ?_
                refine bs_aload_n dX7_takesSign_278 rfl ?_
                obtain ⟨v32, mu31, k30, h⟩ := fg_b2E h
                refine fg_callV dX7_takesSign_279 qX7_49 (wX7_endsClause HX hR k30) rfl (HX.s 20 rfl rfl rfl) rfl (Nat.le_of_ble_eq_true rfl) (fg_cr (by first | decide | omega) (by decide)) (fun hR => ?_)
                obtain ⟨g33, h⟩ := fg_gdE h
                cases h
                exact bs_zret dX7_takesSign_282 rfl (of_decide_eq_true g33) (Nat.zero_le _) (Nat.zero_le _) (kr _ rfl hR)
              · replace h := fg_iN e29 h
                by_cases e34 : p1 = (nI 60)
                · replace h := fg_ip e34 h
                  refine bs_lookup (off := 142) (tgt := 143) dX7_takesSign_1 (by decide) (by rw [e34]; decide) (by decide) ?_
                  refine bs_aload_n dX7_takesSign_143 rfl ?_
                  refine bs_getI dX7_takesSign_144 fX7_59 (HX.s 20 rfl rfl rfl) ?_
                  refine bs_if_eq (tgt := 158) dX7_takesSign_147 (by decide) (fun c => ?_) (fun c => ?_)
                  · replace h := fg_ip c h
                    refine bs_W.mk [(0, .ref (x + 20)), (1, .int p1)] (by intro q hq; simp only [List.mem_cons, List.not_mem_nil, or_false] at hq; rcases hq with rfl | rfl <;> rfl) ?_
                    exact wFX7_takesSign_j158 HX kr hR h
                  · replace h := fg_iN c h
                    refine bs_aload_n dX7_takesSign_150 rfl ?_
                    refine bs_getI dX7_takesSign_151 fX7_59 (HX.s 20 rfl rfl rfl) ?_
                    refine bs_iconst (v := (nI 1)) dX7_takesSign_154 (by decide) ?_
                    refine bs_icmp_ne (tgt := 172) dX7_takesSign_155 (by decide) (fun c => ?_) (fun c => ?_)
                    · replace h := fg_iN c h
                      refine bs_iconst (v := (nI 0)) dX7_takesSign_172 (by decide) ?_
                      cases h
                      exact bs_zret dX7_takesSign_173 rfl (Or.inl rfl) (Nat.zero_le _) (Nat.zero_le _) (kr _ rfl hR)
                    · replace h := fg_ip c h
                      refine bs_W.mk [(0, .ref (x + 20)), (1, .int p1)] (by intro q hq; simp only [List.mem_cons, List.not_mem_nil, or_false] at hq; rcases hq with rfl | rfl <;> rfl) ?_
                      exact wFX7_takesSign_j158 HX kr hR h
                · replace h := fg_iN e34 h
                  by_cases e38 : p1 = (nI 61)
                  · replace h := fg_ip e38 h
                    refine bs_lookup (off := 142) (tgt := 143) dX7_takesSign_1 (by decide) (by rw [e38]; decide) (by decide) ?_
                    refine bs_aload_n dX7_takesSign_143 rfl ?_
                    refine bs_getI dX7_takesSign_144 fX7_59 (HX.s 20 rfl rfl rfl) ?_
                    refine bs_if_eq (tgt := 158) dX7_takesSign_147 (by decide) (fun c => ?_) (fun c => ?_)
                    · replace h := fg_ip c h
                      refine bs_W.mk [(0, .ref (x + 20)), (1, .int p1)] (by intro q hq; simp only [List.mem_cons, List.not_mem_nil, or_false] at hq; rcases hq with rfl | rfl <;> rfl) ?_
                      exact wFX7_takesSign_j158 HX kr hR h
                    · replace h := fg_iN c h
                      refine bs_aload_n dX7_takesSign_150 rfl ?_
                      refine bs_getI dX7_takesSign_151 fX7_59 (HX.s 20 rfl rfl rfl) ?_
                      refine bs_iconst (v := (nI 1)) dX7_takesSign_154 (by decide) ?_
                      refine bs_icmp_ne (tgt := 172) dX7_takesSign_155 (by decide) (fun c => ?_) (fun c => ?_)
                      · replace h := fg_iN c h
                        refine bs_iconst (v := (nI 0)) dX7_takesSign_172 (by decide) ?_
                        cases h
                        exact bs_zret dX7_takesSign_173 rfl (Or.inl rfl) (Nat.zero_le _) (Nat.zero_le _) (kr _ rfl hR)
                      · replace h := fg_ip c h
                        refine bs_W.mk [(0, .ref (x + 20)), (1, .int p1)] (by intro q hq; simp only [List.mem_cons, List.not_mem_nil, or_false] at hq; rcases hq with rfl | rfl <;> rfl) ?_
                        exact wFX7_takesSign_j158 HX kr hR h
                  · replace h := fg_iN e38 h
                    by_cases e39 : p1 = (nI 62)
                    · replace h := fg_ip e39 h
                      refine bs_lookup (off := 142) (tgt := 143) dX7_takesSign_1 (by decide) (by rw [e39]; decide) (by decide) ?_
                      refine bs_aload_n dX7_takesSign_143 rfl ?_
                      refine bs_getI dX7_takesSign_144 fX7_59 (HX.s 20 rfl rfl rfl) ?_
                      refine bs_if_eq (tgt := 158) dX7_takesSign_147 (by decide) (fun c => ?_) (fun c => ?_)
                      · replace h := fg_ip c h
                        refine bs_W.mk [(0, .ref (x + 20)), (1, .int p1)] (by intro q hq; simp only [List.mem_cons, List.not_mem_nil, or_false] at hq; rcases hq with rfl | rfl <;> rfl) ?_
                        exact wFX7_takesSign_j158 HX kr hR h
                      · replace h := fg_iN c h
                        refine bs_aload_n dX7_takesSign_150 rfl ?_
                        refine bs_getI dX7_takesSign_151 fX7_59 (HX.s 20 rfl rfl rfl) ?_
                        refine bs_iconst (v := (nI 1)) dX7_takesSign_154 (by decide) ?_
                        refine bs_icmp_ne (tgt := 172) dX7_takesSign_155 (by decide) (fun c => ?_) (fun c => ?_)
                        · replace h := fg_iN c h
                          refine bs_iconst (v := (nI 0)) dX7_takesSign_172 (by decide) ?_
                          cases h
                          exact bs_zret dX7_takesSign_173 rfl (Or.inl rfl) (Nat.zero_le _) (Nat.zero_le _) (kr _ rfl hR)
                        · replace h := fg_ip c h
                          refine bs_W.mk [(0, .ref (x + 20)), (1, .int p1)] (by intro q hq; simp only [List.mem_cons, List.not_mem_nil, or_false] at hq; rcases hq with rfl | rfl <;> rfl) ?_
                          exact wFX7_takesSign_j158 HX kr hR h
                    · replace h := fg_iN e39 h
                      by_cases e40 : p1 = (nI 63)
                      · replace h := fg_ip e40 h
                        refine bs_lookup (off := 250) (tgt := 251) dX7_takesSign_1 (by decide) (by rw [e40]; decide) (by decide) ?_
                        refine bs_aload_n dX7_takesSign_251 rfl ?_
                        obtain ⟨v42, k41, h⟩ := fg_bdE h
                        refine fg_callV dX7_takesSign_252 qX7_109 (wX7_unitIsWhole HX hR k41) rfl (HX.s 20 rfl rfl rfl) rfl (Nat.le_of_ble_eq_true rfl) (fg_cr (by first | decide | omega) (by decide)) (fun hR => ?_)
                        refine bs_if_eq (tgt := 276) dX7_takesSign_255 (by decide) (fun c => ?_) (fun c => ?_)
                        · replace h := fg_ip c h
                          refine bs_iconst (v := (nI 0)) dX7_takesSign_276 (by decide) ?_
                          cases h
                          exact bs_zret dX7_takesSign_277 rfl (Or.inl rfl) (Nat.zero_le _) (Nat.zero_le _) (kr _ rfl hR)
                        · replace h := fg_iN c h
                          refine bs_aload_n dX7_takesSign_258 rfl ?_
                          refine bs_getI dX7_takesSign_259 fX7_65 (HX.s 20 rfl rfl rfl) ?_
                          refine bs_if_ne (tgt := 276) dX7_takesSign_262 (by decide) (fun c => ?_) (fun c => ?_)
                          · replace h := fg_iN c h
                            refine bs_iconst (v := (nI 0)) dX7_takesSign_276 (by decide) ?_
                            cases h
                            exact bs_zret dX7_takesSign_277 rfl (Or.inl rfl) (Nat.zero_le _) (Nat.zero_le _) (kr _ rfl hR)
                          · replace h := fg_ip c h
                            refine bs_aload_n dX7_takesSign_265 rfl ?_
                            obtain ⟨v45, mu44, k43, h⟩ := fg_b2E h
                            refine fg_callV dX7_takesSign_266 qX7_116 (wX7_endsCondition HX hR k43) rfl (HX.s 20 rfl rfl rfl) rfl (Nat.le_of_ble_eq_true rfl) (fg_cr (by first | decide | omega) (by decide)) (fun hR => ?_)
                            refine bs_if_eq (tgt := 276) dX7_takesSign_269 (by decide) (fun c => ?_) (fun c => ?_)
                            · replace h := fg_ip c h
                              refine bs_iconst (v := (nI 0)) dX7_takesSign_276 (by decide) ?_
                              cases h
                              exact bs_zret dX7_takesSign_277 rfl (Or.inl rfl) (Nat.zero_le _) (Nat.zero_le _) (kr _ rfl hR)
                            · replace h := fg_iN c h
                              refine bs_iconst (v := (nI 1)) dX7_takesSign_272 (by decide) ?_
                              refine bs_goto (tgt := 277) dX7_takesSign_273 (by decide) ?_
                              cases h
                              exact bs_zret dX7_takesSign_277 rfl (Or.inr rfl) (Nat.zero_le _) (Nat.zero_le _) (kr _ rfl hR)
                      · replace h := fg_iN e40 h
                        by_cases e46 : p1 = (nI 93)
                        · replace h := fg_ip e46 h
                          refine bs_lookup (off := 226) (tgt := 227) dX7_takesSign_1 (by decide) (by rw [e46]; decide) (by decide) ?_
                          refine bs_aload_n dX7_takesSign_227 rfl ?_
                          refine bs_getI dX7_takesSign_228 fX7_59 (HX.s 20 rfl rfl rfl) ?_
                          refine bs_iconst (v := (nI 4)) dX7_takesSign_231 (by decide) ?_
                          refine bs_icmp_ne (tgt := 249) dX7_takesSign_232 (by decide) (fun c => ?_) (fun c => ?_)
                          · replace h := fg_iN c h
                            refine bs_iconst (v := (nI 0)) dX7_takesSign_249 (by decide) ?_
                            cases h
                            exact bs_zret dX7_takesSign_250 rfl (Or.inl rfl) (Nat.zero_le _) (Nat.zero_le _) (kr _ rfl hR)
                          · replace h := fg_ip c h
                            refine bs_aload_n dX7_takesSign_235 rfl ?_
                            refine bs_bipush (v := (nI 91)) dX7_takesSign_236 (by decide) ?_
                            refine bs_iconst (v := (-1)) dX7_takesSign_238 (by decide) ?_
                            obtain ⟨v49, mu48, k47, h⟩ := fg_b2E h
                            refine fg_callV dX7_takesSign_239 qX7_112 (wX7_closes HX hR k47) rfl (HX.s 20 rfl rfl rfl) rfl (Nat.le_of_ble_eq_true rfl) (fg_cr (by first | decide | omega) (by decide)) (fun hR => ?_)
                            refine bs_if_eq (tgt := 249) dX7_takesSign_242 (by decide) (fun c => ?_) (fun c => ?_)
                            · replace h := fg_ip c h
                              refine bs_iconst (v := (nI 0)) dX7_takesSign_249 (by decide) ?_
                              cases h
                              exact bs_zret dX7_takesSign_250 rfl (Or.inl rfl) (Nat.zero_le _) (Nat.zero_le _) (kr _ rfl hR)
                            · replace h := fg_iN c h
                              refine bs_iconst (v := (nI 1)) dX7_takesSign_245 (by decide) ?_
                              refine bs_goto (tgt := 250) dX7_takesSign_246 (by decide) ?_
                              cases h
                              exact bs_zret dX7_takesSign_250 rfl (Or.inr rfl) (Nat.zero_le _) (Nat.zero_le _) (kr _ rfl hR)
                        · replace h := fg_iN e46 h
                          by_cases e50 : p1 = (nI 124)
                          · replace h := fg_ip e50 h
                            refine bs_lookup (off := 173) (tgt := 174) dX7_takesSign_1 (by decide) (by rw [e50]; decide) (by decide) ?_
                            refine bs_aload_n dX7_takesSign_174 rfl ?_
                            obtain ⟨v52, k51, h⟩ := fg_bdE h
                            refine fg_callV dX7_takesSign_175 qX7_109 (wX7_unitIsWhole HX hR k51) rfl (HX.s 20 rfl rfl rfl) rfl (Nat.le_of_ble_eq_true rfl) (fg_cr (by first | decide | omega) (by decide)) (fun hR => ?_)
                            refine bs_if_eq (tgt := 195) dX7_takesSign_178 (by decide) (fun c => ?_) (fun c => ?_)
                            · replace h := fg_ip c h
                              refine bs_iconst (v := (nI 0)) dX7_takesSign_195 (by decide) ?_
                              cases h
                              exact bs_zret dX7_takesSign_196 rfl (Or.inl rfl) (Nat.zero_le _) (Nat.zero_le _) (kr _ rfl hR)
                            · replace h := fg_iN c h
                              refine bs_aload_n dX7_takesSign_181 rfl ?_
                              refine bs_iload_n dX7_takesSign_182 rfl ?_
                              refine bs_iconst (v := (nI 2)) dX7_takesSign_183 (by decide) ?_
                              refine bs_iconst (v := (nI 1)) dX7_takesSign_184 (by decide) ?_
                              obtain ⟨v55, mu54, k53, h⟩ := fg_b2E h
                              refine fg_callV dX7_takesSign_185 qX7_105 (wX7_joins HX hR k53) rfl (HX.s 20 rfl rfl rfl) rfl (Nat.le_of_ble_eq_true rfl) (fg_cr (by first | decide | omega) (by decide)) (fun hR => ?_)
                              refine bs_if_eq (tgt := 195) dX7_takesSign_188 (by decide) (fun c => ?_) (fun c => ?_)
                              · replace h := fg_ip c h
                                refine bs_iconst (v := (nI 0)) dX7_takesSign_195 (by decide) ?_
                                cases h
                                exact bs_zret dX7_takesSign_196 rfl (Or.inl rfl) (Nat.zero_le _) (Nat.zero_le _) (kr _ rfl hR)
                              · replace h := fg_iN c h
                                refine bs_iconst (v := (nI 1)) dX7_takesSign_191 (by decide) ?_
                                refine bs_goto (tgt := 196) dX7_takesSign_192 (by decide) ?_
                                cases h
                                exact bs_zret dX7_takesSign_196 rfl (Or.inr rfl) (Nat.zero_le _) (Nat.zero_le _) (kr _ rfl hR)
                          · replace h := fg_iN e50 h
                            refine bs_lookup (off := 282) (tgt := 283) dX7_takesSign_1 (by decide) ?_ (by decide) ?_
                            · show Op.lookupswitch.offset [((38 : Int), (173 : Int)), ((41 : Int), (196 : Int)), ((42 : Int), (115 : Int)), ((43 : Int), (115 : Int)), ((45 : Int), (115 : Int)), ((47 : Int), (115 : Int)), ((59 : Int), (277 : Int)), ((60 : Int), (142 : Int)), ((61 : Int), (142 : Int)), ((62 : Int), (142 : Int)), ((63 : Int), (250 : Int)), ((93 : Int), (226 : Int)), ((124 : Int), (173 : Int))] (282) _ = _; rw [lv_osw e1 (by decide), lv_osw e7 (by decide), lv_osw e13 (by decide), lv_osw e17 (by decide), lv_osw e21 (by decide), lv_osw e25 (by decide), lv_osw e29 (by decide), lv_osw e34 (by decide), lv_osw e38 (by decide), lv_osw e39 (by decide), lv_osw e40 (by decide), lv_osw e46 (by decide), lv_osw e50 (by decide)]; rfl
                            · refine bs_iconst (v := (nI 0)) dX7_takesSign_283 (by decide) ?_
                              cases h
                              exact bs_zret dX7_takesSign_284 rfl (Or.inl rfl) (Nat.zero_le _) (Nat.zero_le _) (kr _ rfl hR)
noncomputable def FX7_takes (x : Nat) (mu : bs_Mm) (p1 : Int32) : Option (Int32 × bs_Mm) :=
  fg_bd (FX11_isDigit x mu p1) (fun v2 => 
  if v2 = 0 then (
    fg_wr mu (x + 20) 9 (.int (nI 0)) (fun mu3 => 
    if p1 = (nI 32) then (
      some ((nI 1), mu3)
    ) else (
      if (bs_iv (mu3 (x + 20) 5)) = (nI 0) then (
        fg_wr mu3 (x + 20) 5 (.int (nI 1)) (fun mu5 => 
        if p1 = (nI 119) then (
          some ((nI 1), mu5)
        ) else (
          some ((nI 0), mu5)
        ))
      ) else (
      if (bs_iv (mu3 (x + 20) 5)) = (nI 1) then (
        fg_wr mu3 (x + 20) 5 (.int (nI 2)) (fun mu7 => 
        fg_wr mu7 (x + 20) 6 (.int (nI 0)) (fun mu8 => 
        if p1 = (nI 58) then (
          some ((nI 1), mu8)
        ) else (
          some ((nI 0), mu8)
        )))
      ) else (
      if (bs_iv (mu3 (x + 20) 5)) = (nI 2) then (
        if p1 = (nI 33) then (
          fg_b2 (FX7_opensUnit x mu3 p1) (fun v12 mu11 => 
          fg_gd (decide (v12 = 0 ∨ v12 = 1)) (
          some (v12, mu11)))
        ) else (
          if p1 = (nI 40) then (
            fg_b2 (FX7_opensUnit x mu3 p1) (fun v20 mu19 => 
            fg_gd (decide (v20 = 0 ∨ v20 = 1)) (
            some (v20, mu19)))
          ) else (
            fg_b2 (FX7_takesAtom x mu3 p1) (fun v16 mu15 => 
            fg_gd (decide (v16 = 0 ∨ v16 = 1)) (
            some (v16, mu15)))
          )
        )
      ) else (
      if (bs_iv (mu3 (x + 20) 5)) = (nI 3) then (
        fg_b2 (FX7_takesAtom x mu3 p1) (fun v25 mu24 => 
        fg_gd (decide (v25 = 0 ∨ v25 = 1)) (
        some (v25, mu24)))
      ) else (
      fg_b2 (FX7_takesSign x mu3 p1) (fun v29 mu28 => 
      fg_gd (decide (v29 = 0 ∨ v29 = 1)) (
      some (v29, mu28)))
      ))))
    ))
  ) else (
    fg_b2 (FX7_takesDigit x mu (p1 - (nI 48))) (fun v33 mu32 => 
    fg_gd (decide (v33 = 0 ∨ v33 = 1)) (
    some (v33, mu32)))
  ))
set_option maxHeartbeats 4000000 in
theorem wX7_takes {nx : Nat} {sh : bs_Sh} {R : Nat → Nat → Option Nat} {x : Nat} (HX : fg_S (bs_tS x) R x sh) {mu : bs_Mm} (hR : fg_R R mu) {p1 : Int32} {r : Int32 × bs_Mm} (h : FX7_takes x mu p1 = some r) : bs_C mX7_takes (bs_rm 4 0 0) [.ref (x + 20), .int p1] nx sh mu (fg_po R nx sh (some (.int r.1)) r.2) := by
  refine bs_ct (by decide +kernel) (Nat.le_of_ble_eq_true rfl) ?_
  have kr : ∀ q, r = q → fg_R R q.2 → (fg_po R nx sh (some (.int r.1)) r.2) (some (.int q.1)) nx sh q.2 := fun q e hq => by subst e; exact ⟨rfl, rfl, rfl, rfl, hq⟩
  unfold FX7_takes at h
  refine bs_iload_n dX7_takes_0 rfl ?_
  obtain ⟨v2, k1, h⟩ := fg_bdE h
  refine fg_callSN dX7_takes_1 qX7_74 (wX11_isDigit HX hR k1) rfl rfl (Nat.le_of_ble_eq_true rfl) (fg_cr (by first | decide | omega) (by decide)) (fun hR => ?_)
  refine bs_if_eq (tgt := 16) dX7_takes_4 (by decide) (fun c => ?_) (fun c => ?_)
  · replace h := fg_ip c h
    refine bs_aload_n dX7_takes_16 rfl ?_
    refine bs_iconst (v := (nI 0)) dX7_takes_17 (by decide) ?_
    refine fg_putI dX7_takes_18 pX7_68 (HX.s 20 rfl rfl rfl) (HX.n 20 9 rfl rfl rfl) hR h (fun mu3 hR h => ?_)
    refine bs_iload_n dX7_takes_21 rfl ?_
    refine bs_bipush (v := (nI 32)) dX7_takes_22 (by decide) ?_
    refine bs_icmp_ne (tgt := 29) dX7_takes_24 (by decide) (fun c => ?_) (fun c => ?_)
    · replace h := fg_iN c h
      refine bs_aload_n dX7_takes_29 rfl ?_
      refine bs_getI dX7_takes_30 fX7_46 (HX.s 20 rfl rfl rfl) ?_
      by_cases e4 : (bs_iv (mu3 (x + 20) 5)) = (nI 0)
      · replace h := fg_ip e4 h
        refine bs_tableIn (off := 31) (tgt := 64) dX7_takes_33 (by rw [e4]; decide) (by rw [e4]; decide) (by rw [e4]; decide) (by decide) ?_
        refine bs_aload_n dX7_takes_64 rfl ?_
        refine bs_iconst (v := (nI 1)) dX7_takes_65 (by decide) ?_
        refine fg_putI dX7_takes_66 pX7_46 (HX.s 20 rfl rfl rfl) (HX.n 20 5 rfl rfl rfl) hR h (fun mu5 hR h => ?_)
        refine bs_iload_n dX7_takes_69 rfl ?_
        refine bs_bipush (v := (nI 119)) dX7_takes_70 (by decide) ?_
        refine bs_icmp_ne (tgt := 79) dX7_takes_72 (by decide) (fun c => ?_) (fun c => ?_)
        · replace h := fg_iN c h
          refine bs_iconst (v := (nI 0)) dX7_takes_79 (by decide) ?_
          cases h
          exact bs_zret dX7_takes_80 rfl (Or.inl rfl) (Nat.zero_le _) (Nat.zero_le _) (kr _ rfl hR)
        · replace h := fg_ip c h
          refine bs_iconst (v := (nI 1)) dX7_takes_75 (by decide) ?_
          refine bs_goto (tgt := 80) dX7_takes_76 (by decide) ?_
          cases h
          exact bs_zret dX7_takes_80 rfl (Or.inr rfl) (Nat.zero_le _) (Nat.zero_le _) (kr _ rfl hR)
      · replace h := fg_iN e4 h
        by_cases e6 : (bs_iv (mu3 (x + 20) 5)) = (nI 1)
        · replace h := fg_ip e6 h
          refine bs_tableIn (off := 48) (tgt := 81) dX7_takes_33 (by rw [e6]; decide) (by rw [e6]; decide) (by rw [e6]; decide) (by decide) ?_
          refine bs_aload_n dX7_takes_81 rfl ?_
          refine bs_iconst (v := (nI 2)) dX7_takes_82 (by decide) ?_
          refine fg_putI dX7_takes_83 pX7_46 (HX.s 20 rfl rfl rfl) (HX.n 20 5 rfl rfl rfl) hR h (fun mu7 hR h => ?_)
          refine bs_aload_n dX7_takes_86 rfl ?_
          refine bs_iconst (v := (nI 0)) dX7_takes_87 (by decide) ?_
          refine fg_putI dX7_takes_88 pX7_59 (HX.s 20 rfl rfl rfl) (HX.n 20 6 rfl rfl rfl) hR h (fun mu8 hR h => ?_)
          refine bs_iload_n dX7_takes_91 rfl ?_
          refine bs_bipush (v := (nI 58)) dX7_takes_92 (by decide) ?_
          refine bs_icmp_ne (tgt := 101) dX7_takes_94 (by decide) (fun c => ?_) (fun c => ?_)
          · replace h := fg_iN c h
            refine bs_iconst (v := (nI 0)) dX7_takes_101 (by decide) ?_
            cases h
            exact bs_zret dX7_takes_102 rfl (Or.inl rfl) (Nat.zero_le _) (Nat.zero_le _) (kr _ rfl hR)
          · replace h := fg_ip c h
            refine bs_iconst (v := (nI 1)) dX7_takes_97 (by decide) ?_
            refine bs_goto (tgt := 102) dX7_takes_98 (by decide) ?_
            cases h
            exact bs_zret dX7_takes_102 rfl (Or.inr rfl) (Nat.zero_le _) (Nat.zero_le _) (kr _ rfl hR)
        · replace h := fg_iN e6 h
          by_cases e9 : (bs_iv (mu3 (x + 20) 5)) = (nI 2)
          · replace h := fg_ip e9 h
            refine bs_tableIn (off := 70) (tgt := 103) dX7_takes_33 (by rw [e9]; decide) (by rw [e9]; decide) (by rw [e9]; decide) (by decide) ?_
            refine bs_iload_n dX7_takes_103 rfl ?_
            refine bs_bipush (v := (nI 33)) dX7_takes_104 (by decide) ?_
            refine bs_icmp_eq (tgt := 115) dX7_takes_106 (by decide) (fun c => ?_) (fun c => ?_)
            · replace h := fg_ip c h
              refine bs_aload_n dX7_takes_115 rfl ?_
              refine bs_iload_n dX7_takes_116 rfl ?_
              obtain ⟨v12, mu11, k10, h⟩ := fg_b2E h
              refine fg_callV dX7_takes_117 qX7_80 (wX7_opensUnit HX hR k10) rfl (HX.s 20 rfl rfl rfl) rfl (Nat.le_of_ble_eq_true rfl) (fg_cr (by first | decide | omega) (by decide)) (fun hR => ?_)
              refine bs_goto (tgt := 128) dX7_takes_120 (by decide) ?_
              obtain ⟨g13, h⟩ := fg_gdE h
              cases h
              exact bs_zret dX7_takes_128 rfl (of_decide_eq_true g13) (Nat.zero_le _) (Nat.zero_le _) (kr _ rfl hR)
            · replace h := fg_iN c h
              refine bs_iload_n dX7_takes_109 rfl ?_
              refine bs_bipush (v := (nI 40)) dX7_takes_110 (by decide) ?_
              refine bs_icmp_ne (tgt := 123) dX7_takes_112 (by decide) (fun c => ?_) (fun c => ?_)
              · replace h := fg_iN c h
                refine bs_aload_n dX7_takes_123 rfl ?_
                refine bs_iload_n dX7_takes_124 rfl ?_
                obtain ⟨v16, mu15, k14, h⟩ := fg_b2E h
                refine fg_callV dX7_takes_125 qX7_83 (wX7_takesAtom HX hR k14) rfl (HX.s 20 rfl rfl rfl) rfl (Nat.le_of_ble_eq_true rfl) (fg_cr (by first | decide | omega) (by decide)) (fun hR => ?_)
                obtain ⟨g17, h⟩ := fg_gdE h
                cases h
                exact bs_zret dX7_takes_128 rfl (of_decide_eq_true g17) (Nat.zero_le _) (Nat.zero_le _) (kr _ rfl hR)
              · replace h := fg_ip c h
                refine bs_aload_n dX7_takes_115 rfl ?_
                refine bs_iload_n dX7_takes_116 rfl ?_
                obtain ⟨v20, mu19, k18, h⟩ := fg_b2E h
                refine fg_callV dX7_takes_117 qX7_80 (wX7_opensUnit HX hR k18) rfl (HX.s 20 rfl rfl rfl) rfl (Nat.le_of_ble_eq_true rfl) (fg_cr (by first | decide | omega) (by decide)) (fun hR => ?_)
                refine bs_goto (tgt := 128) dX7_takes_120 (by decide) ?_
                obtain ⟨g21, h⟩ := fg_gdE h
                cases h
                exact bs_zret dX7_takes_128 rfl (of_decide_eq_true g21) (Nat.zero_le _) (Nat.zero_le _) (kr _ rfl hR)
          · replace h := fg_iN e9 h
            by_cases e22 : (bs_iv (mu3 (x + 20) 5)) = (nI 3)
            · replace h := fg_ip e22 h
              refine bs_tableIn (off := 96) (tgt := 129) dX7_takes_33 (by rw [e22]; decide) (by rw [e22]; decide) (by rw [e22]; decide) (by decide) ?_
              refine bs_aload_n dX7_takes_129 rfl ?_
              refine bs_iload_n dX7_takes_130 rfl ?_
              obtain ⟨v25, mu24, k23, h⟩ := fg_b2E h
              refine fg_callV dX7_takes_131 qX7_83 (wX7_takesAtom HX hR k23) rfl (HX.s 20 rfl rfl rfl) rfl (Nat.le_of_ble_eq_true rfl) (fg_cr (by first | decide | omega) (by decide)) (fun hR => ?_)
              obtain ⟨g26, h⟩ := fg_gdE h
              cases h
              exact bs_zret dX7_takes_134 rfl (of_decide_eq_true g26) (Nat.zero_le _) (Nat.zero_le _) (kr _ rfl hR)
            · replace h := fg_iN e22 h
              refine fg_tabD (b := 0) (tgt := 135) (sp := [0, 1, 2, 3]) dX7_takes_33 (by decide) (by decide) (by decide) ?_ (by decide) ?_
              · intro k hk; simp only [List.mem_cons, List.not_mem_nil, or_false] at hk; rcases hk with rfl | rfl | rfl | rfl <;> assumption
              · refine bs_aload_n dX7_takes_135 rfl ?_
                refine bs_iload_n dX7_takes_136 rfl ?_
                obtain ⟨v29, mu28, k27, h⟩ := fg_b2E h
                refine fg_callV dX7_takes_137 qX7_86 (wX7_takesSign HX hR k27) rfl (HX.s 20 rfl rfl rfl) rfl (Nat.le_of_ble_eq_true rfl) (fg_cr (by first | decide | omega) (by decide)) (fun hR => ?_)
                obtain ⟨g30, h⟩ := fg_gdE h
                cases h
                exact bs_zret dX7_takes_140 rfl (of_decide_eq_true g30) (Nat.zero_le _) (Nat.zero_le _) (kr _ rfl hR)
    · replace h := fg_ip c h
      refine bs_iconst (v := (nI 1)) dX7_takes_27 (by decide) ?_
      cases h
      exact bs_zret dX7_takes_28 rfl (Or.inr rfl) (Nat.zero_le _) (Nat.zero_le _) (kr _ rfl hR)
  · replace h := fg_iN c h
    refine bs_aload_n dX7_takes_7 rfl ?_
    refine bs_iload_n dX7_takes_8 rfl ?_
    refine bs_bipush (v := (nI 48)) dX7_takes_9 (by decide) ?_
    refine bs_isub dX7_takes_11 ?_
    obtain ⟨v33, mu32, k31, h⟩ := fg_b2E h
    refine fg_callV dX7_takes_12 qX7_77 (wX7_takesDigit HX hR k31) rfl (HX.s 20 rfl rfl rfl) rfl (Nat.le_of_ble_eq_true rfl) (fg_cr (by first | decide | omega) (by decide)) (fun hR => ?_)
    obtain ⟨g34, h⟩ := fg_gdE h
    cases h
    exact bs_zret dX7_takes_15 rfl (of_decide_eq_true g34) (Nat.zero_le _) (Nat.zero_le _) (kr _ rfl hR)
noncomputable def FX7_read_b6 (x : Nat)  (s : Int32 × bs_Mm) : Option ((Int32 × bs_Mm) ⊕ ((bs_Mm) ⊕ (Int32 × bs_Mm))) :=
  if (bs_iv (s.2 (x + 5) 1)) ≤ s.1 then (
    some (.inr (.inl s.2))
  ) else (
    fg_bd (FX10_at x s.2 s.1) (fun v4 => 
    fg_b2 (FX7_takes x s.2 v4) (fun v7 mu6 => 
    if v7 = 0 then (
      some (.inr (.inr (s.1, mu6)))
    ) else (
      some (.inl ((s.1 + (nI 1)), mu6))
    )))
  )
set_option maxHeartbeats 4000000 in
theorem wFX7_read_b6 {nx : Nat} {sh : bs_Sh} {R : Nat → Nat → Option Nat} {x : Nat} (HX : fg_S (bs_tS x) R x sh) {Ph : bs_Po} {s : Int32 × bs_Mm} {r : (Int32 × bs_Mm) ⊕ ((bs_Mm) ⊕ (Int32 × bs_Mm))} (ka : ∀ s, r = .inl s → fg_R R s.2 → bs_W Ph mX7_read (bs_rm 5 0 0) 6 (bs_mk [(0, .ref (x + 20)), (1, .ref (x + 5)), (2, .int s.1)]) [] 0 0 nx sh s.2) (ke : ∀ s, r = .inr (.inl s) → fg_R R s → bs_W Ph mX7_read (bs_rm 5 0 0) 34 (bs_mk [(0, .ref (x + 20)), (1, .ref (x + 5))]) [] 0 0 nx sh s) (kr : ∀ q, r = .inr (.inr q) → fg_R R q.2 → Ph (some (.int q.1)) nx sh q.2) (hR : fg_R R s.2) (h : FX7_read_b6 x s = some r) : bs_W Ph mX7_read (bs_rm 5 0 0) 6 (bs_mk [(0, .ref (x + 20)), (1, .ref (x + 5)), (2, .int s.1)]) [] 0 0 nx sh s.2 := by
  unfold FX7_read_b6 at h
  refine bs_iload_n dX7_read_6 rfl ?_
  refine bs_aload_n dX7_read_7 rfl ?_
  refine bs_getI dX7_read_8 fX7_32 (HX.s 5 rfl rfl rfl) ?_
  refine bs_icmp_ge (tgt := 34) dX7_read_11 (by decide) (fun c => ?_) (fun c => ?_)
  · replace h := fg_ip c h
    cases h
    refine bs_W.mk [(0, .ref (x + 20)), (1, .ref (x + 5))] (by intro q hq; simp only [List.mem_cons, List.not_mem_nil, or_false] at hq; rcases hq with rfl | rfl <;> rfl) (ke _ rfl hR)
  · replace h := fg_iN c h
    refine bs_aload_n dX7_read_14 rfl ?_
    refine bs_aload_n dX7_read_15 rfl ?_
    refine bs_iload_n dX7_read_16 rfl ?_
    obtain ⟨v4, k3, h⟩ := fg_bdE h
    refine fg_callV dX7_read_17 qX7_38 (wX10_at HX hR k3) rfl (HX.s 5 rfl rfl rfl) rfl (Nat.le_of_ble_eq_true rfl) (fg_cr (by first | decide | omega) (by decide)) (fun hR => ?_)
    obtain ⟨v7, mu6, k5, h⟩ := fg_b2E h
    refine fg_callV dX7_read_20 qX7_42 (wX7_takes HX hR k5) rfl (HX.s 20 rfl rfl rfl) rfl (Nat.le_of_ble_eq_true rfl) (fg_cr (by first | decide | omega) (by decide)) (fun hR => ?_)
    refine bs_if_ne (tgt := 28) dX7_read_23 (by decide) (fun c => ?_) (fun c => ?_)
    · replace h := fg_iN c h
      refine fg_iinc (m := (nI 1)) dX7_read_28 rfl rfl (by decide) ?_
      refine bs_goto (tgt := 6) dX7_read_31 (by decide) ?_
      cases h
      refine bs_W.mk [(0, .ref (x + 20)), (1, .ref (x + 5)), (2, .int (s.1 + (nI 1)))] (by intro q hq; simp only [List.mem_cons, List.not_mem_nil, or_false] at hq; rcases hq with rfl | rfl | rfl <;> rfl) (by have k := ka _ rfl hR; dsimp only at k; exact k)
    · replace h := fg_ip c h
      refine bs_iload_n dX7_read_26 rfl ?_
      cases h
      exact bs_iret dX7_read_27 rfl (Nat.zero_le _) (Nat.zero_le _) (kr _ rfl hR)
theorem wFX7_read_l6 {nx : Nat} {sh : bs_Sh} {R : Nat → Nat → Option Nat} {x : Nat} (HX : fg_S (bs_tS x) R x sh) {Ph : bs_Po} {t : (bs_Mm) ⊕ (Int32 × bs_Mm)} : ∀ n (y0 : Int32) (mu1 : bs_Mm), fg_lp (FX7_read_b6 x) n (y0, mu1) = some t → fg_R R mu1 → (ke : ∀ s, t = .inl s → fg_R R s → bs_W Ph mX7_read (bs_rm 5 0 0) 34 (bs_mk [(0, .ref (x + 20)), (1, .ref (x + 5))]) [] 0 0 nx sh s) → (kr : ∀ q, t = .inr q → fg_R R q.2 → Ph (some (.int q.1)) nx sh q.2) → bs_W Ph mX7_read (bs_rm 5 0 0) 6 (bs_mk [(0, .ref (x + 20)), (1, .ref (x + 5)), (2, .int y0)]) [] 0 0 nx sh mu1 := by
  intro n
  induction n with
  | zero => intro y0 mu1 h; exact absurd h (fun z => fg_lp0 z)
  | succ n ih =>
    intro y0 mu1 h hR ke kr
    obtain ⟨r, hb, h1, h2⟩ := fg_lpE h
    exact wFX7_read_b6 (s := (y0, mu1)) HX (fun s' e hR' => ih s'.1 s'.2 (h1 s' e) hR' ke kr) (fun s' e => ke s' (h2 _ e).symm) (fun q e => kr q (h2 _ e).symm) hR hb
noncomputable def FX7_read (x : Nat) (mu : bs_Mm) : Option (Int32 × bs_Mm) :=
  fg_bd (FX7_begin x mu) (fun mu2 => 
  fg_l3 (fg_lp (FX7_read_b6 x) fg_fu ((nI 0), mu2)) (fun t8 => 
    if (bs_iv (t8 (x + 20) 5)) = (nI 4) then (
      fg_b2 (FX7_endsClause x t8) (fun v12 mu11 => 
      if v12 = 0 then (
        some ((bs_iv (mu11 (x + 5) 1)), mu11)
      ) else (
        some ((-1), mu11)
      ))
    ) else (
      some ((bs_iv (t8 (x + 5) 1)), t8)
    )
  ) (fun q13 => some q13))
set_option maxHeartbeats 4000000 in
theorem wX7_read {nx : Nat} {sh : bs_Sh} {R : Nat → Nat → Option Nat} {x : Nat} (HX : fg_S (bs_tS x) R x sh) {mu : bs_Mm} (hR : fg_R R mu) {r : Int32 × bs_Mm} (h : FX7_read x mu = some r) : bs_C mX7_read (bs_rm 5 0 0) [.ref (x + 20), .ref (x + 5)] nx sh mu (fg_po R nx sh (some (.int r.1)) r.2) := by
  refine bs_ct (by decide +kernel) (Nat.le_of_ble_eq_true rfl) ?_
  have kr : ∀ q, r = q → fg_R R q.2 → (fg_po R nx sh (some (.int r.1)) r.2) (some (.int q.1)) nx sh q.2 := fun q e hq => by subst e; exact ⟨rfl, rfl, rfl, rfl, hq⟩
  unfold FX7_read at h
  refine bs_aload_n dX7_read_0 rfl ?_
  obtain ⟨mu2, k1, h⟩ := fg_bdE h
  refine fg_callVv dX7_read_1 qX7_29 (wX7_begin HX hR k1) rfl (HX.s 20 rfl rfl rfl) rfl (Nat.le_of_ble_eq_true rfl) (fg_cr (by first | decide | omega) (by decide)) (fun hR => ?_)
  refine bs_iconst (v := (nI 0)) dX7_read_4 (by decide) ?_
  refine bs_istore_n dX7_read_5 rfl (by decide) ?_
  obtain ⟨t80, k9, h1, h2⟩ := fg_l3E h
  refine bs_W.mk [(0, .ref (x + 20)), (1, .ref (x + 5)), (2, .int (nI 0))] (by intro q hq; simp only [List.mem_cons, List.not_mem_nil, or_false] at hq; rcases hq with rfl | rfl | rfl <;> rfl) ?_
  refine wFX7_read_l6 HX _ _ _ k9 hR ?_ ?_
  · intro t8 e hR
    replace h := h1 t8 e
    refine bs_aload_n dX7_read_34 rfl ?_
    refine bs_getI dX7_read_35 fX7_46 (HX.s 20 rfl rfl rfl) ?_
    refine bs_iconst (v := (nI 4)) dX7_read_38 (by decide) ?_
    refine bs_icmp_ne (tgt := 53) dX7_read_39 (by decide) (fun c => ?_) (fun c => ?_)
    · replace h := fg_iN c h
      refine bs_aload_n dX7_read_53 rfl ?_
      refine bs_getI dX7_read_54 fX7_32 (HX.s 5 rfl rfl rfl) ?_
      cases h
      exact bs_iret dX7_read_57 rfl (Nat.zero_le _) (Nat.zero_le _) (kr _ rfl hR)
    · replace h := fg_ip c h
      refine bs_aload_n dX7_read_42 rfl ?_
      obtain ⟨v12, mu11, k10, h⟩ := fg_b2E h
      refine fg_callV dX7_read_43 qX7_49 (wX7_endsClause HX hR k10) rfl (HX.s 20 rfl rfl rfl) rfl (Nat.le_of_ble_eq_true rfl) (fg_cr (by first | decide | omega) (by decide)) (fun hR => ?_)
      refine bs_if_eq (tgt := 53) dX7_read_46 (by decide) (fun c => ?_) (fun c => ?_)
      · replace h := fg_ip c h
        refine bs_aload_n dX7_read_53 rfl ?_
        refine bs_getI dX7_read_54 fX7_32 (HX.s 5 rfl rfl rfl) ?_
        cases h
        exact bs_iret dX7_read_57 rfl (Nat.zero_le _) (Nat.zero_le _) (kr _ rfl hR)
      · replace h := fg_iN c h
        refine bs_iconst (v := (-1)) dX7_read_49 (by decide) ?_
        refine bs_goto (tgt := 57) dX7_read_50 (by decide) ?_
        cases h
        exact bs_iret dX7_read_57 rfl (Nat.zero_le _) (Nat.zero_le _) (kr _ rfl hR)
  · intro q13 e hR
    replace h := h2 q13 e
    cases h
    exact kr _ rfl hR
noncomputable def FX11_fault (x : Nat) (mu : bs_Mm) (p1 : Int32) : Option (Int32 × bs_Mm) :=
  if p1 = 0 then (
    fg_b2 (FX2_read x mu (bs_iv (mu (x + 1) 3))) (fun v6 mu5 => 
    some (v6, mu5))
  ) else (
    if p1 = (nI 1) then (
      fg_b2 (FX7_read x mu) (fun v3 mu2 => 
      some (v3, mu2))
    ) else (
      some ((-2), mu)
    )
  )
set_option maxHeartbeats 4000000 in
theorem wX11_fault {nx : Nat} {sh : bs_Sh} {R : Nat → Nat → Option Nat} {x : Nat} (HX : fg_S (bs_tS x) R x sh) {mu : bs_Mm} (hR : fg_R R mu) {p1 : Int32} {r : Int32 × bs_Mm} (h : FX11_fault x mu p1 = some r) : bs_C mX11_fault (bs_rm 6 0 0) [.ref x, .int p1] nx sh mu (fg_po R nx sh (some (.int r.1)) r.2) := by
  refine bs_ct (by decide +kernel) (Nat.le_of_ble_eq_true rfl) ?_
  have kr : ∀ q, r = q → fg_R R q.2 → (fg_po R nx sh (some (.int r.1)) r.2) (some (.int q.1)) nx sh q.2 := fun q e hq => by subst e; exact ⟨rfl, rfl, rfl, rfl, hq⟩
  unfold FX11_fault at h
  refine bs_iload_n dX11_fault_0 rfl ?_
  refine bs_if_ne (tgt := 23) dX11_fault_1 (by decide) (fun c => ?_) (fun c => ?_)
  · replace h := fg_iN c h
    refine bs_iload_n dX11_fault_23 rfl ?_
    refine bs_iconst (v := (nI 1)) dX11_fault_24 (by decide) ?_
    refine bs_icmp_ne (tgt := 42) dX11_fault_25 (by decide) (fun c => ?_) (fun c => ?_)
    · replace h := fg_iN c h
      refine bs_bipush (v := (-2)) dX11_fault_42 (by decide) ?_
      cases h
      exact bs_iret dX11_fault_44 rfl (Nat.zero_le _) (Nat.zero_le _) (kr _ rfl hR)
    · replace h := fg_ip c h
      refine bs_aload_n dX11_fault_28 rfl ?_
      refine fg_getR (b := (x + 20)) dX11_fault_29 fX11_45 (HX.s 0 rfl rfl rfl) hR (HX.r 0 5 rfl rfl rfl) ?_
      refine bs_aload_n dX11_fault_32 rfl ?_
      refine fg_getR (b := (x + 5)) dX11_fault_33 fX11_19 (HX.s 0 rfl rfl rfl) hR (HX.r 0 1 rfl rfl rfl) ?_
      obtain ⟨v3, mu2, k1, h⟩ := fg_b2E h
      refine fg_callV dX11_fault_36 qX11_116 (wX7_read HX hR k1) rfl (HX.s 20 rfl rfl rfl) rfl (Nat.le_of_ble_eq_true rfl) (fg_cr (by first | decide | omega) (by decide)) (fun hR => ?_)
      refine bs_goto (tgt := 44) dX11_fault_39 (by decide) ?_
      cases h
      exact bs_iret dX11_fault_44 rfl (Nat.zero_le _) (Nat.zero_le _) (kr _ rfl hR)
  · replace h := fg_ip c h
    refine bs_aload_n dX11_fault_4 rfl ?_
    refine fg_getR (b := (x + 9)) dX11_fault_5 fX11_38 (HX.s 0 rfl rfl rfl) hR (HX.r 0 4 rfl rfl rfl) ?_
    refine bs_aload_n dX11_fault_8 rfl ?_
    refine fg_getR (b := (x + 5)) dX11_fault_9 fX11_19 (HX.s 0 rfl rfl rfl) hR (HX.r 0 1 rfl rfl rfl) ?_
    refine bs_aload_n dX11_fault_12 rfl ?_
    refine fg_getR (b := (x + 1)) dX11_fault_13 fX11_12 (HX.s 0 rfl rfl rfl) hR (HX.r 0 0 rfl rfl rfl) ?_
    refine bs_getI dX11_fault_16 fX11_109 (HX.s 1 rfl rfl rfl) ?_
    obtain ⟨v6, mu5, k4, h⟩ := fg_b2E h
    refine fg_callV dX11_fault_19 qX11_112 (wX2_read HX hR k4) rfl (HX.s 9 rfl rfl rfl) rfl (Nat.le_of_ble_eq_true rfl) (fg_cr (by first | decide | omega) (by decide)) (fun hR => ?_)
    cases h
    exact bs_iret dX11_fault_22 rfl (Nat.zero_le _) (Nat.zero_le _) (kr _ rfl hR)
noncomputable def FX11_filledBytes_b5 (x : Nat) (mu : bs_Mm) (l0 : Int32) (s : Int32 × Int32) : Option ((Int32 × Int32) ⊕ (Int32)) :=
  if s.2 < 0 then (
    some (.inr s.1)
  ) else (
    if (((Int32.toUInt32 l0 >>> (Int32.toUInt32 s.2 &&& Int32.toUInt32 31)).toInt32) &&& (nI 255)) = 0 then (
      some (.inl (s.1, (s.2 + (-8))))
    ) else (
      some (.inl ((s.1 + (nI 1)), (s.2 + (-8))))
    )
  )
set_option maxHeartbeats 4000000 in
theorem wFX11_filledBytes_b5 {nx : Nat} {sh : bs_Sh} {R : Nat → Nat → Option Nat} {x : Nat} (HX : fg_S (bs_tS x) R x sh) {mu : bs_Mm} {l0 : Int32} {Ph : bs_Po} {s : Int32 × Int32} {r : (Int32 × Int32) ⊕ (Int32)} (ka : ∀ s, r = .inl s → bs_W Ph mX11_filledBytes (bs_rm 0 0 0) 5 (bs_mk [(0, .int l0), (1, .int s.1), (2, .int s.2)]) [] 0 0 nx sh mu) (ke : ∀ s, r = .inr s → bs_W Ph mX11_filledBytes (bs_rm 0 0 0) 28 (bs_mk [(0, .int l0), (1, .int s)]) [] 0 0 nx sh mu) (hR : fg_R R mu) (h : FX11_filledBytes_b5 x mu l0 s = some r) : bs_W Ph mX11_filledBytes (bs_rm 0 0 0) 5 (bs_mk [(0, .int l0), (1, .int s.1), (2, .int s.2)]) [] 0 0 nx sh mu := by
  unfold FX11_filledBytes_b5 at h
  refine bs_iload_n dX11_filledBytes_5 rfl ?_
  refine bs_if_lt (tgt := 28) dX11_filledBytes_6 (by decide) (fun c => ?_) (fun c => ?_)
  · replace h := fg_ip c h
    cases h
    refine bs_W.mk [(0, .int l0), (1, .int s.1)] (by intro q hq; simp only [List.mem_cons, List.not_mem_nil, or_false] at hq; rcases hq with rfl | rfl <;> rfl) (ke _ rfl)
  · replace h := fg_iN c h
    refine bs_iload_n dX11_filledBytes_9 rfl ?_
    refine bs_iload_n dX11_filledBytes_10 rfl ?_
    refine bs_iushr dX11_filledBytes_11 ?_
    refine bs_sipush (v := (nI 255)) dX11_filledBytes_12 (by decide) ?_
    refine bs_iand dX11_filledBytes_15 ?_
    refine bs_if_eq (tgt := 22) dX11_filledBytes_16 (by decide) (fun c => ?_) (fun c => ?_)
    · replace h := fg_ip c h
      refine fg_iinc (m := (-8)) dX11_filledBytes_22 rfl rfl (by decide) ?_
      refine bs_goto (tgt := 5) dX11_filledBytes_25 (by decide) ?_
      cases h
      refine bs_W.mk [(0, .int l0), (1, .int s.1), (2, .int (s.2 + (-8)))] (by intro q hq; simp only [List.mem_cons, List.not_mem_nil, or_false] at hq; rcases hq with rfl | rfl | rfl <;> rfl) (by have k := ka _ rfl; dsimp only at k; exact k)
    · replace h := fg_iN c h
      refine fg_iinc (m := (nI 1)) dX11_filledBytes_19 rfl rfl (by decide) ?_
      refine fg_iinc (m := (-8)) dX11_filledBytes_22 rfl rfl (by decide) ?_
      refine bs_goto (tgt := 5) dX11_filledBytes_25 (by decide) ?_
      cases h
      refine bs_W.mk [(0, .int l0), (1, .int (s.1 + (nI 1))), (2, .int (s.2 + (-8)))] (by intro q hq; simp only [List.mem_cons, List.not_mem_nil, or_false] at hq; rcases hq with rfl | rfl | rfl <;> rfl) (by have k := ka _ rfl; dsimp only at k; exact k)
theorem wFX11_filledBytes_l5 {nx : Nat} {sh : bs_Sh} {R : Nat → Nat → Option Nat} {x : Nat} (HX : fg_S (bs_tS x) R x sh) {mu : bs_Mm} {l0 : Int32} {Ph : bs_Po} {t : Int32} : ∀ n (y0 : Int32) (y1 : Int32), fg_lp (FX11_filledBytes_b5 x mu l0) n (y0, y1) = some t → fg_R R mu → (ke : ∀ s, t = s → bs_W Ph mX11_filledBytes (bs_rm 0 0 0) 28 (bs_mk [(0, .int l0), (1, .int s)]) [] 0 0 nx sh mu) → bs_W Ph mX11_filledBytes (bs_rm 0 0 0) 5 (bs_mk [(0, .int l0), (1, .int y0), (2, .int y1)]) [] 0 0 nx sh mu := by
  intro n
  induction n with
  | zero => intro y0 y1 h; exact absurd h (fun z => fg_lp0 z)
  | succ n ih =>
    intro y0 y1 h hR ke
    obtain ⟨r, hb, h1, h2⟩ := fg_lpE h
    exact wFX11_filledBytes_b5 (s := (y0, y1)) HX (fun s' e => ih s'.1 s'.2 (h1 s' e) hR ke) (fun s' e => ke s' (h2 _ e).symm) hR hb
noncomputable def FX11_filledBytes (x : Nat) (mu : bs_Mm) (p0 : Int32) : Option (Int32) :=
  fg_bd (fg_lp (FX11_filledBytes_b5 x mu p0) fg_fu ((nI 0), (nI 24))) (fun t1 => 
    some (t1)
  )
set_option maxHeartbeats 4000000 in
theorem wX11_filledBytes {nx : Nat} {sh : bs_Sh} {R : Nat → Nat → Option Nat} {x : Nat} (HX : fg_S (bs_tS x) R x sh) {mu : bs_Mm} (hR : fg_R R mu) {p0 : Int32} {r : Int32} (h : FX11_filledBytes x mu p0 = some r) : bs_C mX11_filledBytes (bs_rm 0 0 0) [.int p0] nx sh mu (fg_po R nx sh (some (.int r)) mu) := by
  refine bs_ct (by decide +kernel) (Nat.le_of_ble_eq_true rfl) ?_
  have kr : ∀ q, r = q → fg_R R mu → (fg_po R nx sh (some (.int r)) mu) (some (.int q)) nx sh mu := fun q e hq => by subst e; exact ⟨rfl, rfl, rfl, rfl, hq⟩
  unfold FX11_filledBytes at h
  refine bs_iconst (v := (nI 0)) dX11_filledBytes_0 (by decide) ?_
  refine bs_istore_n dX11_filledBytes_1 rfl (by decide) ?_
  refine bs_bipush (v := (nI 24)) dX11_filledBytes_2 (by decide) ?_
  refine bs_istore_n dX11_filledBytes_4 rfl (by decide) ?_
  obtain ⟨t1, k2, h⟩ := fg_bdE h
  refine bs_W.mk [(0, .int p0), (1, .int (nI 0)), (2, .int (nI 24))] (by intro q hq; simp only [List.mem_cons, List.not_mem_nil, or_false] at hq; rcases hq with rfl | rfl | rfl <;> rfl) ?_
  refine wFX11_filledBytes_l5 HX _ _ _ k2 hR ?_
  intro s e
  subst e
  refine bs_iload_n dX11_filledBytes_28 rfl ?_
  cases h
  exact bs_iret dX11_filledBytes_29 rfl (Nat.zero_le _) (Nat.zero_le _) (kr _ rfl hR)
noncomputable def FX11_feed (x : Nat) (mu : bs_Mm) (p1 : Int32) (p2 : Int32) (p3 : Int32) (p4 : Int32) (p5 : Int32) : Option (Int32 × bs_Mm) :=
  fg_bd (FX11_filledBytes x mu p1) (fun v2 => 
  fg_bd (FX11_filledBytes x mu p2) (fun v4 => 
  fg_bd (FX11_filledBytes x mu p3) (fun v6 => 
  fg_bd (FX11_filledBytes x mu p4) (fun v8 => 
  fg_bd (FX11_filledBytes x mu p5) (fun v10 => 
  if ((bs_iv (mu (x + 5) 1)) + ((((v2 + v4) + v6) + v8) + v10)) ≤ (nI 200) then (
    fg_bd (FX10_put x mu p1) (fun mu12 => 
    fg_bd (FX10_put x mu12 p2) (fun mu14 => 
    fg_bd (FX10_put x mu14 p3) (fun mu16 => 
    fg_bd (FX10_put x mu16 p4) (fun mu18 => 
    fg_bd (FX10_put x mu18 p5) (fun mu20 => 
    some ((bs_iv (mu20 (x + 5) 1)), mu20))))))
  ) else (
    some ((-1), mu)
  ))))))
set_option maxHeartbeats 4000000 in
theorem wX11_feed {nx : Nat} {sh : bs_Sh} {R : Nat → Nat → Option Nat} {x : Nat} (HX : fg_S (bs_tS x) R x sh) {mu : bs_Mm} (hR : fg_R R mu) {p1 : Int32} {p2 : Int32} {p3 : Int32} {p4 : Int32} {p5 : Int32} {r : Int32 × bs_Mm} (h : FX11_feed x mu p1 p2 p3 p4 p5 = some r) : bs_C mX11_feed (bs_rm 1 0 0) [.ref x, .int p1, .int p2, .int p3, .int p4, .int p5] nx sh mu (fg_po R nx sh (some (.int r.1)) r.2) := by
  refine bs_ct (by decide +kernel) (Nat.le_of_ble_eq_true rfl) ?_
  have kr : ∀ q, r = q → fg_R R q.2 → (fg_po R nx sh (some (.int r.1)) r.2) (some (.int q.1)) nx sh q.2 := fun q e hq => by subst e; exact ⟨rfl, rfl, rfl, rfl, hq⟩
  unfold FX11_feed at h
  refine bs_iload_n dX11_feed_0 rfl ?_
  obtain ⟨v2, k1, h⟩ := fg_bdE h
  refine fg_callS dX11_feed_1 qX11_97 (wX11_filledBytes HX hR k1) rfl rfl (Nat.le_of_ble_eq_true rfl) (fg_cr (by first | decide | omega) (by decide)) (fun hR => ?_)
  refine bs_iload_n dX11_feed_4 rfl ?_
  obtain ⟨v4, k3, h⟩ := fg_bdE h
  refine fg_callS dX11_feed_5 qX11_97 (wX11_filledBytes HX hR k3) rfl rfl (Nat.le_of_ble_eq_true rfl) (fg_cr (by first | decide | omega) (by decide)) (fun hR => ?_)
  refine bs_iadd dX11_feed_8 ?_
  refine bs_iload_n dX11_feed_9 rfl ?_
  obtain ⟨v6, k5, h⟩ := fg_bdE h
  refine fg_callS dX11_feed_10 qX11_97 (wX11_filledBytes HX hR k5) rfl rfl (Nat.le_of_ble_eq_true rfl) (fg_cr (by first | decide | omega) (by decide)) (fun hR => ?_)
  refine bs_iadd dX11_feed_13 ?_
  refine bs_iload dX11_feed_14 rfl ?_
  obtain ⟨v8, k7, h⟩ := fg_bdE h
  refine fg_callS dX11_feed_16 qX11_97 (wX11_filledBytes HX hR k7) rfl rfl (Nat.le_of_ble_eq_true rfl) (fg_cr (by first | decide | omega) (by decide)) (fun hR => ?_)
  refine bs_iadd dX11_feed_19 ?_
  refine bs_iload dX11_feed_20 rfl ?_
  obtain ⟨v10, k9, h⟩ := fg_bdE h
  refine fg_callS dX11_feed_22 qX11_97 (wX11_filledBytes HX hR k9) rfl rfl (Nat.le_of_ble_eq_true rfl) (fg_cr (by first | decide | omega) (by decide)) (fun hR => ?_)
  refine bs_iadd dX11_feed_25 ?_
  refine bs_istore dX11_feed_26 rfl (by decide) ?_
  refine bs_aload_n dX11_feed_28 rfl ?_
  refine fg_getR (b := (x + 5)) dX11_feed_29 fX11_19 (HX.s 0 rfl rfl rfl) hR (HX.r 0 1 rfl rfl rfl) ?_
  refine bs_getI dX11_feed_32 fX11_101 (HX.s 5 rfl rfl rfl) ?_
  refine bs_iload dX11_feed_35 rfl ?_
  refine bs_iadd dX11_feed_37 ?_
  refine bs_sipush (v := (nI 200)) dX11_feed_38 (by decide) ?_
  refine bs_icmp_le (tgt := 46) dX11_feed_41 (by decide) (fun c => ?_) (fun c => ?_)
  · replace h := fg_ip c h
    refine bs_aload_n dX11_feed_46 rfl ?_
    refine fg_getR (b := (x + 5)) dX11_feed_47 fX11_19 (HX.s 0 rfl rfl rfl) hR (HX.r 0 1 rfl rfl rfl) ?_
    refine bs_iload_n dX11_feed_50 rfl ?_
    obtain ⟨mu12, k11, h⟩ := fg_bdE h
    refine fg_callVv dX11_feed_51 qX11_105 (wX10_put HX hR k11) rfl (HX.s 5 rfl rfl rfl) rfl (Nat.le_of_ble_eq_true rfl) (fg_cr (by first | decide | omega) (by decide)) (fun hR => ?_)
    refine bs_aload_n dX11_feed_54 rfl ?_
    refine fg_getR (b := (x + 5)) dX11_feed_55 fX11_19 (HX.s 0 rfl rfl rfl) hR (HX.r 0 1 rfl rfl rfl) ?_
    refine bs_iload_n dX11_feed_58 rfl ?_
    obtain ⟨mu14, k13, h⟩ := fg_bdE h
    refine fg_callVv dX11_feed_59 qX11_105 (wX10_put HX hR k13) rfl (HX.s 5 rfl rfl rfl) rfl (Nat.le_of_ble_eq_true rfl) (fg_cr (by first | decide | omega) (by decide)) (fun hR => ?_)
    refine bs_aload_n dX11_feed_62 rfl ?_
    refine fg_getR (b := (x + 5)) dX11_feed_63 fX11_19 (HX.s 0 rfl rfl rfl) hR (HX.r 0 1 rfl rfl rfl) ?_
    refine bs_iload_n dX11_feed_66 rfl ?_
    obtain ⟨mu16, k15, h⟩ := fg_bdE h
    refine fg_callVv dX11_feed_67 qX11_105 (wX10_put HX hR k15) rfl (HX.s 5 rfl rfl rfl) rfl (Nat.le_of_ble_eq_true rfl) (fg_cr (by first | decide | omega) (by decide)) (fun hR => ?_)
    refine bs_aload_n dX11_feed_70 rfl ?_
    refine fg_getR (b := (x + 5)) dX11_feed_71 fX11_19 (HX.s 0 rfl rfl rfl) hR (HX.r 0 1 rfl rfl rfl) ?_
    refine bs_iload dX11_feed_74 rfl ?_
    obtain ⟨mu18, k17, h⟩ := fg_bdE h
    refine fg_callVv dX11_feed_76 qX11_105 (wX10_put HX hR k17) rfl (HX.s 5 rfl rfl rfl) rfl (Nat.le_of_ble_eq_true rfl) (fg_cr (by first | decide | omega) (by decide)) (fun hR => ?_)
    refine bs_aload_n dX11_feed_79 rfl ?_
    refine fg_getR (b := (x + 5)) dX11_feed_80 fX11_19 (HX.s 0 rfl rfl rfl) hR (HX.r 0 1 rfl rfl rfl) ?_
    refine bs_iload dX11_feed_83 rfl ?_
    obtain ⟨mu20, k19, h⟩ := fg_bdE h
    refine fg_callVv dX11_feed_85 qX11_105 (wX10_put HX hR k19) rfl (HX.s 5 rfl rfl rfl) rfl (Nat.le_of_ble_eq_true rfl) (fg_cr (by first | decide | omega) (by decide)) (fun hR => ?_)
    refine bs_aload_n dX11_feed_88 rfl ?_
    refine fg_getR (b := (x + 5)) dX11_feed_89 fX11_19 (HX.s 0 rfl rfl rfl) hR (HX.r 0 1 rfl rfl rfl) ?_
    refine bs_getI dX11_feed_92 fX11_101 (HX.s 5 rfl rfl rfl) ?_
    cases h
    exact bs_iret dX11_feed_95 rfl (Nat.zero_le _) (Nat.zero_le _) (kr _ rfl hR)
  · replace h := fg_iN c h
    refine bs_iconst (v := (-1)) dX11_feed_44 (by decide) ?_
    cases h
    exact bs_iret dX11_feed_45 rfl (Nat.zero_le _) (Nat.zero_le _) (kr _ rfl hR)
noncomputable def FX1_copy (x : Nat) (f : Nat) (mu : bs_Mm) (p1 : Nat) : Option (bs_Mm) :=
  fg_wc mu (p1 + 1) (f + 1) 0 0 6 (fun mu1 => 
  fg_wc mu1 (p1 + 2) (f + 2) 0 0 24 (fun mu2 => 
  fg_wc mu2 (p1 + 3) (f + 3) 0 0 24 (fun mu3 => 
  fg_wc mu3 (p1 + 4) (f + 4) 0 0 24 (fun mu4 => 
  fg_wc mu4 (p1 + 5) (f + 5) 0 0 24 (fun mu5 => 
  fg_wc mu5 (p1 + 6) (f + 6) 0 0 30 (fun mu6 => 
  fg_wr mu6 f 6 (.int (bs_iv (mu6 p1 6))) (fun mu7 => 
  fg_wr mu7 f 7 (.int (bs_iv (mu7 p1 7))) (fun mu8 => 
  fg_wr mu8 f 8 (.int (bs_iv (mu8 p1 8))) (fun mu9 => 
  fg_wr mu9 f 9 (.int (bs_iv (mu9 p1 9))) (fun mu10 => 
  some mu10))))))))))
set_option maxHeartbeats 4000000 in
theorem wX1_copy {nx : Nat} {sh : bs_Sh} {R : Nat → Nat → Option Nat} {x : Nat} (HX : fg_S (bs_tS x) R x sh) {f : Nat} (h_f : fg_F R sh f) {p1 : Nat} (h_p1 : fg_F R sh p1) {mu : bs_Mm} (hR : fg_R R mu) {r : bs_Mm} (h : FX1_copy x f mu p1 = some r) : bs_C mX1_copy (bs_rm 1 0 0) [.ref f, .ref p1] nx sh mu (fg_po R nx sh none r) := by
  refine bs_ct (by decide +kernel) (Nat.le_of_ble_eq_true rfl) ?_
  have kr : ∀ q, r = q → fg_R R q → (fg_po R nx sh none r) none nx sh q := fun q e hq => by subst e; exact ⟨rfl, rfl, rfl, rfl, hq⟩
  unfold FX1_copy at h
  refine bs_aload_n dX1_copy_0 rfl ?_
  refine fg_getR (b := (p1 + 1)) dX1_copy_1 fX1_9 (h_p1.s0) hR (h_p1.r0) ?_
  refine bs_iconst (v := (nI 0)) dX1_copy_4 (by decide) ?_
  refine bs_aload_n dX1_copy_5 rfl ?_
  refine fg_getR (b := (f + 1)) dX1_copy_6 fX1_9 (h_f.s0) hR (h_f.r0) ?_
  refine bs_iconst (v := (nI 0)) dX1_copy_9 (by decide) ?_
  refine bs_bipush (v := (nI 6)) dX1_copy_10 (by decide) ?_
  refine fg_copy (sp := 0) (dp := 0) (n := 6) dX1_copy_12 ⟨lX1_49, w_acp_native, w_acp_static, w_acp_ini⟩ (h_p1.s1) (h_f.s1) (h_f.j1) rfl rfl rfl (by decide) (by decide) (by decide) (by decide) (Nat.le_of_ble_eq_true rfl) hR h (fun mu1 hR h => ?_)
  refine bs_aload_n dX1_copy_15 rfl ?_
  refine fg_getR (b := (p1 + 2)) dX1_copy_16 fX1_15 (h_p1.s0) hR (h_p1.r1) ?_
  refine bs_iconst (v := (nI 0)) dX1_copy_19 (by decide) ?_
  refine bs_aload_n dX1_copy_20 rfl ?_
  refine fg_getR (b := (f + 2)) dX1_copy_21 fX1_15 (h_f.s0) hR (h_f.r1) ?_
  refine bs_iconst (v := (nI 0)) dX1_copy_24 (by decide) ?_
  refine bs_bipush (v := (nI 24)) dX1_copy_25 (by decide) ?_
  refine fg_copy (sp := 0) (dp := 0) (n := 24) dX1_copy_27 ⟨lX1_49, w_acp_native, w_acp_static, w_acp_ini⟩ (h_p1.s2) (h_f.s2) (h_f.j2) rfl rfl rfl (by decide) (by decide) (by decide) (by decide) (Nat.le_of_ble_eq_true rfl) hR h (fun mu2 hR h => ?_)
  refine bs_aload_n dX1_copy_30 rfl ?_
  refine fg_getR (b := (p1 + 3)) dX1_copy_31 fX1_18 (h_p1.s0) hR (h_p1.r2) ?_
  refine bs_iconst (v := (nI 0)) dX1_copy_34 (by decide) ?_
  refine bs_aload_n dX1_copy_35 rfl ?_
  refine fg_getR (b := (f + 3)) dX1_copy_36 fX1_18 (h_f.s0) hR (h_f.r2) ?_
  refine bs_iconst (v := (nI 0)) dX1_copy_39 (by decide) ?_
  refine bs_bipush (v := (nI 24)) dX1_copy_40 (by decide) ?_
  refine fg_copy (sp := 0) (dp := 0) (n := 24) dX1_copy_42 ⟨lX1_49, w_acp_native, w_acp_static, w_acp_ini⟩ (h_p1.s3) (h_f.s3) (h_f.j3) rfl rfl rfl (by decide) (by decide) (by decide) (by decide) (Nat.le_of_ble_eq_true rfl) hR h (fun mu3 hR h => ?_)
  refine bs_aload_n dX1_copy_45 rfl ?_
  refine fg_getR (b := (p1 + 4)) dX1_copy_46 fX1_21 (h_p1.s0) hR (h_p1.r3) ?_
  refine bs_iconst (v := (nI 0)) dX1_copy_49 (by decide) ?_
  refine bs_aload_n dX1_copy_50 rfl ?_
  refine fg_getR (b := (f + 4)) dX1_copy_51 fX1_21 (h_f.s0) hR (h_f.r3) ?_
  refine bs_iconst (v := (nI 0)) dX1_copy_54 (by decide) ?_
  refine bs_bipush (v := (nI 24)) dX1_copy_55 (by decide) ?_
  refine fg_copy (sp := 0) (dp := 0) (n := 24) dX1_copy_57 ⟨lX1_49, w_acp_native, w_acp_static, w_acp_ini⟩ (h_p1.s4) (h_f.s4) (h_f.j4) rfl rfl rfl (by decide) (by decide) (by decide) (by decide) (Nat.le_of_ble_eq_true rfl) hR h (fun mu4 hR h => ?_)
  refine bs_aload_n dX1_copy_60 rfl ?_
  refine fg_getR (b := (p1 + 5)) dX1_copy_61 fX1_24 (h_p1.s0) hR (h_p1.r4) ?_
  refine bs_iconst (v := (nI 0)) dX1_copy_64 (by decide) ?_
  refine bs_aload_n dX1_copy_65 rfl ?_
  refine fg_getR (b := (f + 5)) dX1_copy_66 fX1_24 (h_f.s0) hR (h_f.r4) ?_
  refine bs_iconst (v := (nI 0)) dX1_copy_69 (by decide) ?_
  refine bs_bipush (v := (nI 24)) dX1_copy_70 (by decide) ?_
  refine fg_copy (sp := 0) (dp := 0) (n := 24) dX1_copy_72 ⟨lX1_49, w_acp_native, w_acp_static, w_acp_ini⟩ (h_p1.s5) (h_f.s5) (h_f.j5) rfl rfl rfl (by decide) (by decide) (by decide) (by decide) (Nat.le_of_ble_eq_true rfl) hR h (fun mu5 hR h => ?_)
  refine bs_aload_n dX1_copy_75 rfl ?_
  refine fg_getR (b := (p1 + 6)) dX1_copy_76 fX1_27 (h_p1.s0) hR (h_p1.r5) ?_
  refine bs_iconst (v := (nI 0)) dX1_copy_79 (by decide) ?_
  refine bs_aload_n dX1_copy_80 rfl ?_
  refine fg_getR (b := (f + 6)) dX1_copy_81 fX1_27 (h_f.s0) hR (h_f.r5) ?_
  refine bs_iconst (v := (nI 0)) dX1_copy_84 (by decide) ?_
  refine bs_bipush (v := (nI 30)) dX1_copy_85 (by decide) ?_
  refine fg_copy (sp := 0) (dp := 0) (n := 30) dX1_copy_87 ⟨lX1_49, w_acp_native, w_acp_static, w_acp_ini⟩ (h_p1.s6) (h_f.s6) (h_f.j6) rfl rfl rfl (by decide) (by decide) (by decide) (by decide) (Nat.le_of_ble_eq_true rfl) hR h (fun mu6 hR h => ?_)
  refine bs_aload_n dX1_copy_90 rfl ?_
  refine bs_aload_n dX1_copy_91 rfl ?_
  refine bs_getI dX1_copy_92 fX1_36 (h_p1.s0) ?_
  refine fg_putI dX1_copy_95 pX1_36 (h_f.s0) (h_f.n6) hR h (fun mu7 hR h => ?_)
  refine bs_aload_n dX1_copy_98 rfl ?_
  refine bs_aload_n dX1_copy_99 rfl ?_
  refine bs_getI dX1_copy_100 fX1_40 (h_p1.s0) ?_
  refine fg_putI dX1_copy_103 pX1_40 (h_f.s0) (h_f.n7) hR h (fun mu8 hR h => ?_)
  refine bs_aload_n dX1_copy_106 rfl ?_
  refine bs_aload_n dX1_copy_107 rfl ?_
  refine bs_getI dX1_copy_108 fX1_43 (h_p1.s0) ?_
  refine fg_putI dX1_copy_111 pX1_43 (h_f.s0) (h_f.n8) hR h (fun mu9 hR h => ?_)
  refine bs_aload_n dX1_copy_114 rfl ?_
  refine bs_aload_n dX1_copy_115 rfl ?_
  refine bs_getI dX1_copy_116 fX1_46 (h_p1.s0) ?_
  refine fg_putI dX1_copy_119 pX1_46 (h_f.s0) (h_f.n9) hR h (fun mu10 hR h => ?_)
  cases h
  exact bs_vret dX1_copy_122 rfl (Nat.zero_le _) (Nat.zero_le _) (kr _ rfl hR)
noncomputable def FX11_figure (x : Nat) (mu : bs_Mm) : Option (Int32 × bs_Mm) :=
  fg_bd (FX11_freeFigure x mu) (fun v2 => 
  fg_oq v2 (
    some ((-1), mu)
  ) (fun b3 => fg_gd (fg_isF x b3) (
    fg_b2 (FX2_read x mu (bs_iv (mu (x + 1) 3))) (fun v7 mu6 => 
    if v7 = (-1) then (
      fg_bd (FX1_copy x b3 mu6 (x + 10)) (fun mu9 => 
      fg_wr mu9 (x + 5) 1 (.int (nI 0)) (fun mu10 => 
      fg_wr mu10 x 13 (.int ((bs_iv (mu10 x 13)) + (nI 1))) (fun mu11 => 
      some ((bs_iv (mu10 x 13)), mu11))))
    ) else (
      some ((-1), mu6)
    ))
  )))
set_option maxHeartbeats 4000000 in
theorem wX11_figure {nx : Nat} {sh : bs_Sh} {R : Nat → Nat → Option Nat} {x : Nat} (HX : fg_S (bs_tS x) R x sh) {mu : bs_Mm} (hR : fg_R R mu) {r : Int32 × bs_Mm} (h : FX11_figure x mu = some r) : bs_C mX11_figure (bs_rm 6 0 0) [.ref x] nx sh mu (fg_po R nx sh (some (.int r.1)) r.2) := by
  refine bs_ct (by decide +kernel) (Nat.le_of_ble_eq_true rfl) ?_
  have kr : ∀ q, r = q → fg_R R q.2 → (fg_po R nx sh (some (.int r.1)) r.2) (some (.int q.1)) nx sh q.2 := fun q e hq => by subst e; exact ⟨rfl, rfl, rfl, rfl, hq⟩
  unfold FX11_figure at h
  refine bs_aload_n dX11_figure_0 rfl ?_
  obtain ⟨v2, k1, h⟩ := fg_bdE h
  refine fg_callV dX11_figure_1 qX11_119 (wX11_freeFigure HX hR k1) rfl (HX.s 0 rfl rfl rfl) rfl (Nat.le_of_ble_eq_true rfl) (fg_cr (by first | decide | omega) (by decide)) (fun hR => ?_)
  cases v2 with
  | none =>
    replace h := fg_oq0 h
    refine bs_astoreN_n dX11_figure_4 rfl (by decide) ?_
    refine bs_aloadN_n dX11_figure_5 rfl ?_
    refine bs_ifnullN (tgt := 31) dX11_figure_6 (by decide) ?_
    refine bs_iconst (v := (-1)) dX11_figure_31 (by decide) ?_
    cases h
    exact bs_iret dX11_figure_32 rfl (Nat.zero_le _) (Nat.zero_le _) (kr _ rfl hR)
  | some b3 =>
    replace h := fg_oq1 h
    obtain ⟨g4, h⟩ := fg_gdE h
    have h_b3 := fg_isF_F HX g4
    refine bs_astore_n dX11_figure_4 rfl (by decide) ?_
    refine bs_aload_n dX11_figure_5 rfl ?_
    refine bs_ifnull dX11_figure_6 ?_
    refine bs_aload_n dX11_figure_9 rfl ?_
    refine fg_getR (b := (x + 9)) dX11_figure_10 fX11_38 (HX.s 0 rfl rfl rfl) hR (HX.r 0 4 rfl rfl rfl) ?_
    refine bs_aload_n dX11_figure_13 rfl ?_
    refine fg_getR (b := (x + 5)) dX11_figure_14 fX11_19 (HX.s 0 rfl rfl rfl) hR (HX.r 0 1 rfl rfl rfl) ?_
    refine bs_aload_n dX11_figure_17 rfl ?_
    refine fg_getR (b := (x + 1)) dX11_figure_18 fX11_12 (HX.s 0 rfl rfl rfl) hR (HX.r 0 0 rfl rfl rfl) ?_
    refine bs_getI dX11_figure_21 fX11_109 (HX.s 1 rfl rfl rfl) ?_
    obtain ⟨v7, mu6, k5, h⟩ := fg_b2E h
    refine fg_callV dX11_figure_24 qX11_112 (wX2_read HX hR k5) rfl (HX.s 9 rfl rfl rfl) rfl (Nat.le_of_ble_eq_true rfl) (fg_cr (by first | decide | omega) (by decide)) (fun hR => ?_)
    refine bs_iconst (v := (-1)) dX11_figure_27 (by decide) ?_
    refine bs_icmp_eq (tgt := 33) dX11_figure_28 (by decide) (fun c => ?_) (fun c => ?_)
    · replace h := fg_ip c h
      refine bs_aload_n dX11_figure_33 rfl ?_
      refine bs_aload_n dX11_figure_34 rfl ?_
      refine fg_getR (b := (x + 9)) dX11_figure_35 fX11_38 (HX.s 0 rfl rfl rfl) hR (HX.r 0 4 rfl rfl rfl) ?_
      refine fg_getR (b := (x + 10)) dX11_figure_38 fX11_123 (HX.s 9 rfl rfl rfl) hR (HX.r 9 0 rfl rfl rfl) ?_
      obtain ⟨mu9, k8, h⟩ := fg_bdE h
      refine fg_callVv dX11_figure_41 qX11_127 (wX1_copy HX h_b3 (fg_Fd HX) hR k8) rfl (h_b3.s0) rfl (Nat.le_of_ble_eq_true rfl) (fg_cr (by first | decide | omega) (by decide)) (fun hR => ?_)
      refine bs_aload_n dX11_figure_44 rfl ?_
      refine fg_getR (b := (x + 5)) dX11_figure_45 fX11_19 (HX.s 0 rfl rfl rfl) hR (HX.r 0 1 rfl rfl rfl) ?_
      refine bs_iconst (v := (nI 0)) dX11_figure_48 (by decide) ?_
      refine fg_putI dX11_figure_49 pX11_101 (HX.s 5 rfl rfl rfl) (HX.n 5 1 rfl rfl rfl) hR h (fun mu10 hR h => ?_)
      refine bs_aload_n dX11_figure_52 rfl ?_
      refine bs_dup dX11_figure_53 rfl ?_
      refine bs_getI dX11_figure_54 fX11_131 (HX.s 0 rfl rfl rfl) ?_
      refine bs_dup_x1 dX11_figure_57 rfl rfl ?_
      refine bs_iconst (v := (nI 1)) dX11_figure_58 (by decide) ?_
      refine bs_iadd dX11_figure_59 ?_
      refine fg_putI dX11_figure_60 pX11_131 (HX.s 0 rfl rfl rfl) (HX.n 0 13 rfl rfl rfl) hR h (fun mu11 hR h => ?_)
      cases h
      exact bs_iret dX11_figure_63 rfl (Nat.zero_le _) (Nat.zero_le _) (kr _ rfl hR)
    · replace h := fg_iN c h
      refine bs_iconst (v := (-1)) dX11_figure_31 (by decide) ?_
      cases h
      exact bs_iret dX11_figure_32 rfl (Nat.zero_le _) (Nat.zero_le _) (kr _ rfl hR)
noncomputable def FX11_guest (x : Nat) (mu : bs_Mm) (p1 : Int32) (p2 : Int32) : Option (Int32) :=
  if p1 < 0 then (
    none
  ) else (
    if p1 < (bs_iv (mu (x + 50) 4)) then (
      if p2 = (nI 0) then (
        fg_gd (fg_in p1 30) (
        some ((bs_iv (mu (x + 52) p1.toNatClampNeg))))
      ) else (
      if p2 = (nI 1) then (
        fg_gd (fg_in p1 30) (
        some ((bs_iv (mu (x + 53) p1.toNatClampNeg))))
      ) else (
      if p2 = (nI 2) then (
        fg_gd (fg_in p1 30) (
        some ((bs_iv (mu (x + 54) p1.toNatClampNeg))))
      ) else (
      if p2 = (nI 3) then (
        fg_gd (fg_in p1 30) (
        some ((bs_iv (mu (x + 55) p1.toNatClampNeg))))
      ) else (
      none
      ))))
    ) else (
      none
    )
  )
set_option maxHeartbeats 4000000 in
theorem wX11_guest {nx : Nat} {sh : bs_Sh} {R : Nat → Nat → Option Nat} {x : Nat} (HX : fg_S (bs_tS x) R x sh) {mu : bs_Mm} (hR : fg_R R mu) {p1 : Int32} {p2 : Int32} {r : Int32} (h : FX11_guest x mu p1 p2 = some r) : bs_C mX11_guest (bs_rm 0 0 0) [.ref x, .int p1, .int p2] nx sh mu (fg_po R nx sh (some (.int r)) mu) := by
  refine bs_ct (by decide +kernel) (Nat.le_of_ble_eq_true rfl) ?_
  have kr : ∀ q, r = q → fg_R R mu → (fg_po R nx sh (some (.int r)) mu) (some (.int q)) nx sh mu := fun q e hq => by subst e; exact ⟨rfl, rfl, rfl, rfl, hq⟩
  unfold FX11_guest at h
  refine bs_iload_n dX11_guest_0 rfl ?_
  refine bs_if_lt (tgt := 15) dX11_guest_1 (by decide) (fun c => ?_) (fun c => ?_)
  · replace h := fg_ip c h
    cases h
  · replace h := fg_iN c h
    refine bs_iload_n dX11_guest_4 rfl ?_
    refine bs_aload_n dX11_guest_5 rfl ?_
    refine fg_getR (b := (x + 50)) dX11_guest_6 fX11_80 (HX.s 0 rfl rfl rfl) hR (HX.r 0 10 rfl rfl rfl) ?_
    refine bs_getI dX11_guest_9 fX11_312 (HX.s 50 rfl rfl rfl) ?_
    refine bs_icmp_lt (tgt := 26) dX11_guest_12 (by decide) (fun c => ?_) (fun c => ?_)
    · replace h := fg_ip c h
      refine bs_iload_n dX11_guest_26 rfl ?_
      by_cases e1 : p2 = (nI 0)
      · replace h := fg_ip e1 h
        refine bs_tableIn (off := 29) (tgt := 56) dX11_guest_27 (by rw [e1]; decide) (by rw [e1]; decide) (by rw [e1]; decide) (by decide) ?_
        refine bs_aload_n dX11_guest_56 rfl ?_
        refine fg_getR (b := (x + 50)) dX11_guest_57 fX11_80 (HX.s 0 rfl rfl rfl) hR (HX.r 0 10 rfl rfl rfl) ?_
        refine fg_getR (b := (x + 52)) dX11_guest_60 fX11_317 (HX.s 50 rfl rfl rfl) hR (HX.r 50 5 rfl rfl rfl) ?_
        refine bs_iload_n dX11_guest_63 rfl ?_
        obtain ⟨g2, h⟩ := fg_gdE h
        refine bs_iald dX11_guest_64 (HX.ss 52 rfl rfl) (fg_in_ix g2) ?_
        cases h
        exact bs_iret dX11_guest_65 rfl (Nat.zero_le _) (Nat.zero_le _) (kr _ rfl hR)
      · replace h := fg_iN e1 h
        by_cases e3 : p2 = (nI 1)
        · replace h := fg_ip e3 h
          refine bs_tableIn (off := 39) (tgt := 66) dX11_guest_27 (by rw [e3]; decide) (by rw [e3]; decide) (by rw [e3]; decide) (by decide) ?_
          refine bs_aload_n dX11_guest_66 rfl ?_
          refine fg_getR (b := (x + 50)) dX11_guest_67 fX11_80 (HX.s 0 rfl rfl rfl) hR (HX.r 0 10 rfl rfl rfl) ?_
          refine fg_getR (b := (x + 53)) dX11_guest_70 fX11_320 (HX.s 50 rfl rfl rfl) hR (HX.r 50 6 rfl rfl rfl) ?_
          refine bs_iload_n dX11_guest_73 rfl ?_
          obtain ⟨g4, h⟩ := fg_gdE h
          refine bs_iald dX11_guest_74 (HX.ss 53 rfl rfl) (fg_in_ix g4) ?_
          cases h
          exact bs_iret dX11_guest_75 rfl (Nat.zero_le _) (Nat.zero_le _) (kr _ rfl hR)
        · replace h := fg_iN e3 h
          by_cases e5 : p2 = (nI 2)
          · replace h := fg_ip e5 h
            refine bs_tableIn (off := 49) (tgt := 76) dX11_guest_27 (by rw [e5]; decide) (by rw [e5]; decide) (by rw [e5]; decide) (by decide) ?_
            refine bs_aload_n dX11_guest_76 rfl ?_
            refine fg_getR (b := (x + 50)) dX11_guest_77 fX11_80 (HX.s 0 rfl rfl rfl) hR (HX.r 0 10 rfl rfl rfl) ?_
            refine fg_getR (b := (x + 54)) dX11_guest_80 fX11_323 (HX.s 50 rfl rfl rfl) hR (HX.r 50 7 rfl rfl rfl) ?_
            refine bs_iload_n dX11_guest_83 rfl ?_
            obtain ⟨g6, h⟩ := fg_gdE h
            refine bs_iald dX11_guest_84 (HX.ss 54 rfl rfl) (fg_in_ix g6) ?_
            cases h
            exact bs_iret dX11_guest_85 rfl (Nat.zero_le _) (Nat.zero_le _) (kr _ rfl hR)
          · replace h := fg_iN e5 h
            by_cases e7 : p2 = (nI 3)
            · replace h := fg_ip e7 h
              refine bs_tableIn (off := 59) (tgt := 86) dX11_guest_27 (by rw [e7]; decide) (by rw [e7]; decide) (by rw [e7]; decide) (by decide) ?_
              refine bs_aload_n dX11_guest_86 rfl ?_
              refine fg_getR (b := (x + 50)) dX11_guest_87 fX11_80 (HX.s 0 rfl rfl rfl) hR (HX.r 0 10 rfl rfl rfl) ?_
              refine fg_getR (b := (x + 55)) dX11_guest_90 fX11_326 (HX.s 50 rfl rfl rfl) hR (HX.r 50 8 rfl rfl rfl) ?_
              refine bs_iload_n dX11_guest_93 rfl ?_
              obtain ⟨g8, h⟩ := fg_gdE h
              refine bs_iald dX11_guest_94 (HX.ss 55 rfl rfl) (fg_in_ix g8) ?_
              cases h
              exact bs_iret dX11_guest_95 rfl (Nat.zero_le _) (Nat.zero_le _) (kr _ rfl hR)
            · replace h := fg_iN e7 h
              refine fg_tabD (b := 0) (tgt := 96) (sp := [0, 1, 2, 3]) dX11_guest_27 (by decide) (by decide) (by decide) ?_ (by decide) ?_
              · intro k hk; simp only [List.mem_cons, List.not_mem_nil, or_false] at hk; rcases hk with rfl | rfl | rfl | rfl <;> assumption
              · cases h
    · replace h := fg_iN c h
      cases h
noncomputable def FX11_hands (x : Nat) (mu : bs_Mm) (p1 : Int32) : Option (Int32) :=
  fg_bd (FX11_figureAt x mu p1) (fun v2 => 
  fg_oq v2 (
    some ((-1))
  ) (fun b3 => fg_gd (fg_isF x b3) (
    some ((bs_iv (mu b3 9)))
  )))
set_option maxHeartbeats 4000000 in
theorem wX11_hands {nx : Nat} {sh : bs_Sh} {R : Nat → Nat → Option Nat} {x : Nat} (HX : fg_S (bs_tS x) R x sh) {mu : bs_Mm} (hR : fg_R R mu) {p1 : Int32} {r : Int32} (h : FX11_hands x mu p1 = some r) : bs_C mX11_hands (bs_rm 1 0 0) [.ref x, .int p1] nx sh mu (fg_po R nx sh (some (.int r)) mu) := by
  refine bs_ct (by decide +kernel) (Nat.le_of_ble_eq_true rfl) ?_
  have kr : ∀ q, r = q → fg_R R mu → (fg_po R nx sh (some (.int r)) mu) (some (.int q)) nx sh mu := fun q e hq => by subst e; exact ⟨rfl, rfl, rfl, rfl, hq⟩
  unfold FX11_hands at h
  refine bs_aload_n dX11_hands_0 rfl ?_
  refine bs_iload_n dX11_hands_1 rfl ?_
  obtain ⟨v2, k1, h⟩ := fg_bdE h
  refine fg_callV dX11_hands_2 qX11_143 (wX11_figureAt HX hR k1) rfl (HX.s 0 rfl rfl rfl) rfl (Nat.le_of_ble_eq_true rfl) (fg_cr (by first | decide | omega) (by decide)) (fun hR => ?_)
  cases v2 with
  | none =>
    replace h := fg_oq0 h
    refine bs_astoreN_n dX11_hands_5 rfl (by decide) ?_
    refine bs_aloadN_n dX11_hands_6 rfl ?_
    refine bs_ifnonnullN dX11_hands_7 ?_
    refine bs_iconst (v := (-1)) dX11_hands_10 (by decide) ?_
    refine bs_goto (tgt := 18) dX11_hands_11 (by decide) ?_
    cases h
    exact bs_iret dX11_hands_18 rfl (Nat.zero_le _) (Nat.zero_le _) (kr _ rfl hR)
  | some b3 =>
    replace h := fg_oq1 h
    obtain ⟨g4, h⟩ := fg_gdE h
    have h_b3 := fg_isF_F HX g4
    refine bs_astore_n dX11_hands_5 rfl (by decide) ?_
    refine bs_aload_n dX11_hands_6 rfl ?_
    refine bs_ifnonnull (tgt := 14) dX11_hands_7 (by decide) ?_
    refine bs_aload_n dX11_hands_14 rfl ?_
    refine bs_getI dX11_hands_15 fX11_225 (h_b3.s0) ?_
    cases h
    exact bs_iret dX11_hands_18 rfl (Nat.zero_le _) (Nat.zero_le _) (kr _ rfl hR)
noncomputable def FX1_slackBehind (x : Nat) (f : Nat) (mu : bs_Mm) (p1 : Int32) : Option (Int32) :=
  fg_bd (FX1_twistBehind x f mu p1) (fun v2 => 
  if v2 = 0 then (
    some ((nI 0))
  ) else (
    fg_gd (fg_in p1 24) (
    fg_gd (fg_in (bs_iv (mu (f + 4) p1.toNatClampNeg)) 30) (
    if (nI 3) ≤ (bs_iv (mu (f + 6) (bs_iv (mu (f + 4) p1.toNatClampNeg)).toNatClampNeg)) then (
      some ((nI 0))
    ) else (
      some ((nI 1))
    )))
  ))
set_option maxHeartbeats 4000000 in
theorem wX1_slackBehind {nx : Nat} {sh : bs_Sh} {R : Nat → Nat → Option Nat} {x : Nat} (HX : fg_S (bs_tS x) R x sh) {f : Nat} (h_f : fg_F R sh f) {mu : bs_Mm} (hR : fg_R R mu) {p1 : Int32} {r : Int32} (h : FX1_slackBehind x f mu p1 = some r) : bs_C mX1_slackBehind (bs_rm 1 0 0) [.ref f, .int p1] nx sh mu (fg_po R nx sh (some (.int r)) mu) := by
  refine bs_ct (by decide +kernel) (Nat.le_of_ble_eq_true rfl) ?_
  have kr : ∀ q, r = q → fg_R R mu → (fg_po R nx sh (some (.int r)) mu) (some (.int q)) nx sh mu := fun q e hq => by subst e; exact ⟨rfl, rfl, rfl, rfl, hq⟩
  unfold FX1_slackBehind at h
  refine bs_aload_n dX1_slackBehind_0 rfl ?_
  refine bs_iload_n dX1_slackBehind_1 rfl ?_
  obtain ⟨v2, k1, h⟩ := fg_bdE h
  refine fg_callV dX1_slackBehind_2 qX1_65 (wX1_twistBehind HX h_f hR k1) rfl (h_f.s0) rfl (Nat.le_of_ble_eq_true rfl) (fg_cr (by first | decide | omega) (by decide)) (fun hR => ?_)
  refine bs_if_eq (tgt := 27) dX1_slackBehind_5 (by decide) (fun c => ?_) (fun c => ?_)
  · replace h := fg_ip c h
    refine bs_iconst (v := (nI 0)) dX1_slackBehind_27 (by decide) ?_
    cases h
    exact bs_zret dX1_slackBehind_28 rfl (Or.inl rfl) (Nat.zero_le _) (Nat.zero_le _) (kr _ rfl hR)
  · replace h := fg_iN c h
    refine bs_aload_n dX1_slackBehind_8 rfl ?_
    refine fg_getR (b := (f + 6)) dX1_slackBehind_9 fX1_27 (h_f.s0) hR (h_f.r5) ?_
    refine bs_aload_n dX1_slackBehind_12 rfl ?_
    refine fg_getR (b := (f + 4)) dX1_slackBehind_13 fX1_21 (h_f.s0) hR (h_f.r3) ?_
    refine bs_iload_n dX1_slackBehind_16 rfl ?_
    obtain ⟨g3, h⟩ := fg_gdE h
    refine bs_iald dX1_slackBehind_17 (h_f.s4) (fg_in_ix g3) ?_
    obtain ⟨g4, h⟩ := fg_gdE h
    refine bs_iald dX1_slackBehind_18 (h_f.s6) (fg_in_ix g4) ?_
    refine bs_iconst (v := (nI 3)) dX1_slackBehind_19 (by decide) ?_
    refine bs_icmp_ge (tgt := 27) dX1_slackBehind_20 (by decide) (fun c => ?_) (fun c => ?_)
    · replace h := fg_ip c h
      refine bs_iconst (v := (nI 0)) dX1_slackBehind_27 (by decide) ?_
      cases h
      exact bs_zret dX1_slackBehind_28 rfl (Or.inl rfl) (Nat.zero_le _) (Nat.zero_le _) (kr _ rfl hR)
    · replace h := fg_iN c h
      refine bs_iconst (v := (nI 1)) dX1_slackBehind_23 (by decide) ?_
      refine bs_goto (tgt := 28) dX1_slackBehind_24 (by decide) ?_
      cases h
      exact bs_zret dX1_slackBehind_28 rfl (Or.inr rfl) (Nat.zero_le _) (Nat.zero_le _) (kr _ rfl hR)
noncomputable def FX11_holds (x : Nat) (mu : bs_Mm) (p1 : Int32) (p2 : Int32) : Option (Int32) :=
  fg_bd (FX11_figureAt x mu p1) (fun v2 => 
  fg_oq v2 (
    some ((-1))
  ) (fun b3 => fg_gd (fg_isF x b3) (
    fg_bd (FX1_hasBubble x b3 mu p2) (fun v6 => 
    if v6 = 0 then (
      some ((-1))
    ) else (
      fg_bd (FX1_twistBehind x b3 mu p2) (fun v8 => 
      if v8 = 0 then (
        some ((-1))
      ) else (
        fg_bd (FX1_slackBehind x b3 mu p2) (fun v10 => 
        if v10 = 0 then (
          some ((nI 1))
        ) else (
          some ((nI 0))
        ))
      ))
    ))
  )))
set_option maxHeartbeats 4000000 in
theorem wX11_holds {nx : Nat} {sh : bs_Sh} {R : Nat → Nat → Option Nat} {x : Nat} (HX : fg_S (bs_tS x) R x sh) {mu : bs_Mm} (hR : fg_R R mu) {p1 : Int32} {p2 : Int32} {r : Int32} (h : FX11_holds x mu p1 p2 = some r) : bs_C mX11_holds (bs_rm 2 0 0) [.ref x, .int p1, .int p2] nx sh mu (fg_po R nx sh (some (.int r)) mu) := by
  refine bs_ct (by decide +kernel) (Nat.le_of_ble_eq_true rfl) ?_
  have kr : ∀ q, r = q → fg_R R mu → (fg_po R nx sh (some (.int r)) mu) (some (.int q)) nx sh mu := fun q e hq => by subst e; exact ⟨rfl, rfl, rfl, rfl, hq⟩
  unfold FX11_holds at h
  refine bs_aload_n dX11_holds_0 rfl ?_
  refine bs_iload_n dX11_holds_1 rfl ?_
  obtain ⟨v2, k1, h⟩ := fg_bdE h
  refine fg_callV dX11_holds_2 qX11_143 (wX11_figureAt HX hR k1) rfl (HX.s 0 rfl rfl rfl) rfl (Nat.le_of_ble_eq_true rfl) (fg_cr (by first | decide | omega) (by decide)) (fun hR => ?_)
  cases v2 with
  | none =>
    replace h := fg_oq0 h
    refine bs_astoreN_n dX11_holds_5 rfl (by decide) ?_
    refine bs_aloadN_n dX11_holds_6 rfl ?_
    refine bs_ifnullN (tgt := 26) dX11_holds_7 (by decide) ?_
    refine bs_iconst (v := (-1)) dX11_holds_26 (by decide) ?_
    cases h
    exact bs_iret dX11_holds_27 rfl (Nat.zero_le _) (Nat.zero_le _) (kr _ rfl hR)
  | some b3 =>
    replace h := fg_oq1 h
    obtain ⟨g4, h⟩ := fg_gdE h
    have h_b3 := fg_isF_F HX g4
    refine bs_astore_n dX11_holds_5 rfl (by decide) ?_
    refine bs_aload_n dX11_holds_6 rfl ?_
    refine bs_ifnull dX11_holds_7 ?_
    refine bs_aload_n dX11_holds_10 rfl ?_
    refine bs_iload_n dX11_holds_11 rfl ?_
    obtain ⟨v6, k5, h⟩ := fg_bdE h
    refine fg_callV dX11_holds_12 qX11_171 (wX1_hasBubble HX h_b3 hR k5) rfl (h_b3.s0) rfl (Nat.le_of_ble_eq_true rfl) (fg_cr (by first | decide | omega) (by decide)) (fun hR => ?_)
    refine bs_if_eq (tgt := 26) dX11_holds_15 (by decide) (fun c => ?_) (fun c => ?_)
    · replace h := fg_ip c h
      refine bs_iconst (v := (-1)) dX11_holds_26 (by decide) ?_
      cases h
      exact bs_iret dX11_holds_27 rfl (Nat.zero_le _) (Nat.zero_le _) (kr _ rfl hR)
    · replace h := fg_iN c h
      refine bs_aload_n dX11_holds_18 rfl ?_
      refine bs_iload_n dX11_holds_19 rfl ?_
      obtain ⟨v8, k7, h⟩ := fg_bdE h
      refine fg_callV dX11_holds_20 qX11_228 (wX1_twistBehind HX h_b3 hR k7) rfl (h_b3.s0) rfl (Nat.le_of_ble_eq_true rfl) (fg_cr (by first | decide | omega) (by decide)) (fun hR => ?_)
      refine bs_if_ne (tgt := 28) dX11_holds_23 (by decide) (fun c => ?_) (fun c => ?_)
      · replace h := fg_iN c h
        refine bs_aload_n dX11_holds_28 rfl ?_
        refine bs_iload_n dX11_holds_29 rfl ?_
        obtain ⟨v10, k9, h⟩ := fg_bdE h
        refine fg_callV dX11_holds_30 qX11_231 (wX1_slackBehind HX h_b3 hR k9) rfl (h_b3.s0) rfl (Nat.le_of_ble_eq_true rfl) (fg_cr (by first | decide | omega) (by decide)) (fun hR => ?_)
        refine bs_if_eq (tgt := 40) dX11_holds_33 (by decide) (fun c => ?_) (fun c => ?_)
        · replace h := fg_ip c h
          refine bs_iconst (v := (nI 1)) dX11_holds_40 (by decide) ?_
          cases h
          exact bs_iret dX11_holds_41 rfl (Nat.zero_le _) (Nat.zero_le _) (kr _ rfl hR)
        · replace h := fg_iN c h
          refine bs_iconst (v := (nI 0)) dX11_holds_36 (by decide) ?_
          refine bs_goto (tgt := 41) dX11_holds_37 (by decide) ?_
          cases h
          exact bs_iret dX11_holds_41 rfl (Nat.zero_le _) (Nat.zero_le _) (kr _ rfl hR)
      · replace h := fg_ip c h
        refine bs_iconst (v := (-1)) dX11_holds_26 (by decide) ?_
        cases h
        exact bs_iret dX11_holds_27 rfl (Nat.zero_le _) (Nat.zero_le _) (kr _ rfl hR)
