noncomputable def FX12_both (m : Nat) (mu : bs_Mm) (p0 : Int32) (p1 : Int64) (p3 : Int64) : Option (Int64) :=
  if p0 = (nI 38) then (
    if (lg_cmp (p1 + p3) (2 : Int64)) = 0 then (
      some ((1 : Int64))
    ) else (
      some ((0 : Int64))
    )
  ) else (
  if p0 = (nI 42) then (
    fg_bd (FX12_within m mu (p1 * p3)) (fun v4 => 
    some (v4))
  ) else (
  if p0 = (nI 43) then (
    fg_bd (FX12_within m mu (p1 + p3)) (fun v7 => 
    some (v7))
  ) else (
  if p0 = (nI 45) then (
    fg_bd (FX12_within m mu (p1 - p3)) (fun v10 => 
    some (v10))
  ) else (
  if p0 = (nI 47) then (
    if (lg_cmp p3 (0 : Int64)) = 0 then (
      some ((0 : Int64))
    ) else (
      fg_gd (decide (¬ p3 = 0)) (
      fg_bd (FX12_within m mu (p1 / p3)) (fun v14 => 
      some (v14)))
    )
  ) else (
  if p0 = (nI 60) then (
    if 0 ≤ (lg_cmp p1 p3) then (
      some ((0 : Int64))
    ) else (
      some ((1 : Int64))
    )
  ) else (
  if p0 = (nI 61) then (
    if (lg_cmp p1 p3) = 0 then (
      some ((1 : Int64))
    ) else (
      some ((0 : Int64))
    )
  ) else (
  if p0 = (nI 62) then (
    if (lg_cmp p1 p3) ≤ 0 then (
      some ((0 : Int64))
    ) else (
      some ((1 : Int64))
    )
  ) else (
  if (lg_cmp (p1 + p3) (0 : Int64)) ≤ 0 then (
    some ((0 : Int64))
  ) else (
    some ((1 : Int64))
  )
  ))))))))
set_option maxHeartbeats 4000000 in
theorem wX12_both {nx : Nat} {sh : bs_Sh} {R : Nat → Nat → Option Nat} {m : Nat} (HM : fg_S (bs_tM m) R m sh) {mu : bs_Mm} (hR : fg_R R mu) {p0 : Int32} {p1 : Int64} {p3 : Int64} {r : Int64} (h : FX12_both m mu p0 p1 p3 = some r) : bs_C mX12_both (bs_rm 2 0 0) [.int p0, .long p1, .long p3] nx sh mu (fg_po R nx sh (some (.long r)) mu) := by
  refine bs_ct (by decide +kernel) (Nat.le_of_ble_eq_true rfl) ?_
  have kr : ∀ q, r = q → fg_R R mu → (fg_po R nx sh (some (.long r)) mu) (some (.long q)) nx sh mu := fun q e hq => by subst e; exact ⟨rfl, rfl, rfl, rfl, hq⟩
  unfold FX12_both at h
  refine bs_iload_n dX12_both_0 rfl ?_
  by_cases e1 : p0 = (nI 38)
  · replace h := fg_ip e1 h
    refine bs_tableIn (off := 189) (tgt := 190) dX12_both_1 (by rw [e1]; decide) (by rw [e1]; decide) (by rw [e1]; decide) (by decide) ?_
    refine bs_lload_n dX12_both_190 rfl ?_
    refine bs_lload_n dX12_both_191 rfl ?_
    refine bs_ladd dX12_both_192 ?_
    refine bs_ldc2 (v := (2)) dX12_both_193 cX12_271 ?_
    refine bs_lcmp dX12_both_196 ?_
    refine bs_if_ne (tgt := 204) dX12_both_197 (by decide) (fun c => ?_) (fun c => ?_)
    · replace h := fg_iN c h
      refine bs_lconst (v := 0) dX12_both_204 (by decide) ?_
      cases h
      exact bs_lret dX12_both_205 rfl (Nat.zero_le _) (Nat.zero_le _) (kr _ rfl hR)
    · replace h := fg_ip c h
      refine bs_lconst (v := 1) dX12_both_200 (by decide) ?_
      refine bs_goto (tgt := 205) dX12_both_201 (by decide) ?_
      cases h
      exact bs_lret dX12_both_205 rfl (Nat.zero_le _) (Nat.zero_le _) (kr _ rfl hR)
  · replace h := fg_iN e1 h
    by_cases e2 : p0 = (nI 42)
    · replace h := fg_ip e2 h
      refine bs_tableIn (off := 129) (tgt := 130) dX12_both_1 (by rw [e2]; decide) (by rw [e2]; decide) (by rw [e2]; decide) (by decide) ?_
      refine bs_lload_n dX12_both_130 rfl ?_
      refine bs_lload_n dX12_both_131 rfl ?_
      refine bs_lmul dX12_both_132 ?_
      obtain ⟨v4, k3, h⟩ := fg_bdE h
      refine fg_callS dX12_both_133 qX12_267 (wX12_within HM hR k3) rfl rfl (Nat.le_of_ble_eq_true rfl) (fg_cr (by first | decide | omega) (by decide)) (fun hR => ?_)
      cases h
      exact bs_lret dX12_both_136 rfl (Nat.zero_le _) (Nat.zero_le _) (kr _ rfl hR)
    · replace h := fg_iN e2 h
      by_cases e5 : p0 = (nI 43)
      · replace h := fg_ip e5 h
        refine bs_tableIn (off := 115) (tgt := 116) dX12_both_1 (by rw [e5]; decide) (by rw [e5]; decide) (by rw [e5]; decide) (by decide) ?_
        refine bs_lload_n dX12_both_116 rfl ?_
        refine bs_lload_n dX12_both_117 rfl ?_
        refine bs_ladd dX12_both_118 ?_
        obtain ⟨v7, k6, h⟩ := fg_bdE h
        refine fg_callS dX12_both_119 qX12_267 (wX12_within HM hR k6) rfl rfl (Nat.le_of_ble_eq_true rfl) (fg_cr (by first | decide | omega) (by decide)) (fun hR => ?_)
        cases h
        exact bs_lret dX12_both_122 rfl (Nat.zero_le _) (Nat.zero_le _) (kr _ rfl hR)
      · replace h := fg_iN e5 h
        by_cases e8 : p0 = (nI 45)
        · replace h := fg_ip e8 h
          refine bs_tableIn (off := 122) (tgt := 123) dX12_both_1 (by rw [e8]; decide) (by rw [e8]; decide) (by rw [e8]; decide) (by decide) ?_
          refine bs_lload_n dX12_both_123 rfl ?_
          refine bs_lload_n dX12_both_124 rfl ?_
          refine bs_lsub dX12_both_125 ?_
          obtain ⟨v10, k9, h⟩ := fg_bdE h
          refine fg_callS dX12_both_126 qX12_267 (wX12_within HM hR k9) rfl rfl (Nat.le_of_ble_eq_true rfl) (fg_cr (by first | decide | omega) (by decide)) (fun hR => ?_)
          cases h
          exact bs_lret dX12_both_129 rfl (Nat.zero_le _) (Nat.zero_le _) (kr _ rfl hR)
        · replace h := fg_iN e8 h
          by_cases e11 : p0 = (nI 47)
          · replace h := fg_ip e11 h
            refine bs_tableIn (off := 136) (tgt := 137) dX12_both_1 (by rw [e11]; decide) (by rw [e11]; decide) (by rw [e11]; decide) (by decide) ?_
            refine bs_lload_n dX12_both_137 rfl ?_
            refine bs_lconst (v := 0) dX12_both_138 (by decide) ?_
            refine bs_lcmp dX12_both_139 ?_
            refine bs_if_ne (tgt := 147) dX12_both_140 (by decide) (fun c => ?_) (fun c => ?_)
            · replace h := fg_iN c h
              refine bs_lload_n dX12_both_147 rfl ?_
              refine bs_lload_n dX12_both_148 rfl ?_
              obtain ⟨g12, h⟩ := fg_gdE h
              refine bs_ldiv dX12_both_149 (of_decide_eq_true g12) ?_
              obtain ⟨v14, k13, h⟩ := fg_bdE h
              refine fg_callS dX12_both_150 qX12_267 (wX12_within HM hR k13) rfl rfl (Nat.le_of_ble_eq_true rfl) (fg_cr (by first | decide | omega) (by decide)) (fun hR => ?_)
              cases h
              exact bs_lret dX12_both_153 rfl (Nat.zero_le _) (Nat.zero_le _) (kr _ rfl hR)
            · replace h := fg_ip c h
              refine bs_lconst (v := 0) dX12_both_143 (by decide) ?_
              refine bs_goto (tgt := 153) dX12_both_144 (by decide) ?_
              cases h
              exact bs_lret dX12_both_153 rfl (Nat.zero_le _) (Nat.zero_le _) (kr _ rfl hR)
          · replace h := fg_iN e11 h
            by_cases e15 : p0 = (nI 60)
            · replace h := fg_ip e15 h
              refine bs_tableIn (off := 165) (tgt := 166) dX12_both_1 (by rw [e15]; decide) (by rw [e15]; decide) (by rw [e15]; decide) (by decide) ?_
              refine bs_lload_n dX12_both_166 rfl ?_
              refine bs_lload_n dX12_both_167 rfl ?_
              refine bs_lcmp dX12_both_168 ?_
              refine bs_if_ge (tgt := 176) dX12_both_169 (by decide) (fun c => ?_) (fun c => ?_)
              · replace h := fg_ip c h
                refine bs_lconst (v := 0) dX12_both_176 (by decide) ?_
                cases h
                exact bs_lret dX12_both_177 rfl (Nat.zero_le _) (Nat.zero_le _) (kr _ rfl hR)
              · replace h := fg_iN c h
                refine bs_lconst (v := 1) dX12_both_172 (by decide) ?_
                refine bs_goto (tgt := 177) dX12_both_173 (by decide) ?_
                cases h
                exact bs_lret dX12_both_177 rfl (Nat.zero_le _) (Nat.zero_le _) (kr _ rfl hR)
            · replace h := fg_iN e15 h
              by_cases e16 : p0 = (nI 61)
              · replace h := fg_ip e16 h
                refine bs_tableIn (off := 153) (tgt := 154) dX12_both_1 (by rw [e16]; decide) (by rw [e16]; decide) (by rw [e16]; decide) (by decide) ?_
                refine bs_lload_n dX12_both_154 rfl ?_
                refine bs_lload_n dX12_both_155 rfl ?_
                refine bs_lcmp dX12_both_156 ?_
                refine bs_if_ne (tgt := 164) dX12_both_157 (by decide) (fun c => ?_) (fun c => ?_)
                · replace h := fg_iN c h
                  refine bs_lconst (v := 0) dX12_both_164 (by decide) ?_
                  cases h
                  exact bs_lret dX12_both_165 rfl (Nat.zero_le _) (Nat.zero_le _) (kr _ rfl hR)
                · replace h := fg_ip c h
                  refine bs_lconst (v := 1) dX12_both_160 (by decide) ?_
                  refine bs_goto (tgt := 165) dX12_both_161 (by decide) ?_
                  cases h
                  exact bs_lret dX12_both_165 rfl (Nat.zero_le _) (Nat.zero_le _) (kr _ rfl hR)
              · replace h := fg_iN e16 h
                by_cases e17 : p0 = (nI 62)
                · replace h := fg_ip e17 h
                  refine bs_tableIn (off := 177) (tgt := 178) dX12_both_1 (by rw [e17]; decide) (by rw [e17]; decide) (by rw [e17]; decide) (by decide) ?_
                  refine bs_lload_n dX12_both_178 rfl ?_
                  refine bs_lload_n dX12_both_179 rfl ?_
                  refine bs_lcmp dX12_both_180 ?_
                  refine bs_if_le (tgt := 188) dX12_both_181 (by decide) (fun c => ?_) (fun c => ?_)
                  · replace h := fg_ip c h
                    refine bs_lconst (v := 0) dX12_both_188 (by decide) ?_
                    cases h
                    exact bs_lret dX12_both_189 rfl (Nat.zero_le _) (Nat.zero_le _) (kr _ rfl hR)
                  · replace h := fg_iN c h
                    refine bs_lconst (v := 1) dX12_both_184 (by decide) ?_
                    refine bs_goto (tgt := 189) dX12_both_185 (by decide) ?_
                    cases h
                    exact bs_lret dX12_both_189 rfl (Nat.zero_le _) (Nat.zero_le _) (kr _ rfl hR)
                · replace h := fg_iN e17 h
                  refine fg_tabD (b := 38) (tgt := 206) (sp := [38, 42, 43, 45, 47, 60, 61, 62]) dX12_both_1 (by decide) (by decide) (by decide) ?_ (by decide) ?_
                  · intro k hk; simp only [List.mem_cons, List.not_mem_nil, or_false] at hk; rcases hk with rfl | rfl | rfl | rfl | rfl | rfl | rfl | rfl <;> assumption
                  · refine bs_lload_n dX12_both_206 rfl ?_
                    refine bs_lload_n dX12_both_207 rfl ?_
                    refine bs_ladd dX12_both_208 ?_
                    refine bs_lconst (v := 0) dX12_both_209 (by decide) ?_
                    refine bs_lcmp dX12_both_210 ?_
                    refine bs_if_le (tgt := 218) dX12_both_211 (by decide) (fun c => ?_) (fun c => ?_)
                    · replace h := fg_ip c h
                      refine bs_lconst (v := 0) dX12_both_218 (by decide) ?_
                      cases h
                      exact bs_lret dX12_both_219 rfl (Nat.zero_le _) (Nat.zero_le _) (kr _ rfl hR)
                    · replace h := fg_iN c h
                      refine bs_lconst (v := 1) dX12_both_214 (by decide) ?_
                      refine bs_goto (tgt := 219) dX12_both_215 (by decide) ?_
                      cases h
                      exact bs_lret dX12_both_219 rfl (Nat.zero_le _) (Nat.zero_le _) (kr _ rfl hR)
noncomputable def FX12_work_b12 (m : Nat)  (l1 : Int32) (l2 : Int32) (l3 : Int32) (l4 : Int32) (l5 : Int32) (l6 : Int32) (l7 : Int32) (l8 : Int32) (s : Int32 × Int32 × bs_Mm) : Option ((Int32 × Int32 × bs_Mm) ⊕ (bs_Mm)) :=
  if (((nI 400) * l1) + l3) ≤ s.2.1 then (
    some (.inr s.2.2)
  ) else (
    fg_gd (fg_in s.2.1 2800) (
    if (nI 2) ≤ (bs_iv (s.2.2 (m + 18) s.2.1.toNatClampNeg)) then (
      if (bs_iv (s.2.2 (m + 18) s.2.1.toNatClampNeg)) = (nI 33) then (
        fg_gd (fg_in (s.1 - (nI 1)) 400) (
        fg_gd (fg_in (s.1 - (nI 1)) 400) (
        fg_wr s.2.2 (m + 22) (s.1 - (nI 1)).toNatClampNeg (.long ((1 : Int64) - (bs_lv (s.2.2 (m + 22) (s.1 - (nI 1)).toNatClampNeg)))) (fun mu10 => 
        some (.inl (s.1, (s.2.1 + (nI 1)), mu10)))))
      ) else (
        fg_gd (fg_in ((s.1 + (-1)) - (nI 1)) 400) (
        fg_gd (fg_in (s.1 + (-1)) 400) (
        fg_bd (FX12_both m s.2.2 (bs_iv (s.2.2 (m + 18) s.2.1.toNatClampNeg)) (bs_lv (s.2.2 (m + 22) ((s.1 + (-1)) - (nI 1)).toNatClampNeg)) (bs_lv (s.2.2 (m + 22) (s.1 + (-1)).toNatClampNeg))) (fun v5 => 
        fg_gd (fg_in ((s.1 + (-1)) - (nI 1)) 400) (
        fg_wr s.2.2 (m + 22) ((s.1 + (-1)) - (nI 1)).toNatClampNeg (.long v5) (fun mu7 => 
        some (.inl ((s.1 + (-1)), (s.2.1 + (nI 1)), mu7)))))))
      )
    ) else (
      fg_gd (fg_in (s.2.1 + (nI 1)) 2800) (
      if (bs_iv (s.2.2 (m + 18) s.2.1.toNatClampNeg)) = 0 then (
        fg_gd (fg_in s.1 400) (
        fg_wr s.2.2 (m + 22) s.1.toNatClampNeg (.long (Int32.toInt64 (bs_iv (s.2.2 (m + 18) (s.2.1 + (nI 1)).toNatClampNeg)))) (fun mu23 => 
        some (.inl ((s.1 + (nI 1)), ((s.2.1 + (nI 1)) + (nI 1)), mu23))))
      ) else (
        if (bs_iv (s.2.2 (m + 18) (s.2.1 + (nI 1)).toNatClampNeg)) = (nI 108) then (
          fg_gd (fg_in s.1 400) (
          fg_wr s.2.2 (m + 22) s.1.toNatClampNeg (.long (Int32.toInt64 l4)) (fun mu21 => 
          some (.inl ((s.1 + (nI 1)), ((s.2.1 + (nI 1)) + (nI 1)), mu21))))
        ) else (
          if (bs_iv (s.2.2 (m + 18) (s.2.1 + (nI 1)).toNatClampNeg)) = (nI 104) then (
            fg_gd (fg_in s.1 400) (
            fg_wr s.2.2 (m + 22) s.1.toNatClampNeg (.long (Int32.toInt64 l5)) (fun mu19 => 
            some (.inl ((s.1 + (nI 1)), ((s.2.1 + (nI 1)) + (nI 1)), mu19))))
          ) else (
            if (bs_iv (s.2.2 (m + 18) (s.2.1 + (nI 1)).toNatClampNeg)) = (nI 107) then (
              fg_gd (fg_in s.1 400) (
              fg_wr s.2.2 (m + 22) s.1.toNatClampNeg (.long (Int32.toInt64 l6)) (fun mu17 => 
              some (.inl ((s.1 + (nI 1)), ((s.2.1 + (nI 1)) + (nI 1)), mu17))))
            ) else (
              if (bs_iv (s.2.2 (m + 18) (s.2.1 + (nI 1)).toNatClampNeg)) = (nI 115) then (
                fg_gd (fg_in s.1 400) (
                fg_wr s.2.2 (m + 22) s.1.toNatClampNeg (.long (Int32.toInt64 l7)) (fun mu15 => 
                some (.inl ((s.1 + (nI 1)), ((s.2.1 + (nI 1)) + (nI 1)), mu15))))
              ) else (
                fg_gd (fg_in s.1 400) (
                fg_wr s.2.2 (m + 22) s.1.toNatClampNeg (.long (Int32.toInt64 l8)) (fun mu13 => 
                some (.inl ((s.1 + (nI 1)), ((s.2.1 + (nI 1)) + (nI 1)), mu13))))
              )
            )
          )
        )
      ))
    ))
  )
set_option maxHeartbeats 4000000 in
theorem wFX12_work_b12 {nx : Nat} {sh : bs_Sh} {R : Nat → Nat → Option Nat} {m : Nat} (HM : fg_S (bs_tM m) R m sh) {l1 : Int32} {l2 : Int32} {l3 : Int32} {l4 : Int32} {l5 : Int32} {l6 : Int32} {l7 : Int32} {l8 : Int32} {Ph : bs_Po} {s : Int32 × Int32 × bs_Mm} {r : (Int32 × Int32 × bs_Mm) ⊕ (bs_Mm)} (ka : ∀ s, r = .inl s → fg_R R s.2.2 → bs_W Ph mX12_work (bs_rm 3 0 0) 12 (bs_mk [(0, .ref m), (1, .int l1), (2, .int l2), (3, .int l3), (4, .int l4), (5, .int l5), (6, .int l6), (7, .int l7), (8, .int l8), (9, .int s.1), (10, .int s.2.1)]) [] 0 0 nx sh s.2.2) (ke : ∀ s, r = .inr s → fg_R R s → bs_W Ph mX12_work (bs_rm 3 0 0) 199 (bs_mk [(0, .ref m), (1, .int l1), (2, .int l2), (3, .int l3), (4, .int l4), (5, .int l5), (6, .int l6), (7, .int l7), (8, .int l8)]) [] 0 0 nx sh s) (hR : fg_R R s.2.2) (h : FX12_work_b12 m l1 l2 l3 l4 l5 l6 l7 l8 s = some r) : bs_W Ph mX12_work (bs_rm 3 0 0) 12 (bs_mk [(0, .ref m), (1, .int l1), (2, .int l2), (3, .int l3), (4, .int l4), (5, .int l5), (6, .int l6), (7, .int l7), (8, .int l8), (9, .int s.1), (10, .int s.2.1)]) [] 0 0 nx sh s.2.2 := by
  unfold FX12_work_b12 at h
  refine bs_iload dX12_work_12 rfl ?_
  refine bs_sipush (v := (nI 400)) dX12_work_14 (by decide) ?_
  refine bs_iload_n dX12_work_17 rfl ?_
  refine bs_imul dX12_work_18 ?_
  refine bs_iload_n dX12_work_19 rfl ?_
  refine bs_iadd dX12_work_20 ?_
  refine bs_icmp_ge (tgt := 199) dX12_work_21 (by decide) (fun c => ?_) (fun c => ?_)
  · replace h := fg_ip c h
    cases h
    refine bs_W.mk [(0, .ref m), (1, .int l1), (2, .int l2), (3, .int l3), (4, .int l4), (5, .int l5), (6, .int l6), (7, .int l7), (8, .int l8)] (by intro q hq; simp only [List.mem_cons, List.not_mem_nil, or_false] at hq; rcases hq with rfl | rfl | rfl | rfl | rfl | rfl | rfl | rfl | rfl <;> rfl) (ke _ rfl hR)
  · replace h := fg_iN c h
    refine bs_aload_n dX12_work_24 rfl ?_
    refine fg_getR (b := (m + 18)) dX12_work_25 fX12_61 (HM.s 0 rfl rfl rfl) hR (HM.r 0 27 rfl rfl rfl) ?_
    refine bs_iload dX12_work_28 rfl ?_
    obtain ⟨g1, h⟩ := fg_gdE h
    refine bs_iald dX12_work_30 (HM.ss 18 rfl rfl) (fg_in_ix g1) ?_
    refine bs_istore dX12_work_31 rfl (by decide) ?_
    refine fg_iinc (m := (nI 1)) dX12_work_33 rfl rfl (by decide) ?_
    refine bs_iload dX12_work_36 rfl ?_
    refine bs_iconst (v := (nI 2)) dX12_work_38 (by decide) ?_
    refine bs_icmp_ge (tgt := 133) dX12_work_39 (by decide) (fun c => ?_) (fun c => ?_)
    · replace h := fg_ip c h
      refine bs_iload dX12_work_133 rfl ?_
      refine bs_bipush (v := (nI 33)) dX12_work_135 (by decide) ?_
      refine bs_icmp_ne (tgt := 163) dX12_work_137 (by decide) (fun c => ?_) (fun c => ?_)
      · replace h := fg_iN c h
        refine fg_iinc (m := (-1)) dX12_work_163 rfl rfl (by decide) ?_
        refine bs_aload_n dX12_work_166 rfl ?_
        refine fg_getR (b := (m + 22)) dX12_work_167 fX12_73 (HM.s 0 rfl rfl rfl) hR (HM.r 0 34 rfl rfl rfl) ?_
        refine bs_iload dX12_work_170 rfl ?_
        refine bs_iconst (v := (nI 1)) dX12_work_172 (by decide) ?_
        refine bs_isub dX12_work_173 ?_
        refine bs_iload dX12_work_174 rfl ?_
        refine bs_aload_n dX12_work_176 rfl ?_
        refine fg_getR (b := (m + 22)) dX12_work_177 fX12_73 (HM.s 0 rfl rfl rfl) hR (HM.r 0 34 rfl rfl rfl) ?_
        refine bs_iload dX12_work_180 rfl ?_
        refine bs_iconst (v := (nI 1)) dX12_work_182 (by decide) ?_
        refine bs_isub dX12_work_183 ?_
        obtain ⟨g2, h⟩ := fg_gdE h
        refine bs_lald dX12_work_184 (HM.ss 22 rfl rfl) (fg_in_ix g2) ?_
        refine bs_aload_n dX12_work_185 rfl ?_
        refine fg_getR (b := (m + 22)) dX12_work_186 fX12_73 (HM.s 0 rfl rfl rfl) hR (HM.r 0 34 rfl rfl rfl) ?_
        refine bs_iload dX12_work_189 rfl ?_
        obtain ⟨g3, h⟩ := fg_gdE h
        refine bs_lald dX12_work_191 (HM.ss 22 rfl rfl) (fg_in_ix g3) ?_
        obtain ⟨v5, k4, h⟩ := fg_bdE h
        refine fg_callS dX12_work_192 qX12_273 (wX12_both HM hR k4) rfl rfl (Nat.le_of_ble_eq_true rfl) (fg_cr (by first | decide | omega) (by decide)) (fun hR => ?_)
        obtain ⟨g6, h⟩ := fg_gdE h
        refine fg_last dX12_work_195 (HM.ss 22 rfl rfl) (fun j => HM.n 22 j rfl rfl rfl) g6 hR h (fun mu7 hR h => ?_)
        refine bs_goto (tgt := 12) dX12_work_196 (by decide) ?_
        cases h
        refine bs_W.mk [(0, .ref m), (1, .int l1), (2, .int l2), (3, .int l3), (4, .int l4), (5, .int l5), (6, .int l6), (7, .int l7), (8, .int l8), (9, .int (s.1 + (-1))), (10, .int (s.2.1 + (nI 1)))] (by intro q hq; simp only [List.mem_cons, List.not_mem_nil, or_false] at hq; rcases hq with rfl | rfl | rfl | rfl | rfl | rfl | rfl | rfl | rfl | rfl | rfl <;> rfl) (by have k := ka _ rfl hR; dsimp only at k; exact k)
      · replace h := fg_ip c h
        refine bs_aload_n dX12_work_140 rfl ?_
        refine fg_getR (b := (m + 22)) dX12_work_141 fX12_73 (HM.s 0 rfl rfl rfl) hR (HM.r 0 34 rfl rfl rfl) ?_
        refine bs_iload dX12_work_144 rfl ?_
        refine bs_iconst (v := (nI 1)) dX12_work_146 (by decide) ?_
        refine bs_isub dX12_work_147 ?_
        refine bs_lconst (v := 1) dX12_work_148 (by decide) ?_
        refine bs_aload_n dX12_work_149 rfl ?_
        refine fg_getR (b := (m + 22)) dX12_work_150 fX12_73 (HM.s 0 rfl rfl rfl) hR (HM.r 0 34 rfl rfl rfl) ?_
        refine bs_iload dX12_work_153 rfl ?_
        refine bs_iconst (v := (nI 1)) dX12_work_155 (by decide) ?_
        refine bs_isub dX12_work_156 ?_
        obtain ⟨g8, h⟩ := fg_gdE h
        refine bs_lald dX12_work_157 (HM.ss 22 rfl rfl) (fg_in_ix g8) ?_
        refine bs_lsub dX12_work_158 ?_
        obtain ⟨g9, h⟩ := fg_gdE h
        refine fg_last dX12_work_159 (HM.ss 22 rfl rfl) (fun j => HM.n 22 j rfl rfl rfl) g9 hR h (fun mu10 hR h => ?_)
        refine bs_goto (tgt := 196) dX12_work_160 (by decide) ?_
        refine bs_goto (tgt := 12) dX12_work_196 (by decide) ?_
        cases h
        refine bs_W.mk [(0, .ref m), (1, .int l1), (2, .int l2), (3, .int l3), (4, .int l4), (5, .int l5), (6, .int l6), (7, .int l7), (8, .int l8), (9, .int s.1), (10, .int (s.2.1 + (nI 1)))] (by intro q hq; simp only [List.mem_cons, List.not_mem_nil, or_false] at hq; rcases hq with rfl | rfl | rfl | rfl | rfl | rfl | rfl | rfl | rfl | rfl | rfl <;> rfl) (by have k := ka _ rfl hR; dsimp only at k; exact k)
    · replace h := fg_iN c h
      refine bs_aload_n dX12_work_42 rfl ?_
      refine fg_getR (b := (m + 18)) dX12_work_43 fX12_61 (HM.s 0 rfl rfl rfl) hR (HM.r 0 27 rfl rfl rfl) ?_
      refine bs_iload dX12_work_46 rfl ?_
      obtain ⟨g11, h⟩ := fg_gdE h
      refine bs_iald dX12_work_48 (HM.ss 18 rfl rfl) (fg_in_ix g11) ?_
      refine bs_istore dX12_work_49 rfl (by decide) ?_
      refine fg_iinc (m := (nI 1)) dX12_work_51 rfl rfl (by decide) ?_
      refine bs_aload_n dX12_work_54 rfl ?_
      refine fg_getR (b := (m + 22)) dX12_work_55 fX12_73 (HM.s 0 rfl rfl rfl) hR (HM.r 0 34 rfl rfl rfl) ?_
      refine bs_iload dX12_work_58 rfl ?_
      refine bs_iload dX12_work_60 rfl ?_
      refine bs_if_ne (tgt := 71) dX12_work_62 (by decide) (fun c => ?_) (fun c => ?_)
      · replace h := fg_iN c h
        refine bs_iload dX12_work_71 rfl ?_
        refine bs_bipush (v := (nI 108)) dX12_work_73 (by decide) ?_
        refine bs_icmp_ne (tgt := 84) dX12_work_75 (by decide) (fun c => ?_) (fun c => ?_)
        · replace h := fg_iN c h
          refine bs_iload dX12_work_84 rfl ?_
          refine bs_bipush (v := (nI 104)) dX12_work_86 (by decide) ?_
          refine bs_icmp_ne (tgt := 97) dX12_work_88 (by decide) (fun c => ?_) (fun c => ?_)
          · replace h := fg_iN c h
            refine bs_iload dX12_work_97 rfl ?_
            refine bs_bipush (v := (nI 107)) dX12_work_99 (by decide) ?_
            refine bs_icmp_ne (tgt := 110) dX12_work_101 (by decide) (fun c => ?_) (fun c => ?_)
            · replace h := fg_iN c h
              refine bs_iload dX12_work_110 rfl ?_
              refine bs_bipush (v := (nI 115)) dX12_work_112 (by decide) ?_
              refine bs_icmp_ne (tgt := 123) dX12_work_114 (by decide) (fun c => ?_) (fun c => ?_)
              · replace h := fg_iN c h
                refine bs_iload dX12_work_123 rfl ?_
                refine bs_i2l dX12_work_125 ?_
                obtain ⟨g12, h⟩ := fg_gdE h
                refine fg_last dX12_work_126 (HM.ss 22 rfl rfl) (fun j => HM.n 22 j rfl rfl rfl) g12 hR h (fun mu13 hR h => ?_)
                refine fg_iinc (m := (nI 1)) dX12_work_127 rfl rfl (by decide) ?_
                refine bs_goto (tgt := 196) dX12_work_130 (by decide) ?_
                refine bs_goto (tgt := 12) dX12_work_196 (by decide) ?_
                cases h
                refine bs_W.mk [(0, .ref m), (1, .int l1), (2, .int l2), (3, .int l3), (4, .int l4), (5, .int l5), (6, .int l6), (7, .int l7), (8, .int l8), (9, .int (s.1 + (nI 1))), (10, .int ((s.2.1 + (nI 1)) + (nI 1)))] (by intro q hq; simp only [List.mem_cons, List.not_mem_nil, or_false] at hq; rcases hq with rfl | rfl | rfl | rfl | rfl | rfl | rfl | rfl | rfl | rfl | rfl <;> rfl) (by have k := ka _ rfl hR; dsimp only at k; exact k)
              · replace h := fg_ip c h
                refine bs_iload dX12_work_117 rfl ?_
                refine bs_i2l dX12_work_119 ?_
                refine bs_goto (tgt := 126) dX12_work_120 (by decide) ?_
                obtain ⟨g14, h⟩ := fg_gdE h
                refine fg_last dX12_work_126 (HM.ss 22 rfl rfl) (fun j => HM.n 22 j rfl rfl rfl) g14 hR h (fun mu15 hR h => ?_)
                refine fg_iinc (m := (nI 1)) dX12_work_127 rfl rfl (by decide) ?_
                refine bs_goto (tgt := 196) dX12_work_130 (by decide) ?_
                refine bs_goto (tgt := 12) dX12_work_196 (by decide) ?_
                cases h
                refine bs_W.mk [(0, .ref m), (1, .int l1), (2, .int l2), (3, .int l3), (4, .int l4), (5, .int l5), (6, .int l6), (7, .int l7), (8, .int l8), (9, .int (s.1 + (nI 1))), (10, .int ((s.2.1 + (nI 1)) + (nI 1)))] (by intro q hq; simp only [List.mem_cons, List.not_mem_nil, or_false] at hq; rcases hq with rfl | rfl | rfl | rfl | rfl | rfl | rfl | rfl | rfl | rfl | rfl <;> rfl) (by have k := ka _ rfl hR; dsimp only at k; exact k)
            · replace h := fg_ip c h
              refine bs_iload dX12_work_104 rfl ?_
              refine bs_i2l dX12_work_106 ?_
              refine bs_goto (tgt := 126) dX12_work_107 (by decide) ?_
              obtain ⟨g16, h⟩ := fg_gdE h
              refine fg_last dX12_work_126 (HM.ss 22 rfl rfl) (fun j => HM.n 22 j rfl rfl rfl) g16 hR h (fun mu17 hR h => ?_)
              refine fg_iinc (m := (nI 1)) dX12_work_127 rfl rfl (by decide) ?_
              refine bs_goto (tgt := 196) dX12_work_130 (by decide) ?_
              refine bs_goto (tgt := 12) dX12_work_196 (by decide) ?_
              cases h
              refine bs_W.mk [(0, .ref m), (1, .int l1), (2, .int l2), (3, .int l3), (4, .int l4), (5, .int l5), (6, .int l6), (7, .int l7), (8, .int l8), (9, .int (s.1 + (nI 1))), (10, .int ((s.2.1 + (nI 1)) + (nI 1)))] (by intro q hq; simp only [List.mem_cons, List.not_mem_nil, or_false] at hq; rcases hq with rfl | rfl | rfl | rfl | rfl | rfl | rfl | rfl | rfl | rfl | rfl <;> rfl) (by have k := ka _ rfl hR; dsimp only at k; exact k)
          · replace h := fg_ip c h
            refine bs_iload dX12_work_91 rfl ?_
            refine bs_i2l dX12_work_93 ?_
            refine bs_goto (tgt := 126) dX12_work_94 (by decide) ?_
            obtain ⟨g18, h⟩ := fg_gdE h
            refine fg_last dX12_work_126 (HM.ss 22 rfl rfl) (fun j => HM.n 22 j rfl rfl rfl) g18 hR h (fun mu19 hR h => ?_)
            refine fg_iinc (m := (nI 1)) dX12_work_127 rfl rfl (by decide) ?_
            refine bs_goto (tgt := 196) dX12_work_130 (by decide) ?_
            refine bs_goto (tgt := 12) dX12_work_196 (by decide) ?_
            cases h
            refine bs_W.mk [(0, .ref m), (1, .int l1), (2, .int l2), (3, .int l3), (4, .int l4), (5, .int l5), (6, .int l6), (7, .int l7), (8, .int l8), (9, .int (s.1 + (nI 1))), (10, .int ((s.2.1 + (nI 1)) + (nI 1)))] (by intro q hq; simp only [List.mem_cons, List.not_mem_nil, or_false] at hq; rcases hq with rfl | rfl | rfl | rfl | rfl | rfl | rfl | rfl | rfl | rfl | rfl <;> rfl) (by have k := ka _ rfl hR; dsimp only at k; exact k)
        · replace h := fg_ip c h
          refine bs_iload dX12_work_78 rfl ?_
          refine bs_i2l dX12_work_80 ?_
          refine bs_goto (tgt := 126) dX12_work_81 (by decide) ?_
          obtain ⟨g20, h⟩ := fg_gdE h
          refine fg_last dX12_work_126 (HM.ss 22 rfl rfl) (fun j => HM.n 22 j rfl rfl rfl) g20 hR h (fun mu21 hR h => ?_)
          refine fg_iinc (m := (nI 1)) dX12_work_127 rfl rfl (by decide) ?_
          refine bs_goto (tgt := 196) dX12_work_130 (by decide) ?_
          refine bs_goto (tgt := 12) dX12_work_196 (by decide) ?_
          cases h
          refine bs_W.mk [(0, .ref m), (1, .int l1), (2, .int l2), (3, .int l3), (4, .int l4), (5, .int l5), (6, .int l6), (7, .int l7), (8, .int l8), (9, .int (s.1 + (nI 1))), (10, .int ((s.2.1 + (nI 1)) + (nI 1)))] (by intro q hq; simp only [List.mem_cons, List.not_mem_nil, or_false] at hq; rcases hq with rfl | rfl | rfl | rfl | rfl | rfl | rfl | rfl | rfl | rfl | rfl <;> rfl) (by have k := ka _ rfl hR; dsimp only at k; exact k)
      · replace h := fg_ip c h
        refine bs_iload dX12_work_65 rfl ?_
        refine bs_i2l dX12_work_67 ?_
        refine bs_goto (tgt := 126) dX12_work_68 (by decide) ?_
        obtain ⟨g22, h⟩ := fg_gdE h
        refine fg_last dX12_work_126 (HM.ss 22 rfl rfl) (fun j => HM.n 22 j rfl rfl rfl) g22 hR h (fun mu23 hR h => ?_)
        refine fg_iinc (m := (nI 1)) dX12_work_127 rfl rfl (by decide) ?_
        refine bs_goto (tgt := 196) dX12_work_130 (by decide) ?_
        refine bs_goto (tgt := 12) dX12_work_196 (by decide) ?_
        cases h
        refine bs_W.mk [(0, .ref m), (1, .int l1), (2, .int l2), (3, .int l3), (4, .int l4), (5, .int l5), (6, .int l6), (7, .int l7), (8, .int l8), (9, .int (s.1 + (nI 1))), (10, .int ((s.2.1 + (nI 1)) + (nI 1)))] (by intro q hq; simp only [List.mem_cons, List.not_mem_nil, or_false] at hq; rcases hq with rfl | rfl | rfl | rfl | rfl | rfl | rfl | rfl | rfl | rfl | rfl <;> rfl) (by have k := ka _ rfl hR; dsimp only at k; exact k)
theorem wFX12_work_l12 {nx : Nat} {sh : bs_Sh} {R : Nat → Nat → Option Nat} {m : Nat} (HM : fg_S (bs_tM m) R m sh) {l1 : Int32} {l2 : Int32} {l3 : Int32} {l4 : Int32} {l5 : Int32} {l6 : Int32} {l7 : Int32} {l8 : Int32} {Ph : bs_Po} {t : bs_Mm} : ∀ n (y0 : Int32) (y1 : Int32) (mu1 : bs_Mm), fg_lp (FX12_work_b12 m l1 l2 l3 l4 l5 l6 l7 l8) n (y0, y1, mu1) = some t → fg_R R mu1 → (ke : ∀ s, t = s → fg_R R s → bs_W Ph mX12_work (bs_rm 3 0 0) 199 (bs_mk [(0, .ref m), (1, .int l1), (2, .int l2), (3, .int l3), (4, .int l4), (5, .int l5), (6, .int l6), (7, .int l7), (8, .int l8)]) [] 0 0 nx sh s) → bs_W Ph mX12_work (bs_rm 3 0 0) 12 (bs_mk [(0, .ref m), (1, .int l1), (2, .int l2), (3, .int l3), (4, .int l4), (5, .int l5), (6, .int l6), (7, .int l7), (8, .int l8), (9, .int y0), (10, .int y1)]) [] 0 0 nx sh mu1 := by
  intro n
  induction n with
  | zero => intro y0 y1 mu1 h; exact absurd h (fun z => fg_lp0 z)
  | succ n ih =>
    intro y0 y1 mu1 h hR ke
    obtain ⟨r, hb, h1, h2⟩ := fg_lpE h
    exact wFX12_work_b12 (s := (y0, y1, mu1)) HM (fun s' e hR' => ih s'.1 s'.2.1 s'.2.2 (h1 s' e) hR' ke) (fun s' e => ke s' (h2 _ e).symm) hR hb
noncomputable def FX12_work (m : Nat) (mu : bs_Mm) (p1 : Int32) (p2 : Int32) (p3 : Int32) (p4 : Int32) (p5 : Int32) (p6 : Int32) (p7 : Int32) (p8 : Int32) : Option (Int64 × bs_Mm) :=
  fg_bd (fg_lp (FX12_work_b12 m p1 p2 p3 p4 p5 p6 p7 p8) fg_fu ((nI 0), (((nI 400) * p1) + p2), mu)) (fun t24 => 
    fg_gd (fg_in (nI 0) 400) (
    some ((bs_lv (t24 (m + 22) (nI 0).toNatClampNeg)), t24))
  )
set_option maxHeartbeats 4000000 in
theorem wX12_work {nx : Nat} {sh : bs_Sh} {R : Nat → Nat → Option Nat} {m : Nat} (HM : fg_S (bs_tM m) R m sh) {mu : bs_Mm} (hR : fg_R R mu) {p1 : Int32} {p2 : Int32} {p3 : Int32} {p4 : Int32} {p5 : Int32} {p6 : Int32} {p7 : Int32} {p8 : Int32} {r : Int64 × bs_Mm} (h : FX12_work m mu p1 p2 p3 p4 p5 p6 p7 p8 = some r) : bs_C mX12_work (bs_rm 3 0 0) [.ref m, .int p1, .int p2, .int p3, .int p4, .int p5, .int p6, .int p7, .int p8] nx sh mu (fg_po R nx sh (some (.long r.1)) r.2) := by
  refine bs_ct (by decide +kernel) (Nat.le_of_ble_eq_true rfl) ?_
  have kr : ∀ q, r = q → fg_R R q.2 → (fg_po R nx sh (some (.long r.1)) r.2) (some (.long q.1)) nx sh q.2 := fun q e hq => by subst e; exact ⟨rfl, rfl, rfl, rfl, hq⟩
  unfold FX12_work at h
  refine bs_iconst (v := (nI 0)) dX12_work_0 (by decide) ?_
  refine bs_istore dX12_work_1 rfl (by decide) ?_
  refine bs_sipush (v := (nI 400)) dX12_work_3 (by decide) ?_
  refine bs_iload_n dX12_work_6 rfl ?_
  refine bs_imul dX12_work_7 ?_
  refine bs_iload_n dX12_work_8 rfl ?_
  refine bs_iadd dX12_work_9 ?_
  refine bs_istore dX12_work_10 rfl (by decide) ?_
  obtain ⟨t24, k25, h⟩ := fg_bdE h
  refine bs_W.mk [(0, .ref m), (1, .int p1), (2, .int p2), (3, .int p3), (4, .int p4), (5, .int p5), (6, .int p6), (7, .int p7), (8, .int p8), (9, .int (nI 0)), (10, .int (((nI 400) * p1) + p2))] (by intro q hq; simp only [List.mem_cons, List.not_mem_nil, or_false] at hq; rcases hq with rfl | rfl | rfl | rfl | rfl | rfl | rfl | rfl | rfl | rfl | rfl <;> rfl) ?_
  refine wFX12_work_l12 HM _ _ _ _ k25 hR ?_
  intro s e hR
  subst e
  refine bs_aload_n dX12_work_199 rfl ?_
  refine fg_getR (b := (m + 22)) dX12_work_200 fX12_73 (HM.s 0 rfl rfl rfl) hR (HM.r 0 34 rfl rfl rfl) ?_
  refine bs_iconst (v := (nI 0)) dX12_work_203 (by decide) ?_
  obtain ⟨g26, h⟩ := fg_gdE h
  refine bs_lald dX12_work_204 (HM.ss 22 rfl rfl) (fg_in_ix g26) ?_
  cases h
  exact bs_lret dX12_work_205 rfl (Nat.zero_le _) (Nat.zero_le _) (kr _ rfl hR)
noncomputable def FX12_worthOf_j74_L6 (m : Nat) (mu : bs_Mm) (l1 : Int32) (l2 : Int32) (l3 : Int32) (l4 : Int32) (l5 : Int32) (l6 : Int32) (l9 : Int32) (l10 : Int32) : Option ((Int32 × Int32 × bs_Mm) ⊕ ((bs_Mm) ⊕ (Int32 × bs_Mm))) :=
  fg_b2 (FX12_work m mu l1 l9 l10 l2 l3 l4 l5 l6) (fun v6 mu5 => 
  some (.inr (.inr ((Int64.toInt32 v6), mu5))))
set_option maxHeartbeats 4000000 in
theorem wFX12_worthOf_j74_L6 {nx : Nat} {sh : bs_Sh} {R : Nat → Nat → Option Nat} {m : Nat} (HM : fg_S (bs_tM m) R m sh) {mu : bs_Mm} {l1 : Int32} {l2 : Int32} {l3 : Int32} {l4 : Int32} {l5 : Int32} {l6 : Int32} {l9 : Int32} {l10 : Int32} {Ph : bs_Po} {r : (Int32 × Int32 × bs_Mm) ⊕ ((bs_Mm) ⊕ (Int32 × bs_Mm))} (ka : ∀ s, r = .inl s → fg_R R s.2.2 → bs_W Ph mX12_worthOf (bs_rm 4 0 0) 6 (bs_mk [(0, .ref m), (1, .int l1), (2, .int l2), (3, .int l3), (4, .int l4), (5, .int l5), (6, .int l6), (7, .int s.1), (8, .int s.2.1)]) [] 0 0 nx sh s.2.2) (ke : ∀ s, r = .inr (.inl s) → fg_R R s → bs_W Ph mX12_worthOf (bs_rm 4 0 0) 103 (bs_mk [(0, .ref m), (1, .int l1), (2, .int l2), (3, .int l3), (4, .int l4), (5, .int l5), (6, .int l6)]) [] 0 0 nx sh s) (kr : ∀ q, r = .inr (.inr q) → fg_R R q.2 → Ph (some (.int q.1)) nx sh q.2) (hR : fg_R R mu) (h : FX12_worthOf_j74_L6 m mu l1 l2 l3 l4 l5 l6 l9 l10 = some r) : bs_W Ph mX12_worthOf (bs_rm 4 0 0) 74 (bs_mk [(0, .ref m), (1, .int l1), (2, .int l2), (3, .int l3), (4, .int l4), (5, .int l5), (6, .int l6), (9, .int l9), (10, .int l10)]) [] 0 0 nx sh mu := by
  unfold FX12_worthOf_j74_L6 at h
  refine bs_aload_n dX12_worthOf_74 rfl ?_
  refine bs_iload_n dX12_worthOf_75 rfl ?_
  refine bs_iload dX12_worthOf_76 rfl ?_
  refine bs_iload dX12_worthOf_78 rfl ?_
  refine bs_iload_n dX12_worthOf_80 rfl ?_
  refine bs_iload_n dX12_worthOf_81 rfl ?_
  refine bs_iload dX12_worthOf_82 rfl ?_
  refine bs_iload dX12_worthOf_84 rfl ?_
  refine bs_iload dX12_worthOf_86 rfl ?_
  obtain ⟨v6, mu5, k4, h⟩ := fg_b2E h
  refine fg_callV dX12_worthOf_88 qX12_277 (wX12_work HM hR k4) rfl (HM.s 0 rfl rfl rfl) rfl (Nat.le_of_ble_eq_true rfl) (fg_cr (by first | decide | omega) (by decide)) (fun hR => ?_)
  refine bs_l2i dX12_worthOf_91 ?_
  cases h
  exact bs_iret dX12_worthOf_92 rfl (Nat.zero_le _) (Nat.zero_le _) (kr _ rfl hR)
noncomputable def FX12_worthOf_b6 (m : Nat)  (l1 : Int32) (l2 : Int32) (l3 : Int32) (l4 : Int32) (l5 : Int32) (l6 : Int32) (s : Int32 × Int32 × bs_Mm) : Option ((Int32 × Int32 × bs_Mm) ⊕ ((bs_Mm) ⊕ (Int32 × bs_Mm))) :=
  fg_gd (fg_in l1 7) (
  if (bs_iv (s.2.2 (m + 19) l1.toNatClampNeg)) ≤ s.2.1 then (
    some (.inr (.inl s.2.2))
  ) else (
    fg_gd (fg_in (((nI 64) * l1) + s.2.1) 448) (
    fg_gd (fg_in (((nI 64) * l1) + s.2.1) 448) (
    if (bs_iv (s.2.2 (m + 20) (((nI 64) * l1) + s.2.1).toNatClampNeg)) = s.1 then (
      FX12_worthOf_j74_L6 m s.2.2 l1 l2 l3 l4 l5 l6 (bs_iv (s.2.2 (m + 20) (((nI 64) * l1) + s.2.1).toNatClampNeg)) (bs_iv (s.2.2 (m + 21) (((nI 64) * l1) + s.2.1).toNatClampNeg))
    ) else (
      fg_b2 (FX12_work m s.2.2 l1 s.1 (bs_iv (s.2.2 (m + 20) (((nI 64) * l1) + s.2.1).toNatClampNeg)) l2 l3 l4 l5 l6) (fun v9 mu8 => 
      if (lg_cmp v9 (1 : Int64)) = 0 then (
        FX12_worthOf_j74_L6 m mu8 l1 l2 l3 l4 l5 l6 (bs_iv (s.2.2 (m + 20) (((nI 64) * l1) + s.2.1).toNatClampNeg)) (bs_iv (s.2.2 (m + 21) (((nI 64) * l1) + s.2.1).toNatClampNeg))
      ) else (
        some (.inl ((bs_iv (s.2.2 (m + 21) (((nI 64) * l1) + s.2.1).toNatClampNeg)), (s.2.1 + (nI 1)), mu8))
      ))
    )))
  ))
set_option maxHeartbeats 4000000 in
theorem wFX12_worthOf_b6 {nx : Nat} {sh : bs_Sh} {R : Nat → Nat → Option Nat} {m : Nat} (HM : fg_S (bs_tM m) R m sh) {l1 : Int32} {l2 : Int32} {l3 : Int32} {l4 : Int32} {l5 : Int32} {l6 : Int32} {Ph : bs_Po} {s : Int32 × Int32 × bs_Mm} {r : (Int32 × Int32 × bs_Mm) ⊕ ((bs_Mm) ⊕ (Int32 × bs_Mm))} (ka : ∀ s, r = .inl s → fg_R R s.2.2 → bs_W Ph mX12_worthOf (bs_rm 4 0 0) 6 (bs_mk [(0, .ref m), (1, .int l1), (2, .int l2), (3, .int l3), (4, .int l4), (5, .int l5), (6, .int l6), (7, .int s.1), (8, .int s.2.1)]) [] 0 0 nx sh s.2.2) (ke : ∀ s, r = .inr (.inl s) → fg_R R s → bs_W Ph mX12_worthOf (bs_rm 4 0 0) 103 (bs_mk [(0, .ref m), (1, .int l1), (2, .int l2), (3, .int l3), (4, .int l4), (5, .int l5), (6, .int l6)]) [] 0 0 nx sh s) (kr : ∀ q, r = .inr (.inr q) → fg_R R q.2 → Ph (some (.int q.1)) nx sh q.2) (hR : fg_R R s.2.2) (h : FX12_worthOf_b6 m l1 l2 l3 l4 l5 l6 s = some r) : bs_W Ph mX12_worthOf (bs_rm 4 0 0) 6 (bs_mk [(0, .ref m), (1, .int l1), (2, .int l2), (3, .int l3), (4, .int l4), (5, .int l5), (6, .int l6), (7, .int s.1), (8, .int s.2.1)]) [] 0 0 nx sh s.2.2 := by
  unfold FX12_worthOf_b6 at h
  refine bs_iload dX12_worthOf_6 rfl ?_
  refine bs_aload_n dX12_worthOf_8 rfl ?_
  refine fg_getR (b := (m + 19)) dX12_worthOf_9 fX12_64 (HM.s 0 rfl rfl rfl) hR (HM.r 0 28 rfl rfl rfl) ?_
  refine bs_iload_n dX12_worthOf_12 rfl ?_
  obtain ⟨g1, h⟩ := fg_gdE h
  refine bs_iald dX12_worthOf_13 (HM.ss 19 rfl rfl) (fg_in_ix g1) ?_
  refine bs_icmp_ge (tgt := 103) dX12_worthOf_14 (by decide) (fun c => ?_) (fun c => ?_)
  · replace h := fg_ip c h
    cases h
    refine bs_W.mk [(0, .ref m), (1, .int l1), (2, .int l2), (3, .int l3), (4, .int l4), (5, .int l5), (6, .int l6)] (by intro q hq; simp only [List.mem_cons, List.not_mem_nil, or_false] at hq; rcases hq with rfl | rfl | rfl | rfl | rfl | rfl | rfl <;> rfl) (ke _ rfl hR)
  · replace h := fg_iN c h
    refine bs_aload_n dX12_worthOf_17 rfl ?_
    refine fg_getR (b := (m + 20)) dX12_worthOf_18 fX12_67 (HM.s 0 rfl rfl rfl) hR (HM.r 0 29 rfl rfl rfl) ?_
    refine bs_bipush (v := (nI 64)) dX12_worthOf_21 (by decide) ?_
    refine bs_iload_n dX12_worthOf_23 rfl ?_
    refine bs_imul dX12_worthOf_24 ?_
    refine bs_iload dX12_worthOf_25 rfl ?_
    refine bs_iadd dX12_worthOf_27 ?_
    obtain ⟨g2, h⟩ := fg_gdE h
    refine bs_iald dX12_worthOf_28 (HM.ss 20 rfl rfl) (fg_in_ix g2) ?_
    refine bs_istore dX12_worthOf_29 rfl (by decide) ?_
    refine bs_aload_n dX12_worthOf_31 rfl ?_
    refine fg_getR (b := (m + 21)) dX12_worthOf_32 fX12_70 (HM.s 0 rfl rfl rfl) hR (HM.r 0 30 rfl rfl rfl) ?_
    refine bs_bipush (v := (nI 64)) dX12_worthOf_35 (by decide) ?_
    refine bs_iload_n dX12_worthOf_37 rfl ?_
    refine bs_imul dX12_worthOf_38 ?_
    refine bs_iload dX12_worthOf_39 rfl ?_
    refine bs_iadd dX12_worthOf_41 ?_
    obtain ⟨g3, h⟩ := fg_gdE h
    refine bs_iald dX12_worthOf_42 (HM.ss 21 rfl rfl) (fg_in_ix g3) ?_
    refine bs_istore dX12_worthOf_43 rfl (by decide) ?_
    refine bs_iload dX12_worthOf_45 rfl ?_
    refine bs_iload dX12_worthOf_47 rfl ?_
    refine bs_icmp_eq (tgt := 74) dX12_worthOf_49 (by decide) (fun c => ?_) (fun c => ?_)
    · replace h := fg_ip c h
      refine bs_W.mk [(0, .ref m), (1, .int l1), (2, .int l2), (3, .int l3), (4, .int l4), (5, .int l5), (6, .int l6), (9, .int (bs_iv (s.2.2 (m + 20) (((nI 64) * l1) + s.2.1).toNatClampNeg))), (10, .int (bs_iv (s.2.2 (m + 21) (((nI 64) * l1) + s.2.1).toNatClampNeg)))] (by intro q hq; simp only [List.mem_cons, List.not_mem_nil, or_false] at hq; rcases hq with rfl | rfl | rfl | rfl | rfl | rfl | rfl | rfl | rfl <;> rfl) ?_
      exact wFX12_worthOf_j74_L6 HM ka ke kr hR h
    · replace h := fg_iN c h
      refine bs_aload_n dX12_worthOf_52 rfl ?_
      refine bs_iload_n dX12_worthOf_53 rfl ?_
      refine bs_iload dX12_worthOf_54 rfl ?_
      refine bs_iload dX12_worthOf_56 rfl ?_
      refine bs_iload_n dX12_worthOf_58 rfl ?_
      refine bs_iload_n dX12_worthOf_59 rfl ?_
      refine bs_iload dX12_worthOf_60 rfl ?_
      refine bs_iload dX12_worthOf_62 rfl ?_
      refine bs_iload dX12_worthOf_64 rfl ?_
      obtain ⟨v9, mu8, k7, h⟩ := fg_b2E h
      refine fg_callV dX12_worthOf_66 qX12_277 (wX12_work HM hR k7) rfl (HM.s 0 rfl rfl rfl) rfl (Nat.le_of_ble_eq_true rfl) (fg_cr (by first | decide | omega) (by decide)) (fun hR => ?_)
      refine bs_lconst (v := 1) dX12_worthOf_69 (by decide) ?_
      refine bs_lcmp dX12_worthOf_70 ?_
      refine bs_if_ne (tgt := 93) dX12_worthOf_71 (by decide) (fun c => ?_) (fun c => ?_)
      · replace h := fg_iN c h
        refine bs_iload dX12_worthOf_93 rfl ?_
        refine bs_istore dX12_worthOf_95 rfl (by decide) ?_
        refine fg_iinc (m := (nI 1)) dX12_worthOf_97 rfl rfl (by decide) ?_
        refine bs_goto (tgt := 6) dX12_worthOf_100 (by decide) ?_
        cases h
        refine bs_W.mk [(0, .ref m), (1, .int l1), (2, .int l2), (3, .int l3), (4, .int l4), (5, .int l5), (6, .int l6), (7, .int (bs_iv (s.2.2 (m + 21) (((nI 64) * l1) + s.2.1).toNatClampNeg))), (8, .int (s.2.1 + (nI 1)))] (by intro q hq; simp only [List.mem_cons, List.not_mem_nil, or_false] at hq; rcases hq with rfl | rfl | rfl | rfl | rfl | rfl | rfl | rfl | rfl <;> rfl) (by have k := ka _ rfl hR; dsimp only at k; exact k)
      · replace h := fg_ip c h
        refine bs_W.mk [(0, .ref m), (1, .int l1), (2, .int l2), (3, .int l3), (4, .int l4), (5, .int l5), (6, .int l6), (9, .int (bs_iv (s.2.2 (m + 20) (((nI 64) * l1) + s.2.1).toNatClampNeg))), (10, .int (bs_iv (s.2.2 (m + 21) (((nI 64) * l1) + s.2.1).toNatClampNeg)))] (by intro q hq; simp only [List.mem_cons, List.not_mem_nil, or_false] at hq; rcases hq with rfl | rfl | rfl | rfl | rfl | rfl | rfl | rfl | rfl <;> rfl) ?_
        exact wFX12_worthOf_j74_L6 HM ka ke kr hR h
theorem wFX12_worthOf_l6 {nx : Nat} {sh : bs_Sh} {R : Nat → Nat → Option Nat} {m : Nat} (HM : fg_S (bs_tM m) R m sh) {l1 : Int32} {l2 : Int32} {l3 : Int32} {l4 : Int32} {l5 : Int32} {l6 : Int32} {Ph : bs_Po} {t : (bs_Mm) ⊕ (Int32 × bs_Mm)} : ∀ n (y0 : Int32) (y1 : Int32) (mu1 : bs_Mm), fg_lp (FX12_worthOf_b6 m l1 l2 l3 l4 l5 l6) n (y0, y1, mu1) = some t → fg_R R mu1 → (ke : ∀ s, t = .inl s → fg_R R s → bs_W Ph mX12_worthOf (bs_rm 4 0 0) 103 (bs_mk [(0, .ref m), (1, .int l1), (2, .int l2), (3, .int l3), (4, .int l4), (5, .int l5), (6, .int l6)]) [] 0 0 nx sh s) → (kr : ∀ q, t = .inr q → fg_R R q.2 → Ph (some (.int q.1)) nx sh q.2) → bs_W Ph mX12_worthOf (bs_rm 4 0 0) 6 (bs_mk [(0, .ref m), (1, .int l1), (2, .int l2), (3, .int l3), (4, .int l4), (5, .int l5), (6, .int l6), (7, .int y0), (8, .int y1)]) [] 0 0 nx sh mu1 := by
  intro n
  induction n with
  | zero => intro y0 y1 mu1 h; exact absurd h (fun z => fg_lp0 z)
  | succ n ih =>
    intro y0 y1 mu1 h hR ke kr
    obtain ⟨r, hb, h1, h2⟩ := fg_lpE h
    exact wFX12_worthOf_b6 (s := (y0, y1, mu1)) HM (fun s' e hR' => ih s'.1 s'.2.1 s'.2.2 (h1 s' e) hR' ke kr) (fun s' e => ke s' (h2 _ e).symm) (fun q e => kr q (h2 _ e).symm) hR hb
noncomputable def FX12_worthOf (m : Nat) (mu : bs_Mm) (p1 : Int32) (p2 : Int32) (p3 : Int32) (p4 : Int32) (p5 : Int32) (p6 : Int32) : Option (Int32 × bs_Mm) :=
  fg_l3 (fg_lp (FX12_worthOf_b6 m p1 p2 p3 p4 p5 p6) fg_fu ((nI 0), (nI 0), mu)) (fun t10 => 
    some ((nI 0), t10)
  ) (fun q12 => some q12)
set_option maxHeartbeats 4000000 in
theorem wX12_worthOf {nx : Nat} {sh : bs_Sh} {R : Nat → Nat → Option Nat} {m : Nat} (HM : fg_S (bs_tM m) R m sh) {mu : bs_Mm} (hR : fg_R R mu) {p1 : Int32} {p2 : Int32} {p3 : Int32} {p4 : Int32} {p5 : Int32} {p6 : Int32} {r : Int32 × bs_Mm} (h : FX12_worthOf m mu p1 p2 p3 p4 p5 p6 = some r) : bs_C mX12_worthOf (bs_rm 4 0 0) [.ref m, .int p1, .int p2, .int p3, .int p4, .int p5, .int p6] nx sh mu (fg_po R nx sh (some (.int r.1)) r.2) := by
  refine bs_ct (by decide +kernel) (Nat.le_of_ble_eq_true rfl) ?_
  have kr : ∀ q, r = q → fg_R R q.2 → (fg_po R nx sh (some (.int r.1)) r.2) (some (.int q.1)) nx sh q.2 := fun q e hq => by subst e; exact ⟨rfl, rfl, rfl, rfl, hq⟩
  unfold FX12_worthOf at h
  refine bs_iconst (v := (nI 0)) dX12_worthOf_0 (by decide) ?_
  refine bs_istore dX12_worthOf_1 rfl (by decide) ?_
  refine bs_iconst (v := (nI 0)) dX12_worthOf_3 (by decide) ?_
  refine bs_istore dX12_worthOf_4 rfl (by decide) ?_
  obtain ⟨t100, k11, h1, h2⟩ := fg_l3E h
  refine bs_W.mk [(0, .ref m), (1, .int p1), (2, .int p2), (3, .int p3), (4, .int p4), (5, .int p5), (6, .int p6), (7, .int (nI 0)), (8, .int (nI 0))] (by intro q hq; simp only [List.mem_cons, List.not_mem_nil, or_false] at hq; rcases hq with rfl | rfl | rfl | rfl | rfl | rfl | rfl | rfl | rfl <;> rfl) ?_
  refine wFX12_worthOf_l6 HM _ _ _ _ k11 hR ?_ ?_
  · intro t10 e hR
    replace h := h1 t10 e
    refine bs_iconst (v := (nI 0)) dX12_worthOf_103 (by decide) ?_
    cases h
    exact bs_iret dX12_worthOf_104 rfl (Nat.zero_le _) (Nat.zero_le _) (kr _ rfl hR)
  · intro q12 e hR
    replace h := h2 q12 e
    cases h
    exact kr _ rfl hR
noncomputable def FX12_leftOf_j74_L16_L5 (m : Nat) (mu : bs_Mm) (l1 : Int32) (l2 : Int32) (l3 : Int32) (l4 : Int32) (l5 : Int32) (l6 : Int32) (t0 : Int32) : Option ((Int32 × Int32 × Int32) ⊕ (Int32 × Int32)) :=
  if l6 = t0 then (
    some (.inl (l3, l4, (l5 + (nI 1))))
  ) else (
    fg_gd (fg_in (((nI 24) * l1) + l5) 312) (
    fg_bd (FX12_endsIn m mu l1 (bs_iv (mu (m + 12) (((nI 24) * l1) + l5).toNatClampNeg)) l3) (fun v6 => 
    if (nI 3) ≤ v6 then (
      some (.inl (l3, l4, (l5 + (nI 1))))
    ) else (
      some (.inl ((l3 &&& (((nI 3) <<< (l5 &&& 31)) ^^^ (-1))), (nI 1), (l5 + (nI 1))))
    )))
  )
set_option maxHeartbeats 4000000 in
theorem wFX12_leftOf_j74_L16_L5 {nx : Nat} {sh : bs_Sh} {R : Nat → Nat → Option Nat} {m : Nat} (HM : fg_S (bs_tM m) R m sh) {mu : bs_Mm} {l1 : Int32} {l2 : Int32} {l3 : Int32} {l4 : Int32} {l5 : Int32} {l6 : Int32} {t0 : Int32} {Ph : bs_Po} {r : (Int32 × Int32 × Int32) ⊕ (Int32 × Int32)} (ka : ∀ s, r = .inl s → bs_W Ph mX12_leftOf (bs_rm 1 0 0) 16 (bs_mk [(0, .ref m), (1, .int l1), (2, .int l2), (3, .int s.1), (4, .int s.2.1), (5, .int s.2.2)]) [] 0 0 nx sh mu) (ke : ∀ s, r = .inr s → bs_W Ph mX12_leftOf (bs_rm 1 0 0) 123 (bs_mk [(0, .ref m), (1, .int l1), (2, .int l2), (3, .int s.1), (4, .int s.2)]) [] 0 0 nx sh mu) (hR : fg_R R mu) (h : FX12_leftOf_j74_L16_L5 m mu l1 l2 l3 l4 l5 l6 t0 = some r) : bs_W Ph mX12_leftOf (bs_rm 1 0 0) 74 (bs_mk [(0, .ref m), (1, .int l1), (2, .int l2), (3, .int l3), (4, .int l4), (5, .int l5), (6, .int l6)]) [.int t0] 0 0 nx sh mu := by
  unfold FX12_leftOf_j74_L16_L5 at h
  refine bs_istore dX12_leftOf_74 rfl (by decide) ?_
  refine bs_iload dX12_leftOf_76 rfl ?_
  refine bs_iload dX12_leftOf_78 rfl ?_
  refine bs_icmp_eq (tgt := 117) dX12_leftOf_80 (by decide) (fun c => ?_) (fun c => ?_)
  · replace h := fg_ip c h
    refine fg_iinc (m := (nI 1)) dX12_leftOf_117 rfl rfl (by decide) ?_
    refine bs_goto (tgt := 16) dX12_leftOf_120 (by decide) ?_
    cases h
    refine bs_W.mk [(0, .ref m), (1, .int l1), (2, .int l2), (3, .int l3), (4, .int l4), (5, .int (l5 + (nI 1)))] (by intro q hq; simp only [List.mem_cons, List.not_mem_nil, or_false] at hq; rcases hq with rfl | rfl | rfl | rfl | rfl | rfl <;> rfl) (by have k := ka _ rfl; dsimp only at k; exact k)
  · replace h := fg_iN c h
    refine bs_aload_n dX12_leftOf_83 rfl ?_
    refine bs_iload_n dX12_leftOf_84 rfl ?_
    refine bs_aload_n dX12_leftOf_85 rfl ?_
    refine fg_getR (b := (m + 12)) dX12_leftOf_86 fX12_43 (HM.s 0 rfl rfl rfl) hR (HM.r 0 17 rfl rfl rfl) ?_
    refine bs_bipush (v := (nI 24)) dX12_leftOf_89 (by decide) ?_
    refine bs_iload_n dX12_leftOf_91 rfl ?_
    refine bs_imul dX12_leftOf_92 ?_
    refine bs_iload dX12_leftOf_93 rfl ?_
    refine bs_iadd dX12_leftOf_95 ?_
    obtain ⟨g4, h⟩ := fg_gdE h
    refine bs_iald dX12_leftOf_96 (HM.ss 12 rfl rfl) (fg_in_ix g4) ?_
    refine bs_iload_n dX12_leftOf_97 rfl ?_
    obtain ⟨v6, k5, h⟩ := fg_bdE h
    refine fg_callV dX12_leftOf_98 qX12_290 (wX12_endsIn HM hR k5) rfl (HM.s 0 rfl rfl rfl) rfl (Nat.le_of_ble_eq_true rfl) (fg_cr (by first | decide | omega) (by decide)) (fun hR => ?_)
    refine bs_iconst (v := (nI 3)) dX12_leftOf_101 (by decide) ?_
    refine bs_icmp_ge (tgt := 117) dX12_leftOf_102 (by decide) (fun c => ?_) (fun c => ?_)
    · replace h := fg_ip c h
      refine fg_iinc (m := (nI 1)) dX12_leftOf_117 rfl rfl (by decide) ?_
      refine bs_goto (tgt := 16) dX12_leftOf_120 (by decide) ?_
      cases h
      refine bs_W.mk [(0, .ref m), (1, .int l1), (2, .int l2), (3, .int l3), (4, .int l4), (5, .int (l5 + (nI 1)))] (by intro q hq; simp only [List.mem_cons, List.not_mem_nil, or_false] at hq; rcases hq with rfl | rfl | rfl | rfl | rfl | rfl <;> rfl) (by have k := ka _ rfl; dsimp only at k; exact k)
    · replace h := fg_iN c h
      refine bs_iload_n dX12_leftOf_105 rfl ?_
      refine bs_iconst (v := (nI 3)) dX12_leftOf_106 (by decide) ?_
      refine bs_iload dX12_leftOf_107 rfl ?_
      refine bs_ishl dX12_leftOf_109 ?_
      refine bs_iconst (v := (-1)) dX12_leftOf_110 (by decide) ?_
      refine bs_ixor dX12_leftOf_111 ?_
      refine bs_iand dX12_leftOf_112 ?_
      refine bs_istore_n dX12_leftOf_113 rfl (by decide) ?_
      refine bs_iconst (v := (nI 1)) dX12_leftOf_114 (by decide) ?_
      refine bs_istore dX12_leftOf_115 rfl (by decide) ?_
      refine fg_iinc (m := (nI 1)) dX12_leftOf_117 rfl rfl (by decide) ?_
      refine bs_goto (tgt := 16) dX12_leftOf_120 (by decide) ?_
      cases h
      refine bs_W.mk [(0, .ref m), (1, .int l1), (2, .int l2), (3, .int (l3 &&& (((nI 3) <<< (l5 &&& 31)) ^^^ (-1)))), (4, .int (nI 1)), (5, .int (l5 + (nI 1)))] (by intro q hq; simp only [List.mem_cons, List.not_mem_nil, or_false] at hq; rcases hq with rfl | rfl | rfl | rfl | rfl | rfl <;> rfl) (by have k := ka _ rfl; dsimp only at k; exact k)
noncomputable def FX12_leftOf_j55_L16_L5 (m : Nat) (mu : bs_Mm) (l1 : Int32) (l2 : Int32) (l3 : Int32) (l4 : Int32) (l5 : Int32) (t0 : Int32) : Option ((Int32 × Int32 × Int32) ⊕ (Int32 × Int32)) :=
  if ((l3 >>> ((l5 + (nI 1)) &&& 31)) &&& (nI 1)) = (nI 1) then (
    FX12_leftOf_j74_L16_L5 m mu l1 l2 l3 l4 l5 t0 (nI 1)
  ) else (
    FX12_leftOf_j74_L16_L5 m mu l1 l2 l3 l4 l5 t0 (nI 0)
  )
set_option maxHeartbeats 4000000 in
theorem wFX12_leftOf_j55_L16_L5 {nx : Nat} {sh : bs_Sh} {R : Nat → Nat → Option Nat} {m : Nat} (HM : fg_S (bs_tM m) R m sh) {mu : bs_Mm} {l1 : Int32} {l2 : Int32} {l3 : Int32} {l4 : Int32} {l5 : Int32} {t0 : Int32} {Ph : bs_Po} {r : (Int32 × Int32 × Int32) ⊕ (Int32 × Int32)} (ka : ∀ s, r = .inl s → bs_W Ph mX12_leftOf (bs_rm 1 0 0) 16 (bs_mk [(0, .ref m), (1, .int l1), (2, .int l2), (3, .int s.1), (4, .int s.2.1), (5, .int s.2.2)]) [] 0 0 nx sh mu) (ke : ∀ s, r = .inr s → bs_W Ph mX12_leftOf (bs_rm 1 0 0) 123 (bs_mk [(0, .ref m), (1, .int l1), (2, .int l2), (3, .int s.1), (4, .int s.2)]) [] 0 0 nx sh mu) (hR : fg_R R mu) (h : FX12_leftOf_j55_L16_L5 m mu l1 l2 l3 l4 l5 t0 = some r) : bs_W Ph mX12_leftOf (bs_rm 1 0 0) 55 (bs_mk [(0, .ref m), (1, .int l1), (2, .int l2), (3, .int l3), (4, .int l4), (5, .int l5)]) [.int t0] 0 0 nx sh mu := by
  unfold FX12_leftOf_j55_L16_L5 at h
  refine bs_istore dX12_leftOf_55 rfl (by decide) ?_
  refine bs_iload_n dX12_leftOf_57 rfl ?_
  refine bs_iload dX12_leftOf_58 rfl ?_
  refine bs_iconst (v := (nI 1)) dX12_leftOf_60 (by decide) ?_
  refine bs_iadd dX12_leftOf_61 ?_
  refine bs_ishr dX12_leftOf_62 ?_
  refine bs_iconst (v := (nI 1)) dX12_leftOf_63 (by decide) ?_
  refine bs_iand dX12_leftOf_64 ?_
  refine bs_iconst (v := (nI 1)) dX12_leftOf_65 (by decide) ?_
  refine bs_icmp_ne (tgt := 73) dX12_leftOf_66 (by decide) (fun c => ?_) (fun c => ?_)
  · replace h := fg_iN c h
    refine bs_iconst (v := (nI 0)) dX12_leftOf_73 (by decide) ?_
    refine bs_W.mk [(0, .ref m), (1, .int l1), (2, .int l2), (3, .int l3), (4, .int l4), (5, .int l5), (6, .int t0)] (by intro q hq; simp only [List.mem_cons, List.not_mem_nil, or_false] at hq; rcases hq with rfl | rfl | rfl | rfl | rfl | rfl | rfl <;> rfl) ?_
    exact wFX12_leftOf_j74_L16_L5 HM ka ke hR h
  · replace h := fg_ip c h
    refine bs_iconst (v := (nI 1)) dX12_leftOf_69 (by decide) ?_
    refine bs_goto (tgt := 74) dX12_leftOf_70 (by decide) ?_
    refine bs_W.mk [(0, .ref m), (1, .int l1), (2, .int l2), (3, .int l3), (4, .int l4), (5, .int l5), (6, .int t0)] (by intro q hq; simp only [List.mem_cons, List.not_mem_nil, or_false] at hq; rcases hq with rfl | rfl | rfl | rfl | rfl | rfl | rfl <;> rfl) ?_
    exact wFX12_leftOf_j74_L16_L5 HM ka ke hR h
noncomputable def FX12_leftOf_b16_L5 (m : Nat) (mu : bs_Mm) (l1 : Int32) (l2 : Int32) (s : Int32 × Int32 × Int32) : Option ((Int32 × Int32 × Int32) ⊕ (Int32 × Int32)) :=
  fg_gd (fg_in l1 13) (
  if (bs_iv (mu (m + 8) l1.toNatClampNeg)) ≤ s.2.2 then (
    some (.inr (s.1, s.2.1))
  ) else (
    fg_bd (FX12_isTwist m mu l1 s.2.2) (fun v3 => 
    if v3 = 0 then (
      some (.inl (s.1, s.2.1, (s.2.2 + (nI 1))))
    ) else (
      if ((s.1 >>> (s.2.2 &&& 31)) &&& (nI 1)) = (nI 1) then (
        FX12_leftOf_j55_L16_L5 m mu l1 l2 s.1 s.2.1 s.2.2 (nI 1)
      ) else (
        FX12_leftOf_j55_L16_L5 m mu l1 l2 s.1 s.2.1 s.2.2 (nI 0)
      )
    ))
  ))
set_option maxHeartbeats 4000000 in
theorem wFX12_leftOf_b16_L5 {nx : Nat} {sh : bs_Sh} {R : Nat → Nat → Option Nat} {m : Nat} (HM : fg_S (bs_tM m) R m sh) {mu : bs_Mm} {l1 : Int32} {l2 : Int32} {Ph : bs_Po} {s : Int32 × Int32 × Int32} {r : (Int32 × Int32 × Int32) ⊕ (Int32 × Int32)} (ka : ∀ s, r = .inl s → bs_W Ph mX12_leftOf (bs_rm 1 0 0) 16 (bs_mk [(0, .ref m), (1, .int l1), (2, .int l2), (3, .int s.1), (4, .int s.2.1), (5, .int s.2.2)]) [] 0 0 nx sh mu) (ke : ∀ s, r = .inr s → bs_W Ph mX12_leftOf (bs_rm 1 0 0) 123 (bs_mk [(0, .ref m), (1, .int l1), (2, .int l2), (3, .int s.1), (4, .int s.2)]) [] 0 0 nx sh mu) (hR : fg_R R mu) (h : FX12_leftOf_b16_L5 m mu l1 l2 s = some r) : bs_W Ph mX12_leftOf (bs_rm 1 0 0) 16 (bs_mk [(0, .ref m), (1, .int l1), (2, .int l2), (3, .int s.1), (4, .int s.2.1), (5, .int s.2.2)]) [] 0 0 nx sh mu := by
  unfold FX12_leftOf_b16_L5 at h
  refine bs_iload dX12_leftOf_16 rfl ?_
  refine bs_aload_n dX12_leftOf_18 rfl ?_
  refine fg_getR (b := (m + 8)) dX12_leftOf_19 fX12_31 (HM.s 0 rfl rfl rfl) hR (HM.r 0 13 rfl rfl rfl) ?_
  refine bs_iload_n dX12_leftOf_22 rfl ?_
  obtain ⟨g1, h⟩ := fg_gdE h
  refine bs_iald dX12_leftOf_23 (HM.ss 8 rfl rfl) (fg_in_ix g1) ?_
  refine bs_icmp_ge (tgt := 123) dX12_leftOf_24 (by decide) (fun c => ?_) (fun c => ?_)
  · replace h := fg_ip c h
    cases h
    refine bs_W.mk [(0, .ref m), (1, .int l1), (2, .int l2), (3, .int s.1), (4, .int s.2.1)] (by intro q hq; simp only [List.mem_cons, List.not_mem_nil, or_false] at hq; rcases hq with rfl | rfl | rfl | rfl | rfl <;> rfl) (ke _ rfl)
  · replace h := fg_iN c h
    refine bs_aload_n dX12_leftOf_27 rfl ?_
    refine bs_iload_n dX12_leftOf_28 rfl ?_
    refine bs_iload dX12_leftOf_29 rfl ?_
    obtain ⟨v3, k2, h⟩ := fg_bdE h
    refine fg_callV dX12_leftOf_31 qX12_294 (wX12_isTwist HM hR k2) rfl (HM.s 0 rfl rfl rfl) rfl (Nat.le_of_ble_eq_true rfl) (fg_cr (by first | decide | omega) (by decide)) (fun hR => ?_)
    refine bs_if_ne (tgt := 40) dX12_leftOf_34 (by decide) (fun c => ?_) (fun c => ?_)
    · replace h := fg_iN c h
      refine bs_iload_n dX12_leftOf_40 rfl ?_
      refine bs_iload dX12_leftOf_41 rfl ?_
      refine bs_ishr dX12_leftOf_43 ?_
      refine bs_iconst (v := (nI 1)) dX12_leftOf_44 (by decide) ?_
      refine bs_iand dX12_leftOf_45 ?_
      refine bs_iconst (v := (nI 1)) dX12_leftOf_46 (by decide) ?_
      refine bs_icmp_ne (tgt := 54) dX12_leftOf_47 (by decide) (fun c => ?_) (fun c => ?_)
      · replace h := fg_iN c h
        refine bs_iconst (v := (nI 0)) dX12_leftOf_54 (by decide) ?_
        refine bs_W.mk [(0, .ref m), (1, .int l1), (2, .int l2), (3, .int s.1), (4, .int s.2.1), (5, .int s.2.2)] (by intro q hq; simp only [List.mem_cons, List.not_mem_nil, or_false] at hq; rcases hq with rfl | rfl | rfl | rfl | rfl | rfl <;> rfl) ?_
        exact wFX12_leftOf_j55_L16_L5 HM ka ke hR h
      · replace h := fg_ip c h
        refine bs_iconst (v := (nI 1)) dX12_leftOf_50 (by decide) ?_
        refine bs_goto (tgt := 55) dX12_leftOf_51 (by decide) ?_
        refine bs_W.mk [(0, .ref m), (1, .int l1), (2, .int l2), (3, .int s.1), (4, .int s.2.1), (5, .int s.2.2)] (by intro q hq; simp only [List.mem_cons, List.not_mem_nil, or_false] at hq; rcases hq with rfl | rfl | rfl | rfl | rfl | rfl <;> rfl) ?_
        exact wFX12_leftOf_j55_L16_L5 HM ka ke hR h
    · replace h := fg_ip c h
      refine bs_goto (tgt := 117) dX12_leftOf_37 (by decide) ?_
      refine fg_iinc (m := (nI 1)) dX12_leftOf_117 rfl rfl (by decide) ?_
      refine bs_goto (tgt := 16) dX12_leftOf_120 (by decide) ?_
      cases h
      refine bs_W.mk [(0, .ref m), (1, .int l1), (2, .int l2), (3, .int s.1), (4, .int s.2.1), (5, .int (s.2.2 + (nI 1)))] (by intro q hq; simp only [List.mem_cons, List.not_mem_nil, or_false] at hq; rcases hq with rfl | rfl | rfl | rfl | rfl | rfl <;> rfl) (by have k := ka _ rfl; dsimp only at k; exact k)
theorem wFX12_leftOf_l16_L5 {nx : Nat} {sh : bs_Sh} {R : Nat → Nat → Option Nat} {m : Nat} (HM : fg_S (bs_tM m) R m sh) {mu : bs_Mm} {l1 : Int32} {l2 : Int32} {Ph : bs_Po} {t : Int32 × Int32} : ∀ n (y0 : Int32) (y1 : Int32) (y2 : Int32), fg_lp (FX12_leftOf_b16_L5 m mu l1 l2) n (y0, y1, y2) = some t → fg_R R mu → (ke : ∀ s, t = s → bs_W Ph mX12_leftOf (bs_rm 1 0 0) 123 (bs_mk [(0, .ref m), (1, .int l1), (2, .int l2), (3, .int s.1), (4, .int s.2)]) [] 0 0 nx sh mu) → bs_W Ph mX12_leftOf (bs_rm 1 0 0) 16 (bs_mk [(0, .ref m), (1, .int l1), (2, .int l2), (3, .int y0), (4, .int y1), (5, .int y2)]) [] 0 0 nx sh mu := by
  intro n
  induction n with
  | zero => intro y0 y1 y2 h; exact absurd h (fun z => fg_lp0 z)
  | succ n ih =>
    intro y0 y1 y2 h hR ke
    obtain ⟨r, hb, h1, h2⟩ := fg_lpE h
    exact wFX12_leftOf_b16_L5 (s := (y0, y1, y2)) HM (fun s' e => ih s'.1 s'.2.1 s'.2.2 (h1 s' e) hR ke) (fun s' e => ke s' (h2 _ e).symm) hR hb
noncomputable def FX12_leftOf_b5 (m : Nat) (mu : bs_Mm) (l1 : Int32) (l2 : Int32) (s : Int32 × Int32) : Option ((Int32 × Int32) ⊕ (Int32)) :=
  if s.2 = 0 then (
    some (.inr s.1)
  ) else (
    fg_bd (fg_lp (FX12_leftOf_b16_L5 m mu l1 l2) fg_fu (s.1, (nI 0), (nI 0))) (fun t7 => 
      some (.inl (t7.1, t7.2))
    )
  )
set_option maxHeartbeats 4000000 in
theorem wFX12_leftOf_b5 {nx : Nat} {sh : bs_Sh} {R : Nat → Nat → Option Nat} {m : Nat} (HM : fg_S (bs_tM m) R m sh) {mu : bs_Mm} {l1 : Int32} {l2 : Int32} {Ph : bs_Po} {s : Int32 × Int32} {r : (Int32 × Int32) ⊕ (Int32)} (ka : ∀ s, r = .inl s → bs_W Ph mX12_leftOf (bs_rm 1 0 0) 5 (bs_mk [(0, .ref m), (1, .int l1), (2, .int l2), (3, .int s.1), (4, .int s.2)]) [] 0 0 nx sh mu) (ke : ∀ s, r = .inr s → bs_W Ph mX12_leftOf (bs_rm 1 0 0) 126 (bs_mk [(0, .ref m), (1, .int l1), (2, .int l2), (3, .int s)]) [] 0 0 nx sh mu) (hR : fg_R R mu) (h : FX12_leftOf_b5 m mu l1 l2 s = some r) : bs_W Ph mX12_leftOf (bs_rm 1 0 0) 5 (bs_mk [(0, .ref m), (1, .int l1), (2, .int l2), (3, .int s.1), (4, .int s.2)]) [] 0 0 nx sh mu := by
  unfold FX12_leftOf_b5 at h
  refine bs_iload dX12_leftOf_5 rfl ?_
  refine bs_if_eq (tgt := 126) dX12_leftOf_7 (by decide) (fun c => ?_) (fun c => ?_)
  · replace h := fg_ip c h
    cases h
    refine bs_W.mk [(0, .ref m), (1, .int l1), (2, .int l2), (3, .int s.1)] (by intro q hq; simp only [List.mem_cons, List.not_mem_nil, or_false] at hq; rcases hq with rfl | rfl | rfl | rfl <;> rfl) (ke _ rfl)
  · replace h := fg_iN c h
    refine bs_iconst (v := (nI 0)) dX12_leftOf_10 (by decide) ?_
    refine bs_istore dX12_leftOf_11 rfl (by decide) ?_
    refine bs_iconst (v := (nI 0)) dX12_leftOf_13 (by decide) ?_
    refine bs_istore dX12_leftOf_14 rfl (by decide) ?_
    obtain ⟨t7, k8, h⟩ := fg_bdE h
    refine bs_W.mk [(0, .ref m), (1, .int l1), (2, .int l2), (3, .int s.1), (4, .int (nI 0)), (5, .int (nI 0))] (by intro q hq; simp only [List.mem_cons, List.not_mem_nil, or_false] at hq; rcases hq with rfl | rfl | rfl | rfl | rfl | rfl <;> rfl) ?_
    refine wFX12_leftOf_l16_L5 HM _ _ _ _ k8 hR ?_
    intro s e
    subst e
    refine bs_goto (tgt := 5) dX12_leftOf_123 (by decide) ?_
    cases h
    refine bs_W.mk [(0, .ref m), (1, .int l1), (2, .int l2), (3, .int t7.1), (4, .int t7.2)] (by intro q hq; simp only [List.mem_cons, List.not_mem_nil, or_false] at hq; rcases hq with rfl | rfl | rfl | rfl | rfl <;> rfl) (ka _ rfl)
theorem wFX12_leftOf_l5 {nx : Nat} {sh : bs_Sh} {R : Nat → Nat → Option Nat} {m : Nat} (HM : fg_S (bs_tM m) R m sh) {mu : bs_Mm} {l1 : Int32} {l2 : Int32} {Ph : bs_Po} {t : Int32} : ∀ n (y0 : Int32) (y1 : Int32), fg_lp (FX12_leftOf_b5 m mu l1 l2) n (y0, y1) = some t → fg_R R mu → (ke : ∀ s, t = s → bs_W Ph mX12_leftOf (bs_rm 1 0 0) 126 (bs_mk [(0, .ref m), (1, .int l1), (2, .int l2), (3, .int s)]) [] 0 0 nx sh mu) → bs_W Ph mX12_leftOf (bs_rm 1 0 0) 5 (bs_mk [(0, .ref m), (1, .int l1), (2, .int l2), (3, .int y0), (4, .int y1)]) [] 0 0 nx sh mu := by
  intro n
  induction n with
  | zero => intro y0 y1 h; exact absurd h (fun z => fg_lp0 z)
  | succ n ih =>
    intro y0 y1 h hR ke
    obtain ⟨r, hb, h1, h2⟩ := fg_lpE h
    exact wFX12_leftOf_b5 (s := (y0, y1)) HM (fun s' e => ih s'.1 s'.2 (h1 s' e) hR ke) (fun s' e => ke s' (h2 _ e).symm) hR hb
noncomputable def FX12_leftOf (m : Nat) (mu : bs_Mm) (p1 : Int32) (p2 : Int32) : Option (Int32) :=
  fg_bd (fg_lp (FX12_leftOf_b5 m mu p1 p2) fg_fu (p2, (nI 1))) (fun t9 => 
    some (t9)
  )
set_option maxHeartbeats 4000000 in
theorem wX12_leftOf {nx : Nat} {sh : bs_Sh} {R : Nat → Nat → Option Nat} {m : Nat} (HM : fg_S (bs_tM m) R m sh) {mu : bs_Mm} (hR : fg_R R mu) {p1 : Int32} {p2 : Int32} {r : Int32} (h : FX12_leftOf m mu p1 p2 = some r) : bs_C mX12_leftOf (bs_rm 1 0 0) [.ref m, .int p1, .int p2] nx sh mu (fg_po R nx sh (some (.int r)) mu) := by
  refine bs_ct (by decide +kernel) (Nat.le_of_ble_eq_true rfl) ?_
  have kr : ∀ q, r = q → fg_R R mu → (fg_po R nx sh (some (.int r)) mu) (some (.int q)) nx sh mu := fun q e hq => by subst e; exact ⟨rfl, rfl, rfl, rfl, hq⟩
  unfold FX12_leftOf at h
  refine bs_iload_n dX12_leftOf_0 rfl ?_
  refine bs_istore_n dX12_leftOf_1 rfl (by decide) ?_
  refine bs_iconst (v := (nI 1)) dX12_leftOf_2 (by decide) ?_
  refine bs_istore dX12_leftOf_3 rfl (by decide) ?_
  obtain ⟨t9, k10, h⟩ := fg_bdE h
  refine bs_W.mk [(0, .ref m), (1, .int p1), (2, .int p2), (3, .int p2), (4, .int (nI 1))] (by intro q hq; simp only [List.mem_cons, List.not_mem_nil, or_false] at hq; rcases hq with rfl | rfl | rfl | rfl | rfl <;> rfl) ?_
  refine wFX12_leftOf_l5 HM _ _ _ k10 hR ?_
  intro s e
  subst e
  refine bs_iload_n dX12_leftOf_126 rfl ?_
  cases h
  exact bs_iret dX12_leftOf_127 rfl (Nat.zero_le _) (Nat.zero_le _) (kr _ rfl hR)
noncomputable def FX12_age_b3 (m : Nat)  (l1 : Int32) (l2 : Int32) (l3 : Int32) (s : Int32 × bs_Mm) : Option ((Int32 × bs_Mm) ⊕ (bs_Mm)) :=
  fg_gd (fg_in l1 13) (
  if (bs_iv (s.2 (m + 8) l1.toNatClampNeg)) ≤ s.1 then (
    some (.inr s.2)
  ) else (
    if (((bs_iv (s.2 m 51)) >>> (s.1 &&& 31)) &&& (nI 1)) = (nI 1) then (
      fg_gd (fg_in (((nI 24) * l1) + s.1) 312) (
      fg_gd (fg_in (((nI 6) * l1) + (bs_iv (s.2 (m + 13) (((nI 24) * l1) + s.1).toNatClampNeg))) 78) (
      fg_gd (fg_in (((nI 24) * l1) + s.1) 312) (
      fg_bd (FX12_endsIn m s.2 l1 (bs_iv (s.2 (m + 11) (((nI 24) * l1) + s.1).toNatClampNeg)) (bs_iv (s.2 m 51))) (fun v8 => 
      fg_gd (fg_in (((nI 24) * l1) + s.1) 312) (
      fg_bd (FX12_endsIn m s.2 l1 (bs_iv (s.2 (m + 12) (((nI 24) * l1) + s.1).toNatClampNeg)) (bs_iv (s.2 m 51))) (fun v11 => 
      fg_gd (fg_in s.1 24) (
      fg_gd (fg_in s.1 24) (
      fg_gd (fg_in (bs_iv (s.2 (m + 7) (((nI 6) * l1) + (bs_iv (s.2 (m + 13) (((nI 24) * l1) + s.1).toNatClampNeg))).toNatClampNeg)) 6) (
      fg_gd (fg_in (bs_iv (s.2 (m + 7) (((nI 6) * l1) + (bs_iv (s.2 (m + 13) (((nI 24) * l1) + s.1).toNatClampNeg))).toNatClampNeg)) 6) (
      fg_b2 (FX12_worthOf m s.2 l2 (bs_iv (s.2 (m + 33) s.1.toNatClampNeg)) l3 (v8 + v11) (bs_iv (s.2 (m + 2) (bs_iv (s.2 (m + 7) (((nI 6) * l1) + (bs_iv (s.2 (m + 13) (((nI 24) * l1) + s.1).toNatClampNeg))).toNatClampNeg)).toNatClampNeg)) (bs_iv (s.2 (m + 1) (bs_iv (s.2 (m + 7) (((nI 6) * l1) + (bs_iv (s.2 (m + 13) (((nI 24) * l1) + s.1).toNatClampNeg))).toNatClampNeg)).toNatClampNeg))) (fun v18 mu17 => 
      fg_gd (fg_in s.1 24) (
      fg_wr mu17 (m + 34) s.1.toNatClampNeg (.int (if (nI 0) < (if v18 < (bs_iv (s.2 (m + 33) s.1.toNatClampNeg)) then v18 else (bs_iv (s.2 (m + 33) s.1.toNatClampNeg))) then (if v18 < (bs_iv (s.2 (m + 33) s.1.toNatClampNeg)) then v18 else (bs_iv (s.2 (m + 33) s.1.toNatClampNeg))) else (nI 0))) (fun mu20 => 
      some (.inl ((s.1 + (nI 1)), mu20)))))))))))))))
    ) else (
      fg_gd (fg_in s.1 24) (
      fg_wr s.2 (m + 34) s.1.toNatClampNeg (.int (nI 0)) (fun mu3 => 
      some (.inl ((s.1 + (nI 1)), mu3))))
    )
  ))
set_option maxHeartbeats 4000000 in
theorem wFX12_age_b3 {nx : Nat} {sh : bs_Sh} {R : Nat → Nat → Option Nat} {m : Nat} (HM : fg_S (bs_tM m) R m sh) {l1 : Int32} {l2 : Int32} {l3 : Int32} {Ph : bs_Po} {s : Int32 × bs_Mm} {r : (Int32 × bs_Mm) ⊕ (bs_Mm)} (ka : ∀ s, r = .inl s → fg_R R s.2 → bs_W Ph mX12_age (bs_rm 5 0 0) 3 (bs_mk [(0, .ref m), (1, .int l1), (2, .int l2), (3, .int l3), (4, .int s.1)]) [] 0 0 nx sh s.2) (ke : ∀ s, r = .inr s → fg_R R s → bs_W Ph mX12_age (bs_rm 5 0 0) 157 (bs_mk [(0, .ref m), (1, .int l1), (2, .int l2), (3, .int l3)]) [] 0 0 nx sh s) (hR : fg_R R s.2) (h : FX12_age_b3 m l1 l2 l3 s = some r) : bs_W Ph mX12_age (bs_rm 5 0 0) 3 (bs_mk [(0, .ref m), (1, .int l1), (2, .int l2), (3, .int l3), (4, .int s.1)]) [] 0 0 nx sh s.2 := by
  unfold FX12_age_b3 at h
  refine bs_iload dX12_age_3 rfl ?_
  refine bs_aload_n dX12_age_5 rfl ?_
  refine fg_getR (b := (m + 8)) dX12_age_6 fX12_31 (HM.s 0 rfl rfl rfl) hR (HM.r 0 13 rfl rfl rfl) ?_
  refine bs_iload_n dX12_age_9 rfl ?_
  obtain ⟨g1, h⟩ := fg_gdE h
  refine bs_iald dX12_age_10 (HM.ss 8 rfl rfl) (fg_in_ix g1) ?_
  refine bs_icmp_ge (tgt := 157) dX12_age_11 (by decide) (fun c => ?_) (fun c => ?_)
  · replace h := fg_ip c h
    cases h
    refine bs_W.mk [(0, .ref m), (1, .int l1), (2, .int l2), (3, .int l3)] (by intro q hq; simp only [List.mem_cons, List.not_mem_nil, or_false] at hq; rcases hq with rfl | rfl | rfl | rfl <;> rfl) (ke _ rfl hR)
  · replace h := fg_iN c h
    refine bs_aload_n dX12_age_14 rfl ?_
    refine bs_getI dX12_age_15 fX12_411 (HM.s 0 rfl rfl rfl) ?_
    refine bs_iload dX12_age_18 rfl ?_
    refine bs_ishr dX12_age_20 ?_
    refine bs_iconst (v := (nI 1)) dX12_age_21 (by decide) ?_
    refine bs_iand dX12_age_22 ?_
    refine bs_iconst (v := (nI 1)) dX12_age_23 (by decide) ?_
    refine bs_icmp_ne (tgt := 143) dX12_age_24 (by decide) (fun c => ?_) (fun c => ?_)
    · replace h := fg_iN c h
      refine bs_aload_n dX12_age_143 rfl ?_
      refine fg_getR (b := (m + 34)) dX12_age_144 fX12_115 (HM.s 0 rfl rfl rfl) hR (HM.r 0 50 rfl rfl rfl) ?_
      refine bs_iload dX12_age_147 rfl ?_
      refine bs_iconst (v := (nI 0)) dX12_age_149 (by decide) ?_
      obtain ⟨g2, h⟩ := fg_gdE h
      refine fg_iast dX12_age_150 (HM.ss 34 rfl rfl) (fun j => HM.n 34 j rfl rfl rfl) g2 hR h (fun mu3 hR h => ?_)
      refine fg_iinc (m := (nI 1)) dX12_age_151 rfl rfl (by decide) ?_
      refine bs_goto (tgt := 3) dX12_age_154 (by decide) ?_
      cases h
      refine bs_W.mk [(0, .ref m), (1, .int l1), (2, .int l2), (3, .int l3), (4, .int (s.1 + (nI 1)))] (by intro q hq; simp only [List.mem_cons, List.not_mem_nil, or_false] at hq; rcases hq with rfl | rfl | rfl | rfl | rfl <;> rfl) (by have k := ka _ rfl hR; dsimp only at k; exact k)
    · replace h := fg_ip c h
      refine bs_bipush (v := (nI 24)) dX12_age_27 (by decide) ?_
      refine bs_iload_n dX12_age_29 rfl ?_
      refine bs_imul dX12_age_30 ?_
      refine bs_iload dX12_age_31 rfl ?_
      refine bs_iadd dX12_age_33 ?_
      refine bs_istore dX12_age_34 rfl (by decide) ?_
      refine bs_aload_n dX12_age_36 rfl ?_
      refine fg_getR (b := (m + 7)) dX12_age_37 fX12_28 (HM.s 0 rfl rfl rfl) hR (HM.r 0 12 rfl rfl rfl) ?_
      refine bs_bipush (v := (nI 6)) dX12_age_40 (by decide) ?_
      refine bs_iload_n dX12_age_42 rfl ?_
      refine bs_imul dX12_age_43 ?_
      refine bs_aload_n dX12_age_44 rfl ?_
      refine fg_getR (b := (m + 13)) dX12_age_45 fX12_46 (HM.s 0 rfl rfl rfl) hR (HM.r 0 18 rfl rfl rfl) ?_
      refine bs_iload dX12_age_48 rfl ?_
      obtain ⟨g4, h⟩ := fg_gdE h
      refine bs_iald dX12_age_50 (HM.ss 13 rfl rfl) (fg_in_ix g4) ?_
      refine bs_iadd dX12_age_51 ?_
      obtain ⟨g5, h⟩ := fg_gdE h
      refine bs_iald dX12_age_52 (HM.ss 7 rfl rfl) (fg_in_ix g5) ?_
      refine bs_istore dX12_age_53 rfl (by decide) ?_
      refine bs_aload_n dX12_age_55 rfl ?_
      refine bs_iload_n dX12_age_56 rfl ?_
      refine bs_aload_n dX12_age_57 rfl ?_
      refine fg_getR (b := (m + 11)) dX12_age_58 fX12_40 (HM.s 0 rfl rfl rfl) hR (HM.r 0 16 rfl rfl rfl) ?_
      refine bs_iload dX12_age_61 rfl ?_
      obtain ⟨g6, h⟩ := fg_gdE h
      refine bs_iald dX12_age_63 (HM.ss 11 rfl rfl) (fg_in_ix g6) ?_
      refine bs_aload_n dX12_age_64 rfl ?_
      refine bs_getI dX12_age_65 fX12_411 (HM.s 0 rfl rfl rfl) ?_
      obtain ⟨v8, k7, h⟩ := fg_bdE h
      refine fg_callV dX12_age_68 qX12_290 (wX12_endsIn HM hR k7) rfl (HM.s 0 rfl rfl rfl) rfl (Nat.le_of_ble_eq_true rfl) (fg_cr (by first | decide | omega) (by decide)) (fun hR => ?_)
      refine bs_aload_n dX12_age_71 rfl ?_
      refine bs_iload_n dX12_age_72 rfl ?_
      refine bs_aload_n dX12_age_73 rfl ?_
      refine fg_getR (b := (m + 12)) dX12_age_74 fX12_43 (HM.s 0 rfl rfl rfl) hR (HM.r 0 17 rfl rfl rfl) ?_
      refine bs_iload dX12_age_77 rfl ?_
      obtain ⟨g9, h⟩ := fg_gdE h
      refine bs_iald dX12_age_79 (HM.ss 12 rfl rfl) (fg_in_ix g9) ?_
      refine bs_aload_n dX12_age_80 rfl ?_
      refine bs_getI dX12_age_81 fX12_411 (HM.s 0 rfl rfl rfl) ?_
      obtain ⟨v11, k10, h⟩ := fg_bdE h
      refine fg_callV dX12_age_84 qX12_290 (wX12_endsIn HM hR k10) rfl (HM.s 0 rfl rfl rfl) rfl (Nat.le_of_ble_eq_true rfl) (fg_cr (by first | decide | omega) (by decide)) (fun hR => ?_)
      refine bs_iadd dX12_age_87 ?_
      refine bs_istore dX12_age_88 rfl (by decide) ?_
      refine bs_aload_n dX12_age_90 rfl ?_
      refine fg_getR (b := (m + 34)) dX12_age_91 fX12_115 (HM.s 0 rfl rfl rfl) hR (HM.r 0 50 rfl rfl rfl) ?_
      refine bs_iload dX12_age_94 rfl ?_
      refine bs_iconst (v := (nI 0)) dX12_age_96 (by decide) ?_
      refine bs_aload_n dX12_age_97 rfl ?_
      refine fg_getR (b := (m + 33)) dX12_age_98 fX12_112 (HM.s 0 rfl rfl rfl) hR (HM.r 0 49 rfl rfl rfl) ?_
      refine bs_iload dX12_age_101 rfl ?_
      obtain ⟨g12, h⟩ := fg_gdE h
      refine bs_iald dX12_age_103 (HM.ss 33 rfl rfl) (fg_in_ix g12) ?_
      refine bs_aload_n dX12_age_104 rfl ?_
      refine bs_iload_n dX12_age_105 rfl ?_
      refine bs_aload_n dX12_age_106 rfl ?_
      refine fg_getR (b := (m + 33)) dX12_age_107 fX12_112 (HM.s 0 rfl rfl rfl) hR (HM.r 0 49 rfl rfl rfl) ?_
      refine bs_iload dX12_age_110 rfl ?_
      obtain ⟨g13, h⟩ := fg_gdE h
      refine bs_iald dX12_age_112 (HM.ss 33 rfl rfl) (fg_in_ix g13) ?_
      refine bs_iload_n dX12_age_113 rfl ?_
      refine bs_iload dX12_age_114 rfl ?_
      refine bs_aload_n dX12_age_116 rfl ?_
      refine fg_getR (b := (m + 2)) dX12_age_117 fX12_13 (HM.s 0 rfl rfl rfl) hR (HM.r 0 2 rfl rfl rfl) ?_
      refine bs_iload dX12_age_120 rfl ?_
      obtain ⟨g14, h⟩ := fg_gdE h
      refine bs_iald dX12_age_122 (HM.ss 2 rfl rfl) (fg_in_ix g14) ?_
      refine bs_aload_n dX12_age_123 rfl ?_
      refine fg_getR (b := (m + 1)) dX12_age_124 fX12_9 (HM.s 0 rfl rfl rfl) hR (HM.r 0 1 rfl rfl rfl) ?_
      refine bs_iload dX12_age_127 rfl ?_
      obtain ⟨g15, h⟩ := fg_gdE h
      refine bs_iald dX12_age_129 (HM.ss 1 rfl rfl) (fg_in_ix g15) ?_
      obtain ⟨v18, mu17, k16, h⟩ := fg_b2E h
      refine fg_callV dX12_age_130 qX12_281 (wX12_worthOf HM hR k16) rfl (HM.s 0 rfl rfl rfl) rfl (Nat.le_of_ble_eq_true rfl) (fg_cr (by first | decide | omega) (by decide)) (fun hR => ?_)
      refine bs_mmin dX12_age_133 xX12_155 (by first | decide | (simp only [bs_rm]; omega)) (by first | exact Nat.le_of_ble_eq_true rfl | (simp only [bs_rm, List.map, List.sum_cons, List.sum_nil, Value.category]; omega)) (Nat.zero_le _) (Nat.zero_le _) ?_
      refine bs_mmax dX12_age_136 xX12_149 (by first | decide | (simp only [bs_rm]; omega)) (by first | exact Nat.le_of_ble_eq_true rfl | (simp only [bs_rm, List.map, List.sum_cons, List.sum_nil, Value.category]; omega)) (Nat.zero_le _) (Nat.zero_le _) ?_
      obtain ⟨g19, h⟩ := fg_gdE h
      refine fg_iast dX12_age_139 (HM.ss 34 rfl rfl) (fun j => HM.n 34 j rfl rfl rfl) g19 hR h (fun mu20 hR h => ?_)
      refine bs_goto (tgt := 151) dX12_age_140 (by decide) ?_
      refine fg_iinc (m := (nI 1)) dX12_age_151 rfl rfl (by decide) ?_
      refine bs_goto (tgt := 3) dX12_age_154 (by decide) ?_
      cases h
      refine bs_W.mk [(0, .ref m), (1, .int l1), (2, .int l2), (3, .int l3), (4, .int (s.1 + (nI 1)))] (by intro q hq; simp only [List.mem_cons, List.not_mem_nil, or_false] at hq; rcases hq with rfl | rfl | rfl | rfl | rfl <;> rfl) (by have k := ka _ rfl hR; dsimp only at k; exact k)
theorem wFX12_age_l3 {nx : Nat} {sh : bs_Sh} {R : Nat → Nat → Option Nat} {m : Nat} (HM : fg_S (bs_tM m) R m sh) {l1 : Int32} {l2 : Int32} {l3 : Int32} {Ph : bs_Po} {t : bs_Mm} : ∀ n (y0 : Int32) (mu1 : bs_Mm), fg_lp (FX12_age_b3 m l1 l2 l3) n (y0, mu1) = some t → fg_R R mu1 → (ke : ∀ s, t = s → fg_R R s → bs_W Ph mX12_age (bs_rm 5 0 0) 157 (bs_mk [(0, .ref m), (1, .int l1), (2, .int l2), (3, .int l3)]) [] 0 0 nx sh s) → bs_W Ph mX12_age (bs_rm 5 0 0) 3 (bs_mk [(0, .ref m), (1, .int l1), (2, .int l2), (3, .int l3), (4, .int y0)]) [] 0 0 nx sh mu1 := by
  intro n
  induction n with
  | zero => intro y0 mu1 h; exact absurd h (fun z => fg_lp0 z)
  | succ n ih =>
    intro y0 mu1 h hR ke
    obtain ⟨r, hb, h1, h2⟩ := fg_lpE h
    exact wFX12_age_b3 (s := (y0, mu1)) HM (fun s' e hR' => ih s'.1 s'.2 (h1 s' e) hR' ke) (fun s' e => ke s' (h2 _ e).symm) hR hb
noncomputable def FX12_age_b166 (m : Nat)  (l1 : Int32) (l2 : Int32) (l3 : Int32) (s : Int32 × Int32 × bs_Mm) : Option ((Int32 × Int32 × bs_Mm) ⊕ (Int32 × bs_Mm)) :=
  fg_gd (fg_in l1 13) (
  if (bs_iv (s.2.2 (m + 8) l1.toNatClampNeg)) ≤ s.2.1 then (
    some (.inr (s.1, s.2.2))
  ) else (
    fg_gd (fg_in s.2.1 24) (
    fg_gd (fg_in s.2.1 24) (
    fg_gd (fg_in s.2.1 24) (
    fg_wr s.2.2 (m + 33) s.2.1.toNatClampNeg (.int ((bs_iv (s.2.2 (m + 33) s.2.1.toNatClampNeg)) - (bs_iv (s.2.2 (m + 34) s.2.1.toNatClampNeg)))) (fun mu27 => 
    fg_gd (fg_in s.2.1 24) (
    if (bs_iv (mu27 (m + 33) s.2.1.toNatClampNeg)) = 0 then (
      some (.inl ((s.1 &&& (((nI 1) <<< (s.2.1 &&& 31)) ^^^ (-1))), (s.2.1 + (nI 1)), mu27))
    ) else (
      some (.inl ((s.1 &&& (-1)), (s.2.1 + (nI 1)), mu27))
    ))))))
  ))
set_option maxHeartbeats 4000000 in
theorem wFX12_age_b166 {nx : Nat} {sh : bs_Sh} {R : Nat → Nat → Option Nat} {m : Nat} (HM : fg_S (bs_tM m) R m sh) {l1 : Int32} {l2 : Int32} {l3 : Int32} {Ph : bs_Po} {s : Int32 × Int32 × bs_Mm} {r : (Int32 × Int32 × bs_Mm) ⊕ (Int32 × bs_Mm)} (ka : ∀ s, r = .inl s → fg_R R s.2.2 → bs_W Ph mX12_age (bs_rm 5 0 0) 166 (bs_mk [(0, .ref m), (1, .int l1), (2, .int l2), (3, .int l3), (4, .int s.1), (5, .int s.2.1)]) [] 0 0 nx sh s.2.2) (ke : ∀ s, r = .inr s → fg_R R s.2 → bs_W Ph mX12_age (bs_rm 5 0 0) 225 (bs_mk [(0, .ref m), (1, .int l1), (2, .int l2), (3, .int l3), (4, .int s.1)]) [] 0 0 nx sh s.2) (hR : fg_R R s.2.2) (h : FX12_age_b166 m l1 l2 l3 s = some r) : bs_W Ph mX12_age (bs_rm 5 0 0) 166 (bs_mk [(0, .ref m), (1, .int l1), (2, .int l2), (3, .int l3), (4, .int s.1), (5, .int s.2.1)]) [] 0 0 nx sh s.2.2 := by
  unfold FX12_age_b166 at h
  refine bs_iload dX12_age_166 rfl ?_
  refine bs_aload_n dX12_age_168 rfl ?_
  refine fg_getR (b := (m + 8)) dX12_age_169 fX12_31 (HM.s 0 rfl rfl rfl) hR (HM.r 0 13 rfl rfl rfl) ?_
  refine bs_iload_n dX12_age_172 rfl ?_
  obtain ⟨g23, h⟩ := fg_gdE h
  refine bs_iald dX12_age_173 (HM.ss 8 rfl rfl) (fg_in_ix g23) ?_
  refine bs_icmp_ge (tgt := 225) dX12_age_174 (by decide) (fun c => ?_) (fun c => ?_)
  · replace h := fg_ip c h
    cases h
    refine bs_W.mk [(0, .ref m), (1, .int l1), (2, .int l2), (3, .int l3), (4, .int s.1)] (by intro q hq; simp only [List.mem_cons, List.not_mem_nil, or_false] at hq; rcases hq with rfl | rfl | rfl | rfl | rfl <;> rfl) (ke _ rfl hR)
  · replace h := fg_iN c h
    refine bs_aload_n dX12_age_177 rfl ?_
    refine fg_getR (b := (m + 33)) dX12_age_178 fX12_112 (HM.s 0 rfl rfl rfl) hR (HM.r 0 49 rfl rfl rfl) ?_
    refine bs_iload dX12_age_181 rfl ?_
    refine bs_dup2 dX12_age_183 rfl rfl ?_
    obtain ⟨g24, h⟩ := fg_gdE h
    refine bs_iald dX12_age_184 (HM.ss 33 rfl rfl) (fg_in_ix g24) ?_
    refine bs_aload_n dX12_age_185 rfl ?_
    refine fg_getR (b := (m + 34)) dX12_age_186 fX12_115 (HM.s 0 rfl rfl rfl) hR (HM.r 0 50 rfl rfl rfl) ?_
    refine bs_iload dX12_age_189 rfl ?_
    obtain ⟨g25, h⟩ := fg_gdE h
    refine bs_iald dX12_age_191 (HM.ss 34 rfl rfl) (fg_in_ix g25) ?_
    refine bs_isub dX12_age_192 ?_
    obtain ⟨g26, h⟩ := fg_gdE h
    refine fg_iast dX12_age_193 (HM.ss 33 rfl rfl) (fun j => HM.n 33 j rfl rfl rfl) g26 hR h (fun mu27 hR h => ?_)
    refine bs_iload dX12_age_194 rfl ?_
    refine bs_aload_n dX12_age_196 rfl ?_
    refine fg_getR (b := (m + 33)) dX12_age_197 fX12_112 (HM.s 0 rfl rfl rfl) hR (HM.r 0 49 rfl rfl rfl) ?_
    refine bs_iload dX12_age_200 rfl ?_
    obtain ⟨g28, h⟩ := fg_gdE h
    refine bs_iald dX12_age_202 (HM.ss 33 rfl rfl) (fg_in_ix g28) ?_
    refine bs_if_ne (tgt := 215) dX12_age_203 (by decide) (fun c => ?_) (fun c => ?_)
    · replace h := fg_iN c h
      refine bs_iconst (v := (-1)) dX12_age_215 (by decide) ?_
      refine bs_iand dX12_age_216 ?_
      refine bs_istore dX12_age_217 rfl (by decide) ?_
      refine fg_iinc (m := (nI 1)) dX12_age_219 rfl rfl (by decide) ?_
      refine bs_goto (tgt := 166) dX12_age_222 (by decide) ?_
      cases h
      refine bs_W.mk [(0, .ref m), (1, .int l1), (2, .int l2), (3, .int l3), (4, .int (s.1 &&& (-1))), (5, .int (s.2.1 + (nI 1)))] (by intro q hq; simp only [List.mem_cons, List.not_mem_nil, or_false] at hq; rcases hq with rfl | rfl | rfl | rfl | rfl | rfl <;> rfl) (by have k := ka _ rfl hR; dsimp only at k; exact k)
    · replace h := fg_ip c h
      refine bs_iconst (v := (nI 1)) dX12_age_206 (by decide) ?_
      refine bs_iload dX12_age_207 rfl ?_
      refine bs_ishl dX12_age_209 ?_
      refine bs_iconst (v := (-1)) dX12_age_210 (by decide) ?_
      refine bs_ixor dX12_age_211 ?_
      refine bs_goto (tgt := 216) dX12_age_212 (by decide) ?_
      refine bs_iand dX12_age_216 ?_
      refine bs_istore dX12_age_217 rfl (by decide) ?_
      refine fg_iinc (m := (nI 1)) dX12_age_219 rfl rfl (by decide) ?_
      refine bs_goto (tgt := 166) dX12_age_222 (by decide) ?_
      cases h
      refine bs_W.mk [(0, .ref m), (1, .int l1), (2, .int l2), (3, .int l3), (4, .int (s.1 &&& (((nI 1) <<< (s.2.1 &&& 31)) ^^^ (-1)))), (5, .int (s.2.1 + (nI 1)))] (by intro q hq; simp only [List.mem_cons, List.not_mem_nil, or_false] at hq; rcases hq with rfl | rfl | rfl | rfl | rfl | rfl <;> rfl) (by have k := ka _ rfl hR; dsimp only at k; exact k)
theorem wFX12_age_l166 {nx : Nat} {sh : bs_Sh} {R : Nat → Nat → Option Nat} {m : Nat} (HM : fg_S (bs_tM m) R m sh) {l1 : Int32} {l2 : Int32} {l3 : Int32} {Ph : bs_Po} {t : Int32 × bs_Mm} : ∀ n (y0 : Int32) (y1 : Int32) (mu1 : bs_Mm), fg_lp (FX12_age_b166 m l1 l2 l3) n (y0, y1, mu1) = some t → fg_R R mu1 → (ke : ∀ s, t = s → fg_R R s.2 → bs_W Ph mX12_age (bs_rm 5 0 0) 225 (bs_mk [(0, .ref m), (1, .int l1), (2, .int l2), (3, .int l3), (4, .int s.1)]) [] 0 0 nx sh s.2) → bs_W Ph mX12_age (bs_rm 5 0 0) 166 (bs_mk [(0, .ref m), (1, .int l1), (2, .int l2), (3, .int l3), (4, .int y0), (5, .int y1)]) [] 0 0 nx sh mu1 := by
  intro n
  induction n with
  | zero => intro y0 y1 mu1 h; exact absurd h (fun z => fg_lp0 z)
  | succ n ih =>
    intro y0 y1 mu1 h hR ke
    obtain ⟨r, hb, h1, h2⟩ := fg_lpE h
    exact wFX12_age_b166 (s := (y0, y1, mu1)) HM (fun s' e hR' => ih s'.1 s'.2.1 s'.2.2 (h1 s' e) hR' ke) (fun s' e => ke s' (h2 _ e).symm) hR hb
noncomputable def FX12_age_b239 (m : Nat)  (l1 : Int32) (l2 : Int32) (l3 : Int32) (l4 : Int32) (s : Int32 × bs_Mm) : Option ((Int32 × bs_Mm) ⊕ (bs_Mm)) :=
  fg_gd (fg_in l1 13) (
  if (bs_iv (s.2 (m + 8) l1.toNatClampNeg)) ≤ s.1 then (
    some (.inr s.2)
  ) else (
    if (((bs_iv (s.2 m 51)) >>> (s.1 &&& 31)) &&& (nI 1)) = (nI 1) then (
      fg_gd (fg_in s.1 24) (
      fg_gd (fg_in s.1 24) (
      fg_wr s.2 (m + 33) s.1.toNatClampNeg (.int (bs_iv (s.2 (m + 33) s.1.toNatClampNeg))) (fun mu39 => 
      some (.inl ((s.1 + (nI 1)), mu39)))))
    ) else (
      fg_gd (fg_in s.1 24) (
      fg_wr s.2 (m + 33) s.1.toNatClampNeg (.int (nI 0)) (fun mu36 => 
      some (.inl ((s.1 + (nI 1)), mu36))))
    )
  ))
set_option maxHeartbeats 4000000 in
theorem wFX12_age_b239 {nx : Nat} {sh : bs_Sh} {R : Nat → Nat → Option Nat} {m : Nat} (HM : fg_S (bs_tM m) R m sh) {l1 : Int32} {l2 : Int32} {l3 : Int32} {l4 : Int32} {Ph : bs_Po} {s : Int32 × bs_Mm} {r : (Int32 × bs_Mm) ⊕ (bs_Mm)} (ka : ∀ s, r = .inl s → fg_R R s.2 → bs_W Ph mX12_age (bs_rm 5 0 0) 239 (bs_mk [(0, .ref m), (1, .int l1), (2, .int l2), (3, .int l3), (4, .int l4), (5, .int s.1)]) [] 0 0 nx sh s.2) (ke : ∀ s, r = .inr s → fg_R R s → bs_W Ph mX12_age (bs_rm 5 0 0) 287 (bs_mk [(0, .ref m), (1, .int l1), (2, .int l2), (3, .int l3), (4, .int l4)]) [] 0 0 nx sh s) (hR : fg_R R s.2) (h : FX12_age_b239 m l1 l2 l3 l4 s = some r) : bs_W Ph mX12_age (bs_rm 5 0 0) 239 (bs_mk [(0, .ref m), (1, .int l1), (2, .int l2), (3, .int l3), (4, .int l4), (5, .int s.1)]) [] 0 0 nx sh s.2 := by
  unfold FX12_age_b239 at h
  refine bs_iload dX12_age_239 rfl ?_
  refine bs_aload_n dX12_age_241 rfl ?_
  refine fg_getR (b := (m + 8)) dX12_age_242 fX12_31 (HM.s 0 rfl rfl rfl) hR (HM.r 0 13 rfl rfl rfl) ?_
  refine bs_iload_n dX12_age_245 rfl ?_
  obtain ⟨g34, h⟩ := fg_gdE h
  refine bs_iald dX12_age_246 (HM.ss 8 rfl rfl) (fg_in_ix g34) ?_
  refine bs_icmp_ge (tgt := 287) dX12_age_247 (by decide) (fun c => ?_) (fun c => ?_)
  · replace h := fg_ip c h
    cases h
    refine bs_W.mk [(0, .ref m), (1, .int l1), (2, .int l2), (3, .int l3), (4, .int l4)] (by intro q hq; simp only [List.mem_cons, List.not_mem_nil, or_false] at hq; rcases hq with rfl | rfl | rfl | rfl | rfl <;> rfl) (ke _ rfl hR)
  · replace h := fg_iN c h
    refine bs_aload_n dX12_age_250 rfl ?_
    refine fg_getR (b := (m + 33)) dX12_age_251 fX12_112 (HM.s 0 rfl rfl rfl) hR (HM.r 0 49 rfl rfl rfl) ?_
    refine bs_iload dX12_age_254 rfl ?_
    refine bs_aload_n dX12_age_256 rfl ?_
    refine bs_getI dX12_age_257 fX12_411 (HM.s 0 rfl rfl rfl) ?_
    refine bs_iload dX12_age_260 rfl ?_
    refine bs_ishr dX12_age_262 ?_
    refine bs_iconst (v := (nI 1)) dX12_age_263 (by decide) ?_
    refine bs_iand dX12_age_264 ?_
    refine bs_iconst (v := (nI 1)) dX12_age_265 (by decide) ?_
    refine bs_icmp_ne (tgt := 279) dX12_age_266 (by decide) (fun c => ?_) (fun c => ?_)
    · replace h := fg_iN c h
      refine bs_iconst (v := (nI 0)) dX12_age_279 (by decide) ?_
      obtain ⟨g35, h⟩ := fg_gdE h
      refine fg_iast dX12_age_280 (HM.ss 33 rfl rfl) (fun j => HM.n 33 j rfl rfl rfl) g35 hR h (fun mu36 hR h => ?_)
      refine fg_iinc (m := (nI 1)) dX12_age_281 rfl rfl (by decide) ?_
      refine bs_goto (tgt := 239) dX12_age_284 (by decide) ?_
      cases h
      refine bs_W.mk [(0, .ref m), (1, .int l1), (2, .int l2), (3, .int l3), (4, .int l4), (5, .int (s.1 + (nI 1)))] (by intro q hq; simp only [List.mem_cons, List.not_mem_nil, or_false] at hq; rcases hq with rfl | rfl | rfl | rfl | rfl | rfl <;> rfl) (by have k := ka _ rfl hR; dsimp only at k; exact k)
    · replace h := fg_ip c h
      refine bs_aload_n dX12_age_269 rfl ?_
      refine fg_getR (b := (m + 33)) dX12_age_270 fX12_112 (HM.s 0 rfl rfl rfl) hR (HM.r 0 49 rfl rfl rfl) ?_
      refine bs_iload dX12_age_273 rfl ?_
      obtain ⟨g37, h⟩ := fg_gdE h
      refine bs_iald dX12_age_275 (HM.ss 33 rfl rfl) (fg_in_ix g37) ?_
      refine bs_goto (tgt := 280) dX12_age_276 (by decide) ?_
      obtain ⟨g38, h⟩ := fg_gdE h
      refine fg_iast dX12_age_280 (HM.ss 33 rfl rfl) (fun j => HM.n 33 j rfl rfl rfl) g38 hR h (fun mu39 hR h => ?_)
      refine fg_iinc (m := (nI 1)) dX12_age_281 rfl rfl (by decide) ?_
      refine bs_goto (tgt := 239) dX12_age_284 (by decide) ?_
      cases h
      refine bs_W.mk [(0, .ref m), (1, .int l1), (2, .int l2), (3, .int l3), (4, .int l4), (5, .int (s.1 + (nI 1)))] (by intro q hq; simp only [List.mem_cons, List.not_mem_nil, or_false] at hq; rcases hq with rfl | rfl | rfl | rfl | rfl | rfl <;> rfl) (by have k := ka _ rfl hR; dsimp only at k; exact k)
theorem wFX12_age_l239 {nx : Nat} {sh : bs_Sh} {R : Nat → Nat → Option Nat} {m : Nat} (HM : fg_S (bs_tM m) R m sh) {l1 : Int32} {l2 : Int32} {l3 : Int32} {l4 : Int32} {Ph : bs_Po} {t : bs_Mm} : ∀ n (y0 : Int32) (mu1 : bs_Mm), fg_lp (FX12_age_b239 m l1 l2 l3 l4) n (y0, mu1) = some t → fg_R R mu1 → (ke : ∀ s, t = s → fg_R R s → bs_W Ph mX12_age (bs_rm 5 0 0) 287 (bs_mk [(0, .ref m), (1, .int l1), (2, .int l2), (3, .int l3), (4, .int l4)]) [] 0 0 nx sh s) → bs_W Ph mX12_age (bs_rm 5 0 0) 239 (bs_mk [(0, .ref m), (1, .int l1), (2, .int l2), (3, .int l3), (4, .int l4), (5, .int y0)]) [] 0 0 nx sh mu1 := by
  intro n
  induction n with
  | zero => intro y0 mu1 h; exact absurd h (fun z => fg_lp0 z)
  | succ n ih =>
    intro y0 mu1 h hR ke
    obtain ⟨r, hb, h1, h2⟩ := fg_lpE h
    exact wFX12_age_b239 (s := (y0, mu1)) HM (fun s' e hR' => ih s'.1 s'.2 (h1 s' e) hR' ke) (fun s' e => ke s' (h2 _ e).symm) hR hb
noncomputable def FX12_age (m : Nat) (mu : bs_Mm) (p1 : Int32) (p2 : Int32) (p3 : Int32) : Option (bs_Mm) :=
  fg_bd (fg_lp (FX12_age_b3 m p1 p2 p3) fg_fu ((nI 0), mu)) (fun t21 => 
    fg_bd (fg_lp (FX12_age_b166 m p1 p2 p3) fg_fu ((bs_iv (t21 m 51)), (nI 0), t21)) (fun t29 => 
      fg_bd (FX12_leftOf m t29.2 p1 t29.1) (fun v32 => 
      fg_wr t29.2 m 51 (.int v32) (fun mu33 => 
      fg_bd (fg_lp (FX12_age_b239 m p1 p2 p3 t29.1) fg_fu ((nI 0), mu33)) (fun t40 => 
        some t40
      )))
    )
  )
set_option maxHeartbeats 4000000 in
theorem wX12_age {nx : Nat} {sh : bs_Sh} {R : Nat → Nat → Option Nat} {m : Nat} (HM : fg_S (bs_tM m) R m sh) {mu : bs_Mm} (hR : fg_R R mu) {p1 : Int32} {p2 : Int32} {p3 : Int32} {r : bs_Mm} (h : FX12_age m mu p1 p2 p3 = some r) : bs_C mX12_age (bs_rm 5 0 0) [.ref m, .int p1, .int p2, .int p3] nx sh mu (fg_po R nx sh none r) := by
  refine bs_ct (by decide +kernel) (Nat.le_of_ble_eq_true rfl) ?_
  have kr : ∀ q, r = q → fg_R R q → (fg_po R nx sh none r) none nx sh q := fun q e hq => by subst e; exact ⟨rfl, rfl, rfl, rfl, hq⟩
  unfold FX12_age at h
  refine bs_iconst (v := (nI 0)) dX12_age_0 (by decide) ?_
  refine bs_istore dX12_age_1 rfl (by decide) ?_
  obtain ⟨t21, k22, h⟩ := fg_bdE h
  refine bs_W.mk [(0, .ref m), (1, .int p1), (2, .int p2), (3, .int p3), (4, .int (nI 0))] (by intro q hq; simp only [List.mem_cons, List.not_mem_nil, or_false] at hq; rcases hq with rfl | rfl | rfl | rfl | rfl <;> rfl) ?_
  refine wFX12_age_l3 HM _ _ _ k22 hR ?_
  intro s e hR
  subst e
  refine bs_aload_n dX12_age_157 rfl ?_
  refine bs_getI dX12_age_158 fX12_411 (HM.s 0 rfl rfl rfl) ?_
  refine bs_istore dX12_age_161 rfl (by decide) ?_
  refine bs_iconst (v := (nI 0)) dX12_age_163 (by decide) ?_
  refine bs_istore dX12_age_164 rfl (by decide) ?_
  obtain ⟨t29, k30, h⟩ := fg_bdE h
  refine bs_W.mk [(0, .ref m), (1, .int p1), (2, .int p2), (3, .int p3), (4, .int (bs_iv (t21 m 51))), (5, .int (nI 0))] (by intro q hq; simp only [List.mem_cons, List.not_mem_nil, or_false] at hq; rcases hq with rfl | rfl | rfl | rfl | rfl | rfl <;> rfl) ?_
  refine wFX12_age_l166 HM _ _ _ _ k30 hR ?_
  intro s e hR
  subst e
  refine bs_aload_n dX12_age_225 rfl ?_
  refine bs_aload_n dX12_age_226 rfl ?_
  refine bs_iload_n dX12_age_227 rfl ?_
  refine bs_iload dX12_age_228 rfl ?_
  obtain ⟨v32, k31, h⟩ := fg_bdE h
  refine fg_callV dX12_age_230 qX12_333 (wX12_leftOf HM hR k31) rfl (HM.s 0 rfl rfl rfl) rfl (Nat.le_of_ble_eq_true rfl) (fg_cr (by first | decide | omega) (by decide)) (fun hR => ?_)
  refine fg_putI dX12_age_233 pX12_411 (HM.s 0 rfl rfl rfl) (HM.n 0 51 rfl rfl rfl) hR h (fun mu33 hR h => ?_)
  refine bs_iconst (v := (nI 0)) dX12_age_236 (by decide) ?_
  refine bs_istore dX12_age_237 rfl (by decide) ?_
  obtain ⟨t40, k41, h⟩ := fg_bdE h
  refine bs_W.mk [(0, .ref m), (1, .int p1), (2, .int p2), (3, .int p3), (4, .int t29.1), (5, .int (nI 0))] (by intro q hq; simp only [List.mem_cons, List.not_mem_nil, or_false] at hq; rcases hq with rfl | rfl | rfl | rfl | rfl | rfl <;> rfl) ?_
  refine wFX12_age_l239 HM _ _ _ k41 hR ?_
  intro s e hR
  subst e
  cases h
  exact bs_vret dX12_age_287 rfl (Nat.zero_le _) (Nat.zero_le _) (kr _ rfl hR)
noncomputable def FX12_isBubble (m : Nat) (mu : bs_Mm) (p1 : Int32) (p2 : Int32) : Option (Int32) :=
  fg_bd (FX12_isFigure m mu p1) (fun v2 => 
  if v2 = 0 then (
    some ((nI 0))
  ) else (
    fg_gd (fg_in p1 13) (
    fg_bd (FX12_in m mu p2 (nI 0) ((bs_iv (mu (m + 8) p1.toNatClampNeg)) - (nI 1))) (fun v5 => 
    if v5 = 0 then (
      some ((nI 0))
    ) else (
      some ((nI 1))
    )))
  ))
set_option maxHeartbeats 4000000 in
theorem wX12_isBubble {nx : Nat} {sh : bs_Sh} {R : Nat → Nat → Option Nat} {m : Nat} (HM : fg_S (bs_tM m) R m sh) {mu : bs_Mm} (hR : fg_R R mu) {p1 : Int32} {p2 : Int32} {r : Int32} (h : FX12_isBubble m mu p1 p2 = some r) : bs_C mX12_isBubble (bs_rm 2 0 0) [.ref m, .int p1, .int p2] nx sh mu (fg_po R nx sh (some (.int r)) mu) := by
  refine bs_ct (by decide +kernel) (Nat.le_of_ble_eq_true rfl) ?_
  have kr : ∀ q, r = q → fg_R R mu → (fg_po R nx sh (some (.int r)) mu) (some (.int q)) nx sh mu := fun q e hq => by subst e; exact ⟨rfl, rfl, rfl, rfl, hq⟩
  unfold FX12_isBubble at h
  refine bs_aload_n dX12_isBubble_0 rfl ?_
  refine bs_iload_n dX12_isBubble_1 rfl ?_
  obtain ⟨v2, k1, h⟩ := fg_bdE h
  refine fg_callV dX12_isBubble_2 qX12_284 (wX12_isFigure HM hR k1) rfl (HM.s 0 rfl rfl rfl) rfl (Nat.le_of_ble_eq_true rfl) (fg_cr (by first | decide | omega) (by decide)) (fun hR => ?_)
  refine bs_if_eq (tgt := 28) dX12_isBubble_5 (by decide) (fun c => ?_) (fun c => ?_)
  · replace h := fg_ip c h
    refine bs_iconst (v := (nI 0)) dX12_isBubble_28 (by decide) ?_
    cases h
    exact bs_zret dX12_isBubble_29 rfl (Or.inl rfl) (Nat.zero_le _) (Nat.zero_le _) (kr _ rfl hR)
  · replace h := fg_iN c h
    refine bs_iload_n dX12_isBubble_8 rfl ?_
    refine bs_iconst (v := (nI 0)) dX12_isBubble_9 (by decide) ?_
    refine bs_aload_n dX12_isBubble_10 rfl ?_
    refine fg_getR (b := (m + 8)) dX12_isBubble_11 fX12_31 (HM.s 0 rfl rfl rfl) hR (HM.r 0 13 rfl rfl rfl) ?_
    refine bs_iload_n dX12_isBubble_14 rfl ?_
    obtain ⟨g3, h⟩ := fg_gdE h
    refine bs_iald dX12_isBubble_15 (HM.ss 8 rfl rfl) (fg_in_ix g3) ?_
    refine bs_iconst (v := (nI 1)) dX12_isBubble_16 (by decide) ?_
    refine bs_isub dX12_isBubble_17 ?_
    obtain ⟨v5, k4, h⟩ := fg_bdE h
    refine fg_callS dX12_isBubble_18 qX12_121 (wX12_in HM hR k4) rfl rfl (Nat.le_of_ble_eq_true rfl) (fg_cr (by first | decide | omega) (by decide)) (fun hR => ?_)
    refine bs_if_eq (tgt := 28) dX12_isBubble_21 (by decide) (fun c => ?_) (fun c => ?_)
    · replace h := fg_ip c h
      refine bs_iconst (v := (nI 0)) dX12_isBubble_28 (by decide) ?_
      cases h
      exact bs_zret dX12_isBubble_29 rfl (Or.inl rfl) (Nat.zero_le _) (Nat.zero_le _) (kr _ rfl hR)
    · replace h := fg_iN c h
      refine bs_iconst (v := (nI 1)) dX12_isBubble_24 (by decide) ?_
      refine bs_goto (tgt := 29) dX12_isBubble_25 (by decide) ?_
      cases h
      exact bs_zret dX12_isBubble_29 rfl (Or.inr rfl) (Nat.zero_le _) (Nat.zero_le _) (kr _ rfl hR)
