noncomputable def FX8_has (x : Nat) (mu : bs_Mm) (p1 : Int32) : Option (Int32) :=
  if p1 < 0 then (
    some ((nI 0))
  ) else (
    if (bs_iv (mu (x + 1) 3)) ≤ p1 then (
      some ((nI 0))
    ) else (
      some ((nI 1))
    )
  )
set_option maxHeartbeats 4000000 in
theorem wX8_has {nx : Nat} {sh : bs_Sh} {R : Nat → Nat → Option Nat} {x : Nat} (HX : fg_S (bs_tS x) R x sh) {mu : bs_Mm} (hR : fg_R R mu) {p1 : Int32} {r : Int32} (h : FX8_has x mu p1 = some r) : bs_C mX8_has (bs_rm 0 0 0) [.ref (x + 1), .int p1] nx sh mu (fg_po R nx sh (some (.int r)) mu) := by
  refine bs_ct (by decide +kernel) (Nat.le_of_ble_eq_true rfl) ?_
  have kr : ∀ q, r = q → fg_R R mu → (fg_po R nx sh (some (.int r)) mu) (some (.int q)) nx sh mu := fun q e hq => by subst e; exact ⟨rfl, rfl, rfl, rfl, hq⟩
  unfold FX8_has at h
  refine bs_iload_n dX8_has_0 rfl ?_
  refine bs_if_lt (tgt := 16) dX8_has_1 (by decide) (fun c => ?_) (fun c => ?_)
  · replace h := fg_ip c h
    refine bs_iconst (v := (nI 0)) dX8_has_16 (by decide) ?_
    cases h
    exact bs_zret dX8_has_17 rfl (Or.inl rfl) (Nat.zero_le _) (Nat.zero_le _) (kr _ rfl hR)
  · replace h := fg_iN c h
    refine bs_iload_n dX8_has_4 rfl ?_
    refine bs_aload_n dX8_has_5 rfl ?_
    refine bs_getI dX8_has_6 fX8_21 (HX.s 1 rfl rfl rfl) ?_
    refine bs_icmp_ge (tgt := 16) dX8_has_9 (by decide) (fun c => ?_) (fun c => ?_)
    · replace h := fg_ip c h
      refine bs_iconst (v := (nI 0)) dX8_has_16 (by decide) ?_
      cases h
      exact bs_zret dX8_has_17 rfl (Or.inl rfl) (Nat.zero_le _) (Nat.zero_le _) (kr _ rfl hR)
    · replace h := fg_iN c h
      refine bs_iconst (v := (nI 1)) dX8_has_12 (by decide) ?_
      refine bs_goto (tgt := 17) dX8_has_13 (by decide) ?_
      cases h
      exact bs_zret dX8_has_17 rfl (Or.inr rfl) (Nat.zero_le _) (Nat.zero_le _) (kr _ rfl hR)
noncomputable def FX1_endBits (x : Nat) (f : Nat) (mu : bs_Mm) (p1 : Int32) : Option (Int32) :=
  fg_gd (fg_in p1 24) (
  fg_gd (fg_in p1 24) (
  some ((((nI 1) <<< ((bs_iv (mu (f + 3) p1.toNatClampNeg)) &&& 31)) ^^^ ((nI 1) <<< ((bs_iv (mu (f + 4) p1.toNatClampNeg)) &&& 31))))))
set_option maxHeartbeats 4000000 in
theorem wX1_endBits {nx : Nat} {sh : bs_Sh} {R : Nat → Nat → Option Nat} {x : Nat} (HX : fg_S (bs_tS x) R x sh) {f : Nat} (h_f : fg_F R sh f) {mu : bs_Mm} (hR : fg_R R mu) {p1 : Int32} {r : Int32} (h : FX1_endBits x f mu p1 = some r) : bs_C mX1_endBits (bs_rm 0 0 0) [.ref f, .int p1] nx sh mu (fg_po R nx sh (some (.int r)) mu) := by
  refine bs_ct (by decide +kernel) (Nat.le_of_ble_eq_true rfl) ?_
  have kr : ∀ q, r = q → fg_R R mu → (fg_po R nx sh (some (.int r)) mu) (some (.int q)) nx sh mu := fun q e hq => by subst e; exact ⟨rfl, rfl, rfl, rfl, hq⟩
  unfold FX1_endBits at h
  refine bs_iconst (v := (nI 1)) dX1_endBits_0 (by decide) ?_
  refine bs_aload_n dX1_endBits_1 rfl ?_
  refine fg_getR (b := (f + 3)) dX1_endBits_2 fX1_18 (h_f.s0) hR (h_f.r2) ?_
  refine bs_iload_n dX1_endBits_5 rfl ?_
  obtain ⟨g1, h⟩ := fg_gdE h
  refine bs_iald dX1_endBits_6 (h_f.s3) (fg_in_ix g1) ?_
  refine bs_ishl dX1_endBits_7 ?_
  refine bs_iconst (v := (nI 1)) dX1_endBits_8 (by decide) ?_
  refine bs_aload_n dX1_endBits_9 rfl ?_
  refine fg_getR (b := (f + 4)) dX1_endBits_10 fX1_21 (h_f.s0) hR (h_f.r3) ?_
  refine bs_iload_n dX1_endBits_13 rfl ?_
  obtain ⟨g2, h⟩ := fg_gdE h
  refine bs_iald dX1_endBits_14 (h_f.s4) (fg_in_ix g2) ?_
  refine bs_ishl dX1_endBits_15 ?_
  refine bs_ixor dX1_endBits_16 ?_
  cases h
  exact bs_iret dX1_endBits_17 rfl (Nat.zero_le _) (Nat.zero_le _) (kr _ rfl hR)
noncomputable def FX3_hangsTogether_b2 (x : Nat) (mu : bs_Mm) (l1 : Int32) (l2 : Int32) (s : Int32) : Option ((Int32) ⊕ ((Unit) ⊕ (Int32))) :=
  if l1 ≤ s then (
    some (.inr (.inl ()))
  ) else (
    if (l2 &&& ((nI 1) <<< (s &&& 31))) = 0 then (
      some (.inl (s + (nI 1)))
    ) else (
      fg_gd (fg_in (l2 ^^^ ((nI 1) <<< (s &&& 31))) 1024) (
      if (bs_iv (mu (x + 41) (l2 ^^^ ((nI 1) <<< (s &&& 31))).toNatClampNeg)) = 0 then (
        some (.inl (s + (nI 1)))
      ) else (
        fg_gd (fg_in (l2 ^^^ ((nI 1) <<< (s &&& 31))) 1024) (
        fg_gd (fg_in ((nI 1) <<< (s &&& 31)) 1024) (
        if ((bs_iv (mu (x + 38) (l2 ^^^ ((nI 1) <<< (s &&& 31))).toNatClampNeg)) &&& (bs_iv (mu (x + 38) ((nI 1) <<< (s &&& 31)).toNatClampNeg))) = 0 then (
          some (.inl (s + (nI 1)))
        ) else (
          some (.inr (.inr ((nI 1))))
        )))
      ))
    )
  )
set_option maxHeartbeats 4000000 in
theorem wFX3_hangsTogether_b2 {nx : Nat} {sh : bs_Sh} {R : Nat → Nat → Option Nat} {x : Nat} (HX : fg_S (bs_tS x) R x sh) {mu : bs_Mm} {l1 : Int32} {l2 : Int32} {Ph : bs_Po} {s : Int32} {r : (Int32) ⊕ ((Unit) ⊕ (Int32))} (ka : ∀ s, r = .inl s → bs_W Ph mX3_hangsTogether (bs_rm 0 0 0) 2 (bs_mk [(0, .ref (x + 36)), (1, .int l1), (2, .int l2), (3, .int s)]) [] 0 0 nx sh mu) (ke : ∀ s, r = .inr (.inl s) → bs_W Ph mX3_hangsTogether (bs_rm 0 0 0) 61 (bs_mk [(0, .ref (x + 36)), (1, .int l1), (2, .int l2)]) [] 0 0 nx sh mu) (kr : ∀ q, r = .inr (.inr q) → fg_R R mu → Ph (some (.int q)) nx sh mu) (hR : fg_R R mu) (h : FX3_hangsTogether_b2 x mu l1 l2 s = some r) : bs_W Ph mX3_hangsTogether (bs_rm 0 0 0) 2 (bs_mk [(0, .ref (x + 36)), (1, .int l1), (2, .int l2), (3, .int s)]) [] 0 0 nx sh mu := by
  unfold FX3_hangsTogether_b2 at h
  refine bs_iload_n dX3_hangsTogether_2 rfl ?_
  refine bs_iload_n dX3_hangsTogether_3 rfl ?_
  refine bs_icmp_ge (tgt := 61) dX3_hangsTogether_4 (by decide) (fun c => ?_) (fun c => ?_)
  · replace h := fg_ip c h
    cases h
    refine bs_W.mk [(0, .ref (x + 36)), (1, .int l1), (2, .int l2)] (by intro q hq; simp only [List.mem_cons, List.not_mem_nil, or_false] at hq; rcases hq with rfl | rfl | rfl <;> rfl) (ke _ rfl)
  · replace h := fg_iN c h
    refine bs_iconst (v := (nI 1)) dX3_hangsTogether_7 (by decide) ?_
    refine bs_iload_n dX3_hangsTogether_8 rfl ?_
    refine bs_ishl dX3_hangsTogether_9 ?_
    refine bs_istore dX3_hangsTogether_10 rfl (by decide) ?_
    refine bs_iload_n dX3_hangsTogether_12 rfl ?_
    refine bs_iload dX3_hangsTogether_13 rfl ?_
    refine bs_ixor dX3_hangsTogether_15 ?_
    refine bs_istore dX3_hangsTogether_16 rfl (by decide) ?_
    refine bs_iload_n dX3_hangsTogether_18 rfl ?_
    refine bs_iload dX3_hangsTogether_19 rfl ?_
    refine bs_iand dX3_hangsTogether_21 ?_
    refine bs_if_eq (tgt := 55) dX3_hangsTogether_22 (by decide) (fun c => ?_) (fun c => ?_)
    · replace h := fg_ip c h
      refine fg_iinc (m := (nI 1)) dX3_hangsTogether_55 rfl rfl (by decide) ?_
      refine bs_goto (tgt := 2) dX3_hangsTogether_58 (by decide) ?_
      cases h
      refine bs_W.mk [(0, .ref (x + 36)), (1, .int l1), (2, .int l2), (3, .int (s + (nI 1)))] (by intro q hq; simp only [List.mem_cons, List.not_mem_nil, or_false] at hq; rcases hq with rfl | rfl | rfl | rfl <;> rfl) (ka _ rfl)
    · replace h := fg_iN c h
      refine bs_aload_n dX3_hangsTogether_25 rfl ?_
      refine fg_getR (b := (x + 41)) dX3_hangsTogether_26 fX3_24 (HX.s 36 rfl rfl rfl) hR (HX.r 36 4 rfl rfl rfl) ?_
      refine bs_iload dX3_hangsTogether_29 rfl ?_
      obtain ⟨g1, h⟩ := fg_gdE h
      refine bs_zald dX3_hangsTogether_31 (HX.ss 41 rfl rfl) (fg_in_ix g1) ?_
      refine bs_if_eq (tgt := 55) dX3_hangsTogether_32 (by decide) (fun c => ?_) (fun c => ?_)
      · replace h := fg_ip c h
        refine fg_iinc (m := (nI 1)) dX3_hangsTogether_55 rfl rfl (by decide) ?_
        refine bs_goto (tgt := 2) dX3_hangsTogether_58 (by decide) ?_
        cases h
        refine bs_W.mk [(0, .ref (x + 36)), (1, .int l1), (2, .int l2), (3, .int (s + (nI 1)))] (by intro q hq; simp only [List.mem_cons, List.not_mem_nil, or_false] at hq; rcases hq with rfl | rfl | rfl | rfl <;> rfl) (ka _ rfl)
      · replace h := fg_iN c h
        refine bs_aload_n dX3_hangsTogether_35 rfl ?_
        refine fg_getR (b := (x + 38)) dX3_hangsTogether_36 fX3_15 (HX.s 36 rfl rfl rfl) hR (HX.r 36 1 rfl rfl rfl) ?_
        refine bs_iload dX3_hangsTogether_39 rfl ?_
        obtain ⟨g2, h⟩ := fg_gdE h
        refine bs_iald dX3_hangsTogether_41 (HX.ss 38 rfl rfl) (fg_in_ix g2) ?_
        refine bs_aload_n dX3_hangsTogether_42 rfl ?_
        refine fg_getR (b := (x + 38)) dX3_hangsTogether_43 fX3_15 (HX.s 36 rfl rfl rfl) hR (HX.r 36 1 rfl rfl rfl) ?_
        refine bs_iload dX3_hangsTogether_46 rfl ?_
        obtain ⟨g3, h⟩ := fg_gdE h
        refine bs_iald dX3_hangsTogether_48 (HX.ss 38 rfl rfl) (fg_in_ix g3) ?_
        refine bs_iand dX3_hangsTogether_49 ?_
        refine bs_if_eq (tgt := 55) dX3_hangsTogether_50 (by decide) (fun c => ?_) (fun c => ?_)
        · replace h := fg_ip c h
          refine fg_iinc (m := (nI 1)) dX3_hangsTogether_55 rfl rfl (by decide) ?_
          refine bs_goto (tgt := 2) dX3_hangsTogether_58 (by decide) ?_
          cases h
          refine bs_W.mk [(0, .ref (x + 36)), (1, .int l1), (2, .int l2), (3, .int (s + (nI 1)))] (by intro q hq; simp only [List.mem_cons, List.not_mem_nil, or_false] at hq; rcases hq with rfl | rfl | rfl | rfl <;> rfl) (ka _ rfl)
        · replace h := fg_iN c h
          refine bs_iconst (v := (nI 1)) dX3_hangsTogether_53 (by decide) ?_
          cases h
          exact bs_zret dX3_hangsTogether_54 rfl (Or.inr rfl) (Nat.zero_le _) (Nat.zero_le _) (kr _ rfl hR)
theorem wFX3_hangsTogether_l2 {nx : Nat} {sh : bs_Sh} {R : Nat → Nat → Option Nat} {x : Nat} (HX : fg_S (bs_tS x) R x sh) {mu : bs_Mm} {l1 : Int32} {l2 : Int32} {Ph : bs_Po} {t : (Unit) ⊕ (Int32)} : ∀ n (y0 : Int32), fg_lp (FX3_hangsTogether_b2 x mu l1 l2) n y0 = some t → fg_R R mu → (ke : ∀ s, t = .inl s → bs_W Ph mX3_hangsTogether (bs_rm 0 0 0) 61 (bs_mk [(0, .ref (x + 36)), (1, .int l1), (2, .int l2)]) [] 0 0 nx sh mu) → (kr : ∀ q, t = .inr q → fg_R R mu → Ph (some (.int q)) nx sh mu) → bs_W Ph mX3_hangsTogether (bs_rm 0 0 0) 2 (bs_mk [(0, .ref (x + 36)), (1, .int l1), (2, .int l2), (3, .int y0)]) [] 0 0 nx sh mu := by
  intro n
  induction n with
  | zero => intro y0 h; exact absurd h (fun z => fg_lp0 z)
  | succ n ih =>
    intro y0 h hR ke kr
    obtain ⟨r, hb, h1, h2⟩ := fg_lpE h
    exact wFX3_hangsTogether_b2 (s := y0) HX (fun s' e => ih s' (h1 s' e) hR ke kr) (fun s' e => ke s' (h2 _ e).symm) (fun q e => kr q (h2 _ e).symm) hR hb
noncomputable def FX3_hangsTogether (x : Nat) (mu : bs_Mm) (p1 : Int32) (p2 : Int32) : Option (Int32) :=
  fg_l3 (fg_lp (FX3_hangsTogether_b2 x mu p1 p2) fg_fu (nI 0)) (fun t4 => 
    some ((nI 0))
  ) (fun q6 => some q6)
set_option maxHeartbeats 4000000 in
theorem wX3_hangsTogether {nx : Nat} {sh : bs_Sh} {R : Nat → Nat → Option Nat} {x : Nat} (HX : fg_S (bs_tS x) R x sh) {mu : bs_Mm} (hR : fg_R R mu) {p1 : Int32} {p2 : Int32} {r : Int32} (h : FX3_hangsTogether x mu p1 p2 = some r) : bs_C mX3_hangsTogether (bs_rm 0 0 0) [.ref (x + 36), .int p1, .int p2] nx sh mu (fg_po R nx sh (some (.int r)) mu) := by
  refine bs_ct (by decide +kernel) (Nat.le_of_ble_eq_true rfl) ?_
  have kr : ∀ q, r = q → fg_R R mu → (fg_po R nx sh (some (.int r)) mu) (some (.int q)) nx sh mu := fun q e hq => by subst e; exact ⟨rfl, rfl, rfl, rfl, hq⟩
  unfold FX3_hangsTogether at h
  refine bs_iconst (v := (nI 0)) dX3_hangsTogether_0 (by decide) ?_
  refine bs_istore_n dX3_hangsTogether_1 rfl (by decide) ?_
  obtain ⟨t40, k5, h1, h2⟩ := fg_l3E h
  refine bs_W.mk [(0, .ref (x + 36)), (1, .int p1), (2, .int p2), (3, .int (nI 0))] (by intro q hq; simp only [List.mem_cons, List.not_mem_nil, or_false] at hq; rcases hq with rfl | rfl | rfl | rfl <;> rfl) ?_
  refine wFX3_hangsTogether_l2 HX _ _ k5 hR ?_ ?_
  · intro t4 e
    replace h := h1 t4 e
    refine bs_iconst (v := (nI 0)) dX3_hangsTogether_61 (by decide) ?_
    cases h
    exact bs_zret dX3_hangsTogether_62 rfl (Or.inl rfl) (Nat.zero_le _) (Nat.zero_le _) (kr _ rfl hR)
  · intro q6 e hR
    replace h := h2 q6 e
    cases h
    exact kr _ rfl hR
noncomputable def FX3_tellChoices_j158_L25 (x : Nat) (p1 : Nat) (mu : bs_Mm) (l2 : Int32) (l3 : Int32) (l4 : Int32) (t1 : Int32) (t2 : Int32) : Option ((Int32 × bs_Mm) ⊕ (bs_Mm)) :=
  fg_gd (fg_in t1 1024) (
  fg_gd (decide (t2 = 0 ∨ t2 = 1)) (
  fg_wr mu (x + 41) t1.toNatClampNeg (.int t2) (fun mu26 => 
  fg_gd (fg_in l4 1024) (
  if (bs_iv (mu26 (x + 41) l4.toNatClampNeg)) = 0 then (
    fg_gd (fg_in l4 1024) (
    fg_wr mu26 (x + 42) l4.toNatClampNeg (.int (nI 0)) (fun mu30 => 
    some (.inl ((l4 + (nI 1)), mu30))))
  ) else (
    fg_gd (fg_in l4 1024) (
    if l2 < (bs_iv (mu26 (x + 37) l4.toNatClampNeg)) then (
      fg_gd (fg_in l4 1024) (
      fg_wr mu26 (x + 42) l4.toNatClampNeg (.int (nI 0)) (fun mu33 => 
      some (.inl ((l4 + (nI 1)), mu33))))
    ) else (
      fg_gd (fg_in l4 1024) (
      fg_bd (FJ6_bitCount_0f7a4  mu26 (bs_iv (mu26 (x + 39) l4.toNatClampNeg))) (fun v36 => 
      if (nI 2) < v36 then (
        fg_gd (fg_in l4 1024) (
        fg_wr mu26 (x + 42) l4.toNatClampNeg (.int (nI 0)) (fun mu38 => 
        some (.inl ((l4 + (nI 1)), mu38))))
      ) else (
        fg_gd (fg_in l4 1024) (
        fg_wr mu26 (x + 42) l4.toNatClampNeg (.int (nI 1)) (fun mu40 => 
        some (.inl ((l4 + (nI 1)), mu40))))
      )))
    ))
  )))))
set_option maxHeartbeats 4000000 in
theorem wFX3_tellChoices_j158_L25 {nx : Nat} {sh : bs_Sh} {R : Nat → Nat → Option Nat} {x : Nat} (HX : fg_S (bs_tS x) R x sh) {p1 : Nat} (h_p1 : fg_F R sh p1) {mu : bs_Mm} {l2 : Int32} {l3 : Int32} {l4 : Int32} {t1 : Int32} {t2 : Int32} {Ph : bs_Po} {r : (Int32 × bs_Mm) ⊕ (bs_Mm)} (ka : ∀ s, r = .inl s → fg_R R s.2 → bs_W Ph mX3_tellChoices (bs_rm 1 0 0) 25 (bs_mk [(0, .ref (x + 36)), (1, .ref p1), (2, .int l2), (3, .int l3), (4, .int s.1)]) [] 0 0 nx sh s.2) (ke : ∀ s, r = .inr s → fg_R R s → bs_W Ph mX3_tellChoices (bs_rm 1 0 0) 212 (bs_mk [(0, .ref (x + 36)), (1, .ref p1), (2, .int l2), (3, .int l3)]) [] 0 0 nx sh s) (hR : fg_R R mu) (h : FX3_tellChoices_j158_L25 x p1 mu l2 l3 l4 t1 t2 = some r) : bs_W Ph mX3_tellChoices (bs_rm 1 0 0) 158 (bs_mk [(0, .ref (x + 36)), (1, .ref p1), (2, .int l2), (3, .int l3), (4, .int l4)]) [.int t2, .int t1, .ref (x + 41)] 0 0 nx sh mu := by
  unfold FX3_tellChoices_j158_L25 at h
  obtain ⟨g25, h⟩ := fg_gdE h
  obtain ⟨g27, h⟩ := fg_gdE h
  refine fg_zast dX3_tellChoices_158 (HX.ss 41 rfl rfl) (fun j => HX.n 41 j rfl rfl rfl) g25 (of_decide_eq_true g27) hR h (fun mu26 hR h => ?_)
  refine bs_aload_n dX3_tellChoices_159 rfl ?_
  refine fg_getR (b := (x + 42)) dX3_tellChoices_160 fX3_28 (HX.s 36 rfl rfl rfl) hR (HX.r 36 5 rfl rfl rfl) ?_
  refine bs_iload dX3_tellChoices_163 rfl ?_
  refine bs_aload_n dX3_tellChoices_165 rfl ?_
  refine fg_getR (b := (x + 41)) dX3_tellChoices_166 fX3_24 (HX.s 36 rfl rfl rfl) hR (HX.r 36 4 rfl rfl rfl) ?_
  refine bs_iload dX3_tellChoices_169 rfl ?_
  obtain ⟨g28, h⟩ := fg_gdE h
  refine bs_zald dX3_tellChoices_171 (HX.ss 41 rfl rfl) (fg_in_ix g28) ?_
  refine bs_if_eq (tgt := 204) dX3_tellChoices_172 (by decide) (fun c => ?_) (fun c => ?_)
  · replace h := fg_ip c h
    refine bs_iconst (v := (nI 0)) dX3_tellChoices_204 (by decide) ?_
    obtain ⟨g29, h⟩ := fg_gdE h
    refine fg_zast dX3_tellChoices_205 (HX.ss 42 rfl rfl) (fun j => HX.n 42 j rfl rfl rfl) g29 (Or.inl rfl) hR h (fun mu30 hR h => ?_)
    refine fg_iinc (m := (nI 1)) dX3_tellChoices_206 rfl rfl (by decide) ?_
    refine bs_goto (tgt := 25) dX3_tellChoices_209 (by decide) ?_
    cases h
    refine bs_W.mk [(0, .ref (x + 36)), (1, .ref p1), (2, .int l2), (3, .int l3), (4, .int (l4 + (nI 1)))] (by intro q hq; simp only [List.mem_cons, List.not_mem_nil, or_false] at hq; rcases hq with rfl | rfl | rfl | rfl | rfl <;> rfl) (by have k := ka _ rfl hR; dsimp only at k; exact k)
  · replace h := fg_iN c h
    refine bs_aload_n dX3_tellChoices_175 rfl ?_
    refine fg_getR (b := (x + 37)) dX3_tellChoices_176 fX3_11 (HX.s 36 rfl rfl rfl) hR (HX.r 36 0 rfl rfl rfl) ?_
    refine bs_iload dX3_tellChoices_179 rfl ?_
    obtain ⟨g31, h⟩ := fg_gdE h
    refine bs_iald dX3_tellChoices_181 (HX.ss 37 rfl rfl) (fg_in_ix g31) ?_
    refine bs_iload_n dX3_tellChoices_182 rfl ?_
    refine bs_icmp_gt (tgt := 204) dX3_tellChoices_183 (by decide) (fun c => ?_) (fun c => ?_)
    · replace h := fg_ip c h
      refine bs_iconst (v := (nI 0)) dX3_tellChoices_204 (by decide) ?_
      obtain ⟨g32, h⟩ := fg_gdE h
      refine fg_zast dX3_tellChoices_205 (HX.ss 42 rfl rfl) (fun j => HX.n 42 j rfl rfl rfl) g32 (Or.inl rfl) hR h (fun mu33 hR h => ?_)
      refine fg_iinc (m := (nI 1)) dX3_tellChoices_206 rfl rfl (by decide) ?_
      refine bs_goto (tgt := 25) dX3_tellChoices_209 (by decide) ?_
      cases h
      refine bs_W.mk [(0, .ref (x + 36)), (1, .ref p1), (2, .int l2), (3, .int l3), (4, .int (l4 + (nI 1)))] (by intro q hq; simp only [List.mem_cons, List.not_mem_nil, or_false] at hq; rcases hq with rfl | rfl | rfl | rfl | rfl <;> rfl) (by have k := ka _ rfl hR; dsimp only at k; exact k)
    · replace h := fg_iN c h
      refine bs_aload_n dX3_tellChoices_186 rfl ?_
      refine fg_getR (b := (x + 39)) dX3_tellChoices_187 fX3_18 (HX.s 36 rfl rfl rfl) hR (HX.r 36 2 rfl rfl rfl) ?_
      refine bs_iload dX3_tellChoices_190 rfl ?_
      obtain ⟨g34, h⟩ := fg_gdE h
      refine bs_iald dX3_tellChoices_192 (HX.ss 39 rfl rfl) (fg_in_ix g34) ?_
      obtain ⟨v36, k35, h⟩ := fg_bdE h
      refine fg_callS dX3_tellChoices_193 qX3_93 (wJ6_bitCount_0f7a4  hR k35) rfl rfl (Nat.le_of_ble_eq_true rfl) (fg_cr (by first | decide | omega) (by decide)) (fun hR => ?_)
      refine bs_iconst (v := (nI 2)) dX3_tellChoices_196 (by decide) ?_
      refine bs_icmp_gt (tgt := 204) dX3_tellChoices_197 (by decide) (fun c => ?_) (fun c => ?_)
      · replace h := fg_ip c h
        refine bs_iconst (v := (nI 0)) dX3_tellChoices_204 (by decide) ?_
        obtain ⟨g37, h⟩ := fg_gdE h
        refine fg_zast dX3_tellChoices_205 (HX.ss 42 rfl rfl) (fun j => HX.n 42 j rfl rfl rfl) g37 (Or.inl rfl) hR h (fun mu38 hR h => ?_)
        refine fg_iinc (m := (nI 1)) dX3_tellChoices_206 rfl rfl (by decide) ?_
        refine bs_goto (tgt := 25) dX3_tellChoices_209 (by decide) ?_
        cases h
        refine bs_W.mk [(0, .ref (x + 36)), (1, .ref p1), (2, .int l2), (3, .int l3), (4, .int (l4 + (nI 1)))] (by intro q hq; simp only [List.mem_cons, List.not_mem_nil, or_false] at hq; rcases hq with rfl | rfl | rfl | rfl | rfl <;> rfl) (by have k := ka _ rfl hR; dsimp only at k; exact k)
      · replace h := fg_iN c h
        refine bs_iconst (v := (nI 1)) dX3_tellChoices_200 (by decide) ?_
        refine bs_goto (tgt := 205) dX3_tellChoices_201 (by decide) ?_
        obtain ⟨g39, h⟩ := fg_gdE h
        refine fg_zast dX3_tellChoices_205 (HX.ss 42 rfl rfl) (fun j => HX.n 42 j rfl rfl rfl) g39 (Or.inr rfl) hR h (fun mu40 hR h => ?_)
        refine fg_iinc (m := (nI 1)) dX3_tellChoices_206 rfl rfl (by decide) ?_
        refine bs_goto (tgt := 25) dX3_tellChoices_209 (by decide) ?_
        cases h
        refine bs_W.mk [(0, .ref (x + 36)), (1, .ref p1), (2, .int l2), (3, .int l3), (4, .int (l4 + (nI 1)))] (by intro q hq; simp only [List.mem_cons, List.not_mem_nil, or_false] at hq; rcases hq with rfl | rfl | rfl | rfl | rfl <;> rfl) (by have k := ka _ rfl hR; dsimp only at k; exact k)
noncomputable def FX3_tellChoices_j153_L25 (x : Nat) (p1 : Nat) (mu : bs_Mm) (l2 : Int32) (l3 : Int32) (l4 : Int32) (t1 : Int32) : Option ((Int32 × bs_Mm) ⊕ (bs_Mm)) :=
  FX3_tellChoices_j158_L25 x p1 mu l2 l3 l4 t1 (nI 1)
set_option maxHeartbeats 4000000 in
theorem wFX3_tellChoices_j153_L25 {nx : Nat} {sh : bs_Sh} {R : Nat → Nat → Option Nat} {x : Nat} (HX : fg_S (bs_tS x) R x sh) {p1 : Nat} (h_p1 : fg_F R sh p1) {mu : bs_Mm} {l2 : Int32} {l3 : Int32} {l4 : Int32} {t1 : Int32} {Ph : bs_Po} {r : (Int32 × bs_Mm) ⊕ (bs_Mm)} (ka : ∀ s, r = .inl s → fg_R R s.2 → bs_W Ph mX3_tellChoices (bs_rm 1 0 0) 25 (bs_mk [(0, .ref (x + 36)), (1, .ref p1), (2, .int l2), (3, .int l3), (4, .int s.1)]) [] 0 0 nx sh s.2) (ke : ∀ s, r = .inr s → fg_R R s → bs_W Ph mX3_tellChoices (bs_rm 1 0 0) 212 (bs_mk [(0, .ref (x + 36)), (1, .ref p1), (2, .int l2), (3, .int l3)]) [] 0 0 nx sh s) (hR : fg_R R mu) (h : FX3_tellChoices_j153_L25 x p1 mu l2 l3 l4 t1 = some r) : bs_W Ph mX3_tellChoices (bs_rm 1 0 0) 153 (bs_mk [(0, .ref (x + 36)), (1, .ref p1), (2, .int l2), (3, .int l3), (4, .int l4)]) [.int t1, .ref (x + 41)] 0 0 nx sh mu := by
  unfold FX3_tellChoices_j153_L25 at h
  refine bs_iconst (v := (nI 1)) dX3_tellChoices_153 (by decide) ?_
  refine bs_goto (tgt := 158) dX3_tellChoices_154 (by decide) ?_
  refine bs_W.mk [(0, .ref (x + 36)), (1, .ref p1), (2, .int l2), (3, .int l3), (4, .int l4)] (by intro q hq; simp only [List.mem_cons, List.not_mem_nil, or_false] at hq; rcases hq with rfl | rfl | rfl | rfl | rfl <;> rfl) ?_
  exact wFX3_tellChoices_j158_L25 HX h_p1 ka ke hR h
noncomputable def FX3_tellChoices_b25 (x : Nat) (p1 : Nat)  (l2 : Int32) (l3 : Int32) (s : Int32 × bs_Mm) : Option ((Int32 × bs_Mm) ⊕ (bs_Mm)) :=
  fg_bd (FX1_allBubbles x p1 s.2) (fun v8 => 
  if v8 < s.1 then (
    some (.inr s.2)
  ) else (
    fg_bd (FJ6_numberOfTrailingZeros_0f7a4  s.2 s.1) (fun v10 => 
    fg_gd (fg_in (s.1 &&& (s.1 - (nI 1))) 1024) (
    fg_gd (fg_in v10 24) (
    fg_gd (fg_in s.1 1024) (
    fg_wr s.2 (x + 37) s.1.toNatClampNeg (.int (((bs_iv (s.2 (x + 37) (s.1 &&& (s.1 - (nI 1))).toNatClampNeg)) + (bs_iv (s.2 (p1 + 2) v10.toNatClampNeg))) + l3)) (fun mu14 => 
    fg_gd (fg_in (s.1 &&& (s.1 - (nI 1))) 1024) (
    fg_gd (fg_in v10 24) (
    fg_gd (fg_in v10 24) (
    fg_gd (fg_in s.1 1024) (
    fg_wr mu14 (x + 38) s.1.toNatClampNeg (.int (((bs_iv (mu14 (x + 38) (s.1 &&& (s.1 - (nI 1))).toNatClampNeg)) ||| ((nI 1) <<< ((bs_iv (mu14 (p1 + 3) v10.toNatClampNeg)) &&& 31))) ||| ((nI 1) <<< ((bs_iv (mu14 (p1 + 4) v10.toNatClampNeg)) &&& 31)))) (fun mu19 => 
    fg_gd (fg_in (s.1 &&& (s.1 - (nI 1))) 1024) (
    fg_bd (FX1_endBits x p1 mu19 v10) (fun v22 => 
    fg_gd (fg_in s.1 1024) (
    fg_wr mu19 (x + 39) s.1.toNatClampNeg (.int ((bs_iv (mu19 (x + 39) (s.1 &&& (s.1 - (nI 1))).toNatClampNeg)) ^^^ v22)) (fun mu24 => 
    if (s.1 &&& (s.1 - (nI 1))) = 0 then (
      FX3_tellChoices_j153_L25 x p1 mu24 l2 l3 s.1 s.1
    ) else (
      fg_bd (FX3_hangsTogether x mu24 (bs_iv (mu24 p1 7)) s.1) (fun v42 => 
      if v42 = 0 then (
        FX3_tellChoices_j158_L25 x p1 mu24 l2 l3 s.1 s.1 (nI 0)
      ) else (
        FX3_tellChoices_j153_L25 x p1 mu24 l2 l3 s.1 s.1
      ))
    )))))))))))))))
  ))
set_option maxHeartbeats 4000000 in
theorem wFX3_tellChoices_b25 {nx : Nat} {sh : bs_Sh} {R : Nat → Nat → Option Nat} {x : Nat} (HX : fg_S (bs_tS x) R x sh) {p1 : Nat} (h_p1 : fg_F R sh p1) {l2 : Int32} {l3 : Int32} {Ph : bs_Po} {s : Int32 × bs_Mm} {r : (Int32 × bs_Mm) ⊕ (bs_Mm)} (ka : ∀ s, r = .inl s → fg_R R s.2 → bs_W Ph mX3_tellChoices (bs_rm 1 0 0) 25 (bs_mk [(0, .ref (x + 36)), (1, .ref p1), (2, .int l2), (3, .int l3), (4, .int s.1)]) [] 0 0 nx sh s.2) (ke : ∀ s, r = .inr s → fg_R R s → bs_W Ph mX3_tellChoices (bs_rm 1 0 0) 212 (bs_mk [(0, .ref (x + 36)), (1, .ref p1), (2, .int l2), (3, .int l3)]) [] 0 0 nx sh s) (hR : fg_R R s.2) (h : FX3_tellChoices_b25 x p1 l2 l3 s = some r) : bs_W Ph mX3_tellChoices (bs_rm 1 0 0) 25 (bs_mk [(0, .ref (x + 36)), (1, .ref p1), (2, .int l2), (3, .int l3), (4, .int s.1)]) [] 0 0 nx sh s.2 := by
  unfold FX3_tellChoices_b25 at h
  refine bs_iload dX3_tellChoices_25 rfl ?_
  refine bs_aload_n dX3_tellChoices_27 rfl ?_
  obtain ⟨v8, k7, h⟩ := fg_bdE h
  refine fg_callV dX3_tellChoices_28 qX3_55 (wX1_allBubbles HX h_p1 hR k7) rfl (h_p1.s0) rfl (Nat.le_of_ble_eq_true rfl) (fg_cr (by first | decide | omega) (by decide)) (fun hR => ?_)
  refine bs_icmp_gt (tgt := 212) dX3_tellChoices_31 (by decide) (fun c => ?_) (fun c => ?_)
  · replace h := fg_ip c h
    cases h
    refine bs_W.mk [(0, .ref (x + 36)), (1, .ref p1), (2, .int l2), (3, .int l3)] (by intro q hq; simp only [List.mem_cons, List.not_mem_nil, or_false] at hq; rcases hq with rfl | rfl | rfl | rfl <;> rfl) (ke _ rfl hR)
  · replace h := fg_iN c h
    refine bs_iload dX3_tellChoices_34 rfl ?_
    obtain ⟨v10, k9, h⟩ := fg_bdE h
    refine fg_callS dX3_tellChoices_36 qX3_69 (wJ6_numberOfTrailingZeros_0f7a4  hR k9) rfl rfl (Nat.le_of_ble_eq_true rfl) (fg_cr (by first | decide | omega) (by decide)) (fun hR => ?_)
    refine bs_istore dX3_tellChoices_39 rfl (by decide) ?_
    refine bs_iload dX3_tellChoices_41 rfl ?_
    refine bs_iload dX3_tellChoices_43 rfl ?_
    refine bs_iconst (v := (nI 1)) dX3_tellChoices_45 (by decide) ?_
    refine bs_isub dX3_tellChoices_46 ?_
    refine bs_iand dX3_tellChoices_47 ?_
    refine bs_istore dX3_tellChoices_48 rfl (by decide) ?_
    refine bs_aload_n dX3_tellChoices_50 rfl ?_
    refine fg_getR (b := (x + 37)) dX3_tellChoices_51 fX3_11 (HX.s 36 rfl rfl rfl) hR (HX.r 36 0 rfl rfl rfl) ?_
    refine bs_iload dX3_tellChoices_54 rfl ?_
    refine bs_aload_n dX3_tellChoices_56 rfl ?_
    refine fg_getR (b := (x + 37)) dX3_tellChoices_57 fX3_11 (HX.s 36 rfl rfl rfl) hR (HX.r 36 0 rfl rfl rfl) ?_
    refine bs_iload dX3_tellChoices_60 rfl ?_
    obtain ⟨g11, h⟩ := fg_gdE h
    refine bs_iald dX3_tellChoices_62 (HX.ss 37 rfl rfl) (fg_in_ix g11) ?_
    refine bs_aload_n dX3_tellChoices_63 rfl ?_
    refine fg_getR (b := (p1 + 2)) dX3_tellChoices_64 fX3_75 (h_p1.s0) hR (h_p1.r1) ?_
    refine bs_iload dX3_tellChoices_67 rfl ?_
    obtain ⟨g12, h⟩ := fg_gdE h
    refine bs_iald dX3_tellChoices_69 (h_p1.s2) (fg_in_ix g12) ?_
    refine bs_iadd dX3_tellChoices_70 ?_
    refine bs_iload_n dX3_tellChoices_71 rfl ?_
    refine bs_iadd dX3_tellChoices_72 ?_
    obtain ⟨g13, h⟩ := fg_gdE h
    refine fg_iast dX3_tellChoices_73 (HX.ss 37 rfl rfl) (fun j => HX.n 37 j rfl rfl rfl) g13 hR h (fun mu14 hR h => ?_)
    refine bs_aload_n dX3_tellChoices_74 rfl ?_
    refine fg_getR (b := (x + 38)) dX3_tellChoices_75 fX3_15 (HX.s 36 rfl rfl rfl) hR (HX.r 36 1 rfl rfl rfl) ?_
    refine bs_iload dX3_tellChoices_78 rfl ?_
    refine bs_aload_n dX3_tellChoices_80 rfl ?_
    refine fg_getR (b := (x + 38)) dX3_tellChoices_81 fX3_15 (HX.s 36 rfl rfl rfl) hR (HX.r 36 1 rfl rfl rfl) ?_
    refine bs_iload dX3_tellChoices_84 rfl ?_
    obtain ⟨g15, h⟩ := fg_gdE h
    refine bs_iald dX3_tellChoices_86 (HX.ss 38 rfl rfl) (fg_in_ix g15) ?_
    refine bs_iconst (v := (nI 1)) dX3_tellChoices_87 (by decide) ?_
    refine bs_aload_n dX3_tellChoices_88 rfl ?_
    refine fg_getR (b := (p1 + 3)) dX3_tellChoices_89 fX3_76 (h_p1.s0) hR (h_p1.r2) ?_
    refine bs_iload dX3_tellChoices_92 rfl ?_
    obtain ⟨g16, h⟩ := fg_gdE h
    refine bs_iald dX3_tellChoices_94 (h_p1.s3) (fg_in_ix g16) ?_
    refine bs_ishl dX3_tellChoices_95 ?_
    refine bs_ior dX3_tellChoices_96 ?_
    refine bs_iconst (v := (nI 1)) dX3_tellChoices_97 (by decide) ?_
    refine bs_aload_n dX3_tellChoices_98 rfl ?_
    refine fg_getR (b := (p1 + 4)) dX3_tellChoices_99 fX3_79 (h_p1.s0) hR (h_p1.r3) ?_
    refine bs_iload dX3_tellChoices_102 rfl ?_
    obtain ⟨g17, h⟩ := fg_gdE h
    refine bs_iald dX3_tellChoices_104 (h_p1.s4) (fg_in_ix g17) ?_
    refine bs_ishl dX3_tellChoices_105 ?_
    refine bs_ior dX3_tellChoices_106 ?_
    obtain ⟨g18, h⟩ := fg_gdE h
    refine fg_iast dX3_tellChoices_107 (HX.ss 38 rfl rfl) (fun j => HX.n 38 j rfl rfl rfl) g18 hR h (fun mu19 hR h => ?_)
    refine bs_aload_n dX3_tellChoices_108 rfl ?_
    refine fg_getR (b := (x + 39)) dX3_tellChoices_109 fX3_18 (HX.s 36 rfl rfl rfl) hR (HX.r 36 2 rfl rfl rfl) ?_
    refine bs_iload dX3_tellChoices_112 rfl ?_
    refine bs_aload_n dX3_tellChoices_114 rfl ?_
    refine fg_getR (b := (x + 39)) dX3_tellChoices_115 fX3_18 (HX.s 36 rfl rfl rfl) hR (HX.r 36 2 rfl rfl rfl) ?_
    refine bs_iload dX3_tellChoices_118 rfl ?_
    obtain ⟨g20, h⟩ := fg_gdE h
    refine bs_iald dX3_tellChoices_120 (HX.ss 39 rfl rfl) (fg_in_ix g20) ?_
    refine bs_aload_n dX3_tellChoices_121 rfl ?_
    refine bs_iload dX3_tellChoices_122 rfl ?_
    obtain ⟨v22, k21, h⟩ := fg_bdE h
    refine fg_callV dX3_tellChoices_124 qX3_82 (wX1_endBits HX h_p1 hR k21) rfl (h_p1.s0) rfl (Nat.le_of_ble_eq_true rfl) (fg_cr (by first | decide | omega) (by decide)) (fun hR => ?_)
    refine bs_ixor dX3_tellChoices_127 ?_
    obtain ⟨g23, h⟩ := fg_gdE h
    refine fg_iast dX3_tellChoices_128 (HX.ss 39 rfl rfl) (fun j => HX.n 39 j rfl rfl rfl) g23 hR h (fun mu24 hR h => ?_)
    refine bs_aload_n dX3_tellChoices_129 rfl ?_
    refine fg_getR (b := (x + 41)) dX3_tellChoices_130 fX3_24 (HX.s 36 rfl rfl rfl) hR (HX.r 36 4 rfl rfl rfl) ?_
    refine bs_iload dX3_tellChoices_133 rfl ?_
    refine bs_iload dX3_tellChoices_135 rfl ?_
    refine bs_if_eq (tgt := 153) dX3_tellChoices_137 (by decide) (fun c => ?_) (fun c => ?_)
    · replace h := fg_ip c h
      refine bs_W.mk [(0, .ref (x + 36)), (1, .ref p1), (2, .int l2), (3, .int l3), (4, .int s.1)] (by intro q hq; simp only [List.mem_cons, List.not_mem_nil, or_false] at hq; rcases hq with rfl | rfl | rfl | rfl | rfl <;> rfl) ?_
      exact wFX3_tellChoices_j153_L25 HX h_p1 ka ke hR h
    · replace h := fg_iN c h
      refine bs_aload_n dX3_tellChoices_140 rfl ?_
      refine bs_aload_n dX3_tellChoices_141 rfl ?_
      refine bs_getI dX3_tellChoices_142 fX3_85 (h_p1.s0) ?_
      refine bs_iload dX3_tellChoices_145 rfl ?_
      obtain ⟨v42, k41, h⟩ := fg_bdE h
      refine fg_callV dX3_tellChoices_147 qX3_89 (wX3_hangsTogether HX hR k41) rfl (HX.s 36 rfl rfl rfl) rfl (Nat.le_of_ble_eq_true rfl) (fg_cr (by first | decide | omega) (by decide)) (fun hR => ?_)
      refine bs_if_eq (tgt := 157) dX3_tellChoices_150 (by decide) (fun c => ?_) (fun c => ?_)
      · replace h := fg_ip c h
        refine bs_iconst (v := (nI 0)) dX3_tellChoices_157 (by decide) ?_
        refine bs_W.mk [(0, .ref (x + 36)), (1, .ref p1), (2, .int l2), (3, .int l3), (4, .int s.1)] (by intro q hq; simp only [List.mem_cons, List.not_mem_nil, or_false] at hq; rcases hq with rfl | rfl | rfl | rfl | rfl <;> rfl) ?_
        exact wFX3_tellChoices_j158_L25 HX h_p1 ka ke hR h
      · replace h := fg_iN c h
        refine bs_W.mk [(0, .ref (x + 36)), (1, .ref p1), (2, .int l2), (3, .int l3), (4, .int s.1)] (by intro q hq; simp only [List.mem_cons, List.not_mem_nil, or_false] at hq; rcases hq with rfl | rfl | rfl | rfl | rfl <;> rfl) ?_
        exact wFX3_tellChoices_j153_L25 HX h_p1 ka ke hR h
theorem wFX3_tellChoices_l25 {nx : Nat} {sh : bs_Sh} {R : Nat → Nat → Option Nat} {x : Nat} (HX : fg_S (bs_tS x) R x sh) {p1 : Nat} (h_p1 : fg_F R sh p1) {l2 : Int32} {l3 : Int32} {Ph : bs_Po} {t : bs_Mm} : ∀ n (y0 : Int32) (mu1 : bs_Mm), fg_lp (FX3_tellChoices_b25 x p1 l2 l3) n (y0, mu1) = some t → fg_R R mu1 → (ke : ∀ s, t = s → fg_R R s → bs_W Ph mX3_tellChoices (bs_rm 1 0 0) 212 (bs_mk [(0, .ref (x + 36)), (1, .ref p1), (2, .int l2), (3, .int l3)]) [] 0 0 nx sh s) → bs_W Ph mX3_tellChoices (bs_rm 1 0 0) 25 (bs_mk [(0, .ref (x + 36)), (1, .ref p1), (2, .int l2), (3, .int l3), (4, .int y0)]) [] 0 0 nx sh mu1 := by
  intro n
  induction n with
  | zero => intro y0 mu1 h; exact absurd h (fun z => fg_lp0 z)
  | succ n ih =>
    intro y0 mu1 h hR ke
    obtain ⟨r, hb, h1, h2⟩ := fg_lpE h
    exact wFX3_tellChoices_b25 (s := (y0, mu1)) HX h_p1 (fun s' e hR' => ih s'.1 s'.2 (h1 s' e) hR' ke) (fun s' e => ke s' (h2 _ e).symm) hR hb
noncomputable def FX3_tellChoices (x : Nat) (mu : bs_Mm) (p1 : Nat) (p2 : Int32) (p3 : Int32) : Option (bs_Mm) :=
  fg_gd (fg_in (nI 0) 1024) (
  fg_wr mu (x + 37) (nI 0).toNatClampNeg (.int (-p3)) (fun mu2 => 
  fg_gd (fg_in (nI 0) 1024) (
  fg_wr mu2 (x + 38) (nI 0).toNatClampNeg (.int (nI 0)) (fun mu4 => 
  fg_gd (fg_in (nI 0) 1024) (
  fg_wr mu4 (x + 39) (nI 0).toNatClampNeg (.int (nI 0)) (fun mu6 => 
  fg_bd (fg_lp (FX3_tellChoices_b25 x p1 p2 p3) fg_fu ((nI 1), mu6)) (fun t43 => 
    some t43
  )))))))
set_option maxHeartbeats 4000000 in
theorem wX3_tellChoices {nx : Nat} {sh : bs_Sh} {R : Nat → Nat → Option Nat} {x : Nat} (HX : fg_S (bs_tS x) R x sh) {p1 : Nat} (h_p1 : fg_F R sh p1) {mu : bs_Mm} (hR : fg_R R mu) {p2 : Int32} {p3 : Int32} {r : bs_Mm} (h : FX3_tellChoices x mu p1 p2 p3 = some r) : bs_C mX3_tellChoices (bs_rm 1 0 0) [.ref (x + 36), .ref p1, .int p2, .int p3] nx sh mu (fg_po R nx sh none r) := by
  refine bs_ct (by decide +kernel) (Nat.le_of_ble_eq_true rfl) ?_
  have kr : ∀ q, r = q → fg_R R q → (fg_po R nx sh none r) none nx sh q := fun q e hq => by subst e; exact ⟨rfl, rfl, rfl, rfl, hq⟩
  unfold FX3_tellChoices at h
  refine bs_aload_n dX3_tellChoices_0 rfl ?_
  refine fg_getR (b := (x + 37)) dX3_tellChoices_1 fX3_11 (HX.s 36 rfl rfl rfl) hR (HX.r 36 0 rfl rfl rfl) ?_
  refine bs_iconst (v := (nI 0)) dX3_tellChoices_4 (by decide) ?_
  refine bs_iload_n dX3_tellChoices_5 rfl ?_
  refine bs_ineg dX3_tellChoices_6 ?_
  obtain ⟨g1, h⟩ := fg_gdE h
  refine fg_iast dX3_tellChoices_7 (HX.ss 37 rfl rfl) (fun j => HX.n 37 j rfl rfl rfl) g1 hR h (fun mu2 hR h => ?_)
  refine bs_aload_n dX3_tellChoices_8 rfl ?_
  refine fg_getR (b := (x + 38)) dX3_tellChoices_9 fX3_15 (HX.s 36 rfl rfl rfl) hR (HX.r 36 1 rfl rfl rfl) ?_
  refine bs_iconst (v := (nI 0)) dX3_tellChoices_12 (by decide) ?_
  refine bs_iconst (v := (nI 0)) dX3_tellChoices_13 (by decide) ?_
  obtain ⟨g3, h⟩ := fg_gdE h
  refine fg_iast dX3_tellChoices_14 (HX.ss 38 rfl rfl) (fun j => HX.n 38 j rfl rfl rfl) g3 hR h (fun mu4 hR h => ?_)
  refine bs_aload_n dX3_tellChoices_15 rfl ?_
  refine fg_getR (b := (x + 39)) dX3_tellChoices_16 fX3_18 (HX.s 36 rfl rfl rfl) hR (HX.r 36 2 rfl rfl rfl) ?_
  refine bs_iconst (v := (nI 0)) dX3_tellChoices_19 (by decide) ?_
  refine bs_iconst (v := (nI 0)) dX3_tellChoices_20 (by decide) ?_
  obtain ⟨g5, h⟩ := fg_gdE h
  refine fg_iast dX3_tellChoices_21 (HX.ss 39 rfl rfl) (fun j => HX.n 39 j rfl rfl rfl) g5 hR h (fun mu6 hR h => ?_)
  refine bs_iconst (v := (nI 1)) dX3_tellChoices_22 (by decide) ?_
  refine bs_istore dX3_tellChoices_23 rfl (by decide) ?_
  obtain ⟨t43, k44, h⟩ := fg_bdE h
  refine bs_W.mk [(0, .ref (x + 36)), (1, .ref p1), (2, .int p2), (3, .int p3), (4, .int (nI 1))] (by intro q hq; simp only [List.mem_cons, List.not_mem_nil, or_false] at hq; rcases hq with rfl | rfl | rfl | rfl | rfl <;> rfl) ?_
  refine wFX3_tellChoices_l25 HX h_p1 _ _ _ k44 hR ?_
  intro s e hR
  subst e
  cases h
  exact bs_vret dX3_tellChoices_212 rfl (Nat.zero_le _) (Nat.zero_le _) (kr _ rfl hR)
noncomputable def FX3_fewestOf_b24 (x : Nat) (mu : bs_Mm) (l1 : Int32) (l2 : Int32) (l3 : Int32) (s : Int32 × Int32 × Int32) : Option ((Int32 × Int32 × Int32) ⊕ (Int32)) :=
  if s.2.2 ≤ 0 then (
    some (.inr s.2.1)
  ) else (
    fg_gd (fg_in (l2 ||| s.1) 1024) (
    if (bs_iv (mu (x + 42) (l2 ||| s.1).toNatClampNeg)) = 0 then (
      some (.inl (((s.1 - (nI 1)) &&& l3), s.2.1, (s.2.2 + (-1))))
    ) else (
      fg_gd (fg_in (l3 ^^^ s.1) 1024) (
      some (.inl (((s.1 - (nI 1)) &&& l3), (if ((bs_iv (mu (x + 40) (l3 ^^^ s.1).toNatClampNeg)) + (nI 1)) < s.2.1 then ((bs_iv (mu (x + 40) (l3 ^^^ s.1).toNatClampNeg)) + (nI 1)) else s.2.1), (s.2.2 + (-1)))))
    ))
  )
set_option maxHeartbeats 4000000 in
theorem wFX3_fewestOf_b24 {nx : Nat} {sh : bs_Sh} {R : Nat → Nat → Option Nat} {x : Nat} (HX : fg_S (bs_tS x) R x sh) {mu : bs_Mm} {l1 : Int32} {l2 : Int32} {l3 : Int32} {Ph : bs_Po} {s : Int32 × Int32 × Int32} {r : (Int32 × Int32 × Int32) ⊕ (Int32)} (ka : ∀ s, r = .inl s → bs_W Ph mX3_fewestOf (bs_rm 1 0 0) 24 (bs_mk [(0, .ref (x + 36)), (1, .int l1), (2, .int l2), (3, .int l3), (4, .int s.1), (5, .int s.2.1), (6, .int s.2.2)]) [] 0 0 nx sh mu) (ke : ∀ s, r = .inr s → bs_W Ph mX3_fewestOf (bs_rm 1 0 0) 73 (bs_mk [(0, .ref (x + 36)), (1, .int l1), (2, .int l2), (3, .int l3), (5, .int s)]) [] 0 0 nx sh mu) (hR : fg_R R mu) (h : FX3_fewestOf_b24 x mu l1 l2 l3 s = some r) : bs_W Ph mX3_fewestOf (bs_rm 1 0 0) 24 (bs_mk [(0, .ref (x + 36)), (1, .int l1), (2, .int l2), (3, .int l3), (4, .int s.1), (5, .int s.2.1), (6, .int s.2.2)]) [] 0 0 nx sh mu := by
  obtain ⟨s0_, s1_, s2_⟩ := s
  unfold FX3_fewestOf_b24 at h
  dsimp only at h ⊢
  refine bs_iload dX3_fewestOf_24 rfl ?_
  refine bs_if_le (tgt := 73) dX3_fewestOf_26 (by decide) (fun c => ?_) (fun c => ?_)
  · replace h := fg_ip c h
    cases h
    refine bs_W.mk [(0, .ref (x + 36)), (1, .int l1), (2, .int l2), (3, .int l3), (5, .int s1_)] (by intro q hq; simp only [List.mem_cons, List.not_mem_nil, or_false] at hq; rcases hq with rfl | rfl | rfl | rfl | rfl <;> rfl) (ke _ rfl)
  · replace h := fg_iN c h
    refine bs_aload_n dX3_fewestOf_29 rfl ?_
    refine fg_getR (b := (x + 42)) dX3_fewestOf_30 fX3_28 (HX.s 36 rfl rfl rfl) hR (HX.r 36 5 rfl rfl rfl) ?_
    refine bs_iload_n dX3_fewestOf_33 rfl ?_
    refine bs_iload dX3_fewestOf_34 rfl ?_
    refine bs_ior dX3_fewestOf_36 ?_
    obtain ⟨g3, h⟩ := fg_gdE h
    refine bs_zald dX3_fewestOf_37 (HX.ss 42 rfl rfl) (fg_in_ix g3) ?_
    refine bs_if_eq (tgt := 59) dX3_fewestOf_38 (by decide) (fun c => ?_) (fun c => ?_)
    · replace h := fg_ip c h
      refine bs_iload dX3_fewestOf_59 rfl ?_
      refine bs_iconst (v := (nI 1)) dX3_fewestOf_61 (by decide) ?_
      refine bs_isub dX3_fewestOf_62 ?_
      refine bs_iload_n dX3_fewestOf_63 rfl ?_
      refine bs_iand dX3_fewestOf_64 ?_
      refine bs_istore dX3_fewestOf_65 rfl (by decide) ?_
      refine fg_iinc (m := (-1)) dX3_fewestOf_67 rfl rfl (by decide) ?_
      refine bs_goto (tgt := 24) dX3_fewestOf_70 (by decide) ?_
      cases h
      refine bs_W.mk [(0, .ref (x + 36)), (1, .int l1), (2, .int l2), (3, .int l3), (4, .int ((s0_ - (nI 1)) &&& l3)), (5, .int s1_), (6, .int (s2_ + (-1)))] (by intro q hq; simp only [List.mem_cons, List.not_mem_nil, or_false] at hq; rcases hq with rfl | rfl | rfl | rfl | rfl | rfl | rfl <;> rfl) (by have k := ka _ rfl; dsimp only at k; exact k)
    · replace h := fg_iN c h
      refine bs_iload dX3_fewestOf_41 rfl ?_
      refine bs_aload_n dX3_fewestOf_43 rfl ?_
      refine fg_getR (b := (x + 40)) dX3_fewestOf_44 fX3_21 (HX.s 36 rfl rfl rfl) hR (HX.r 36 3 rfl rfl rfl) ?_
      refine bs_iload_n dX3_fewestOf_47 rfl ?_
      refine bs_iload dX3_fewestOf_48 rfl ?_
      refine bs_ixor dX3_fewestOf_50 ?_
      obtain ⟨g4, h⟩ := fg_gdE h
      refine bs_iald dX3_fewestOf_51 (HX.ss 40 rfl rfl) (fg_in_ix g4) ?_
      refine bs_iconst (v := (nI 1)) dX3_fewestOf_52 (by decide) ?_
      refine bs_iadd dX3_fewestOf_53 ?_
      refine bs_mmin dX3_fewestOf_54 xX3_99 (by first | decide | (simp only [bs_rm]; omega)) (by first | exact Nat.le_of_ble_eq_true rfl | (simp only [bs_rm, List.map, List.sum_cons, List.sum_nil, Value.category]; omega)) (Nat.zero_le _) (Nat.zero_le _) ?_
      refine bs_istore dX3_fewestOf_57 rfl (by decide) ?_
      refine bs_iload dX3_fewestOf_59 rfl ?_
      refine bs_iconst (v := (nI 1)) dX3_fewestOf_61 (by decide) ?_
      refine bs_isub dX3_fewestOf_62 ?_
      refine bs_iload_n dX3_fewestOf_63 rfl ?_
      refine bs_iand dX3_fewestOf_64 ?_
      refine bs_istore dX3_fewestOf_65 rfl (by decide) ?_
      refine fg_iinc (m := (-1)) dX3_fewestOf_67 rfl rfl (by decide) ?_
      refine bs_goto (tgt := 24) dX3_fewestOf_70 (by decide) ?_
      cases h
      refine bs_W.mk [(0, .ref (x + 36)), (1, .int l1), (2, .int l2), (3, .int l3), (4, .int ((s0_ - (nI 1)) &&& l3)), (5, .int (if ((bs_iv (mu (x + 40) (l3 ^^^ s0_).toNatClampNeg)) + (nI 1)) < s1_ then ((bs_iv (mu (x + 40) (l3 ^^^ s0_).toNatClampNeg)) + (nI 1)) else s1_)), (6, .int (s2_ + (-1)))] (by intro q hq; simp only [List.mem_cons, List.not_mem_nil, or_false] at hq; rcases hq with rfl | rfl | rfl | rfl | rfl | rfl | rfl <;> rfl) (by have k := ka _ rfl; dsimp only at k; exact k)
theorem wFX3_fewestOf_l24 {nx : Nat} {sh : bs_Sh} {R : Nat → Nat → Option Nat} {x : Nat} (HX : fg_S (bs_tS x) R x sh) {mu : bs_Mm} {l1 : Int32} {l2 : Int32} {l3 : Int32} {Ph : bs_Po} {t : Int32} : ∀ n (y0 : Int32) (y1 : Int32) (y2 : Int32), fg_lp (FX3_fewestOf_b24 x mu l1 l2 l3) n (y0, y1, y2) = some t → fg_R R mu → (ke : ∀ s, t = s → bs_W Ph mX3_fewestOf (bs_rm 1 0 0) 73 (bs_mk [(0, .ref (x + 36)), (1, .int l1), (2, .int l2), (3, .int l3), (5, .int s)]) [] 0 0 nx sh mu) → bs_W Ph mX3_fewestOf (bs_rm 1 0 0) 24 (bs_mk [(0, .ref (x + 36)), (1, .int l1), (2, .int l2), (3, .int l3), (4, .int y0), (5, .int y1), (6, .int y2)]) [] 0 0 nx sh mu := by
  intro n
  induction n with
  | zero => intro y0 y1 y2 h; exact absurd h (fun z => fg_lp0 z)
  | succ n ih =>
    intro y0 y1 y2 h hR ke
    obtain ⟨r, hb, h1, h2⟩ := fg_lpE h
    exact wFX3_fewestOf_b24 (s := (y0, y1, y2)) HX (fun s' e => ih s'.1 s'.2.1 s'.2.2 (h1 s' e) hR ke) (fun s' e => ke s' (h2 _ e).symm) hR hb
noncomputable def FX3_fewestOf (x : Nat) (mu : bs_Mm) (p1 : Int32) : Option (Int32) :=
  fg_bd (FJ6_bitCount_0f7a4  mu (p1 ^^^ (p1 &&& (-p1)))) (fun v2 => 
  fg_bd (fg_lp (FX3_fewestOf_b24 x mu p1 (p1 &&& (-p1)) (p1 ^^^ (p1 &&& (-p1)))) fg_fu ((p1 ^^^ (p1 &&& (-p1))), (nI 99), ((nI 1) <<< (v2 &&& 31)))) (fun t5 => 
    some (t5)
  ))
set_option maxHeartbeats 4000000 in
theorem wX3_fewestOf {nx : Nat} {sh : bs_Sh} {R : Nat → Nat → Option Nat} {x : Nat} (HX : fg_S (bs_tS x) R x sh) {mu : bs_Mm} (hR : fg_R R mu) {p1 : Int32} {r : Int32} (h : FX3_fewestOf x mu p1 = some r) : bs_C mX3_fewestOf (bs_rm 1 0 0) [.ref (x + 36), .int p1] nx sh mu (fg_po R nx sh (some (.int r)) mu) := by
  refine bs_ct (by decide +kernel) (Nat.le_of_ble_eq_true rfl) ?_
  have kr : ∀ q, r = q → fg_R R mu → (fg_po R nx sh (some (.int r)) mu) (some (.int q)) nx sh mu := fun q e hq => by subst e; exact ⟨rfl, rfl, rfl, rfl, hq⟩
  unfold FX3_fewestOf at h
  refine bs_iload_n dX3_fewestOf_0 rfl ?_
  refine bs_iload_n dX3_fewestOf_1 rfl ?_
  refine bs_ineg dX3_fewestOf_2 ?_
  refine bs_iand dX3_fewestOf_3 ?_
  refine bs_istore_n dX3_fewestOf_4 rfl (by decide) ?_
  refine bs_iload_n dX3_fewestOf_5 rfl ?_
  refine bs_iload_n dX3_fewestOf_6 rfl ?_
  refine bs_ixor dX3_fewestOf_7 ?_
  refine bs_istore_n dX3_fewestOf_8 rfl (by decide) ?_
  refine bs_iload_n dX3_fewestOf_9 rfl ?_
  refine bs_istore dX3_fewestOf_10 rfl (by decide) ?_
  refine bs_bipush (v := (nI 99)) dX3_fewestOf_12 (by decide) ?_
  refine bs_istore dX3_fewestOf_14 rfl (by decide) ?_
  refine bs_iconst (v := (nI 1)) dX3_fewestOf_16 (by decide) ?_
  refine bs_iload_n dX3_fewestOf_17 rfl ?_
  obtain ⟨v2, k1, h⟩ := fg_bdE h
  refine fg_callS dX3_fewestOf_18 qX3_93 (wJ6_bitCount_0f7a4  hR k1) rfl rfl (Nat.le_of_ble_eq_true rfl) (fg_cr (by first | decide | omega) (by decide)) (fun hR => ?_)
  refine bs_ishl dX3_fewestOf_21 ?_
  refine bs_istore dX3_fewestOf_22 rfl (by decide) ?_
  obtain ⟨t5, k6, h⟩ := fg_bdE h
  refine bs_W.mk [(0, .ref (x + 36)), (1, .int p1), (2, .int (p1 &&& (-p1))), (3, .int (p1 ^^^ (p1 &&& (-p1)))), (4, .int (p1 ^^^ (p1 &&& (-p1)))), (5, .int (nI 99)), (6, .int ((nI 1) <<< (v2 &&& 31)))] (by intro q hq; simp only [List.mem_cons, List.not_mem_nil, or_false] at hq; rcases hq with rfl | rfl | rfl | rfl | rfl | rfl | rfl <;> rfl) ?_
  refine wFX3_fewestOf_l24 HX _ _ _ _ k6 hR ?_
  intro s e
  subst e
  refine bs_iload dX3_fewestOf_73 rfl ?_
  cases h
  exact bs_iret dX3_fewestOf_75 rfl (Nat.zero_le _) (Nat.zero_le _) (kr _ rfl hR)
noncomputable def FX3_countFewest_b9 (x : Nat)  (l1 : Int32) (s : Int32 × bs_Mm) : Option ((Int32 × bs_Mm) ⊕ (bs_Mm)) :=
  if l1 < s.1 then (
    some (.inr s.2)
  ) else (
    fg_bd (FX3_fewestOf x s.2 s.1) (fun v4 => 
    fg_gd (fg_in s.1 1024) (
    fg_wr s.2 (x + 40) s.1.toNatClampNeg (.int v4) (fun mu6 => 
    some (.inl ((s.1 + (nI 1)), mu6)))))
  )
set_option maxHeartbeats 4000000 in
theorem wFX3_countFewest_b9 {nx : Nat} {sh : bs_Sh} {R : Nat → Nat → Option Nat} {x : Nat} (HX : fg_S (bs_tS x) R x sh) {l1 : Int32} {Ph : bs_Po} {s : Int32 × bs_Mm} {r : (Int32 × bs_Mm) ⊕ (bs_Mm)} (ka : ∀ s, r = .inl s → fg_R R s.2 → bs_W Ph mX3_countFewest (bs_rm 2 0 0) 9 (bs_mk [(0, .ref (x + 36)), (1, .int l1), (2, .int s.1)]) [] 0 0 nx sh s.2) (ke : ∀ s, r = .inr s → fg_R R s → bs_W Ph mX3_countFewest (bs_rm 2 0 0) 31 (bs_mk [(0, .ref (x + 36)), (1, .int l1)]) [] 0 0 nx sh s) (hR : fg_R R s.2) (h : FX3_countFewest_b9 x l1 s = some r) : bs_W Ph mX3_countFewest (bs_rm 2 0 0) 9 (bs_mk [(0, .ref (x + 36)), (1, .int l1), (2, .int s.1)]) [] 0 0 nx sh s.2 := by
  unfold FX3_countFewest_b9 at h
  refine bs_iload_n dX3_countFewest_9 rfl ?_
  refine bs_iload_n dX3_countFewest_10 rfl ?_
  refine bs_icmp_gt (tgt := 31) dX3_countFewest_11 (by decide) (fun c => ?_) (fun c => ?_)
  · replace h := fg_ip c h
    cases h
    refine bs_W.mk [(0, .ref (x + 36)), (1, .int l1)] (by intro q hq; simp only [List.mem_cons, List.not_mem_nil, or_false] at hq; rcases hq with rfl | rfl <;> rfl) (ke _ rfl hR)
  · replace h := fg_iN c h
    refine bs_aload_n dX3_countFewest_14 rfl ?_
    refine fg_getR (b := (x + 40)) dX3_countFewest_15 fX3_21 (HX.s 36 rfl rfl rfl) hR (HX.r 36 3 rfl rfl rfl) ?_
    refine bs_iload_n dX3_countFewest_18 rfl ?_
    refine bs_aload_n dX3_countFewest_19 rfl ?_
    refine bs_iload_n dX3_countFewest_20 rfl ?_
    obtain ⟨v4, k3, h⟩ := fg_bdE h
    refine fg_callV dX3_countFewest_21 qX3_96 (wX3_fewestOf HX hR k3) rfl (HX.s 36 rfl rfl rfl) rfl (Nat.le_of_ble_eq_true rfl) (fg_cr (by first | decide | omega) (by decide)) (fun hR => ?_)
    obtain ⟨g5, h⟩ := fg_gdE h
    refine fg_iast dX3_countFewest_24 (HX.ss 40 rfl rfl) (fun j => HX.n 40 j rfl rfl rfl) g5 hR h (fun mu6 hR h => ?_)
    refine fg_iinc (m := (nI 1)) dX3_countFewest_25 rfl rfl (by decide) ?_
    refine bs_goto (tgt := 9) dX3_countFewest_28 (by decide) ?_
    cases h
    refine bs_W.mk [(0, .ref (x + 36)), (1, .int l1), (2, .int (s.1 + (nI 1)))] (by intro q hq; simp only [List.mem_cons, List.not_mem_nil, or_false] at hq; rcases hq with rfl | rfl | rfl <;> rfl) (by have k := ka _ rfl hR; dsimp only at k; exact k)
theorem wFX3_countFewest_l9 {nx : Nat} {sh : bs_Sh} {R : Nat → Nat → Option Nat} {x : Nat} (HX : fg_S (bs_tS x) R x sh) {l1 : Int32} {Ph : bs_Po} {t : bs_Mm} : ∀ n (y0 : Int32) (mu1 : bs_Mm), fg_lp (FX3_countFewest_b9 x l1) n (y0, mu1) = some t → fg_R R mu1 → (ke : ∀ s, t = s → fg_R R s → bs_W Ph mX3_countFewest (bs_rm 2 0 0) 31 (bs_mk [(0, .ref (x + 36)), (1, .int l1)]) [] 0 0 nx sh s) → bs_W Ph mX3_countFewest (bs_rm 2 0 0) 9 (bs_mk [(0, .ref (x + 36)), (1, .int l1), (2, .int y0)]) [] 0 0 nx sh mu1 := by
  intro n
  induction n with
  | zero => intro y0 mu1 h; exact absurd h (fun z => fg_lp0 z)
  | succ n ih =>
    intro y0 mu1 h hR ke
    obtain ⟨r, hb, h1, h2⟩ := fg_lpE h
    exact wFX3_countFewest_b9 (s := (y0, mu1)) HX (fun s' e hR' => ih s'.1 s'.2 (h1 s' e) hR' ke) (fun s' e => ke s' (h2 _ e).symm) hR hb
noncomputable def FX3_countFewest (x : Nat) (mu : bs_Mm) (p1 : Int32) : Option (bs_Mm) :=
  fg_gd (fg_in (nI 0) 1024) (
  fg_wr mu (x + 40) (nI 0).toNatClampNeg (.int (nI 0)) (fun mu2 => 
  fg_bd (fg_lp (FX3_countFewest_b9 x p1) fg_fu ((nI 1), mu2)) (fun t7 => 
    some t7
  )))
set_option maxHeartbeats 4000000 in
theorem wX3_countFewest {nx : Nat} {sh : bs_Sh} {R : Nat → Nat → Option Nat} {x : Nat} (HX : fg_S (bs_tS x) R x sh) {mu : bs_Mm} (hR : fg_R R mu) {p1 : Int32} {r : bs_Mm} (h : FX3_countFewest x mu p1 = some r) : bs_C mX3_countFewest (bs_rm 2 0 0) [.ref (x + 36), .int p1] nx sh mu (fg_po R nx sh none r) := by
  refine bs_ct (by decide +kernel) (Nat.le_of_ble_eq_true rfl) ?_
  have kr : ∀ q, r = q → fg_R R q → (fg_po R nx sh none r) none nx sh q := fun q e hq => by subst e; exact ⟨rfl, rfl, rfl, rfl, hq⟩
  unfold FX3_countFewest at h
  refine bs_aload_n dX3_countFewest_0 rfl ?_
  refine fg_getR (b := (x + 40)) dX3_countFewest_1 fX3_21 (HX.s 36 rfl rfl rfl) hR (HX.r 36 3 rfl rfl rfl) ?_
  refine bs_iconst (v := (nI 0)) dX3_countFewest_4 (by decide) ?_
  refine bs_iconst (v := (nI 0)) dX3_countFewest_5 (by decide) ?_
  obtain ⟨g1, h⟩ := fg_gdE h
  refine fg_iast dX3_countFewest_6 (HX.ss 40 rfl rfl) (fun j => HX.n 40 j rfl rfl rfl) g1 hR h (fun mu2 hR h => ?_)
  refine bs_iconst (v := (nI 1)) dX3_countFewest_7 (by decide) ?_
  refine bs_istore_n dX3_countFewest_8 rfl (by decide) ?_
  obtain ⟨t7, k8, h⟩ := fg_bdE h
  refine bs_W.mk [(0, .ref (x + 36)), (1, .int p1), (2, .int (nI 1))] (by intro q hq; simp only [List.mem_cons, List.not_mem_nil, or_false] at hq; rcases hq with rfl | rfl | rfl <;> rfl) ?_
  refine wFX3_countFewest_l9 HX _ _ _ k8 hR ?_
  intro s e hR
  subst e
  cases h
  exact bs_vret dX3_countFewest_31 rfl (Nat.zero_le _) (Nat.zero_le _) (kr _ rfl hR)
noncomputable def FX3_lowestSet_j31_L7 (x : Nat) (mu : bs_Mm) (l1 : Int32) (l2 : Int32) (l3 : Int32) (t0 : Int32) : Option ((Int32) ⊕ ((Unit) ⊕ (Int32))) :=
  if t0 = 0 then (
    some (.inl (l3 + (nI 1)))
  ) else (
    fg_gd (fg_in l3 1024) (
    if (bs_iv (mu (x + 42) l3.toNatClampNeg)) = 0 then (
      some (.inl (l3 + (nI 1)))
    ) else (
      fg_gd (fg_in (l1 ^^^ l3) 1024) (
      fg_gd (fg_in l1 1024) (
      if ((bs_iv (mu (x + 40) (l1 ^^^ l3).toNatClampNeg)) + (nI 1)) = (bs_iv (mu (x + 40) l1.toNatClampNeg)) then (
        some (.inr (.inr (l3)))
      ) else (
        some (.inl (l3 + (nI 1)))
      )))
    ))
  )
set_option maxHeartbeats 4000000 in
theorem wFX3_lowestSet_j31_L7 {nx : Nat} {sh : bs_Sh} {R : Nat → Nat → Option Nat} {x : Nat} (HX : fg_S (bs_tS x) R x sh) {mu : bs_Mm} {l1 : Int32} {l2 : Int32} {l3 : Int32} {t0 : Int32} {Ph : bs_Po} {r : (Int32) ⊕ ((Unit) ⊕ (Int32))} (ka : ∀ s, r = .inl s → bs_W Ph mX3_lowestSet (bs_rm 0 0 0) 7 (bs_mk [(0, .ref (x + 36)), (1, .int l1), (2, .int l2), (3, .int s)]) [] 0 0 nx sh mu) (ke : ∀ s, r = .inr (.inl s) → bs_W Ph mX3_lowestSet (bs_rm 0 0 0) 74 (bs_mk [(0, .ref (x + 36)), (1, .int l1), (2, .int l2)]) [] 0 0 nx sh mu) (kr : ∀ q, r = .inr (.inr q) → fg_R R mu → Ph (some (.int q)) nx sh mu) (hR : fg_R R mu) (h : FX3_lowestSet_j31_L7 x mu l1 l2 l3 t0 = some r) : bs_W Ph mX3_lowestSet (bs_rm 0 0 0) 31 (bs_mk [(0, .ref (x + 36)), (1, .int l1), (2, .int l2), (3, .int l3)]) [.int t0] 0 0 nx sh mu := by
  unfold FX3_lowestSet_j31_L7 at h
  refine bs_istore dX3_lowestSet_31 rfl (by decide) ?_
  refine bs_iload dX3_lowestSet_33 rfl ?_
  refine bs_if_eq (tgt := 68) dX3_lowestSet_35 (by decide) (fun c => ?_) (fun c => ?_)
  · replace h := fg_ip c h
    refine fg_iinc (m := (nI 1)) dX3_lowestSet_68 rfl rfl (by decide) ?_
    refine bs_goto (tgt := 7) dX3_lowestSet_71 (by decide) ?_
    cases h
    refine bs_W.mk [(0, .ref (x + 36)), (1, .int l1), (2, .int l2), (3, .int (l3 + (nI 1)))] (by intro q hq; simp only [List.mem_cons, List.not_mem_nil, or_false] at hq; rcases hq with rfl | rfl | rfl | rfl <;> rfl) (ka _ rfl)
  · replace h := fg_iN c h
    refine bs_aload_n dX3_lowestSet_38 rfl ?_
    refine fg_getR (b := (x + 42)) dX3_lowestSet_39 fX3_28 (HX.s 36 rfl rfl rfl) hR (HX.r 36 5 rfl rfl rfl) ?_
    refine bs_iload_n dX3_lowestSet_42 rfl ?_
    obtain ⟨g1, h⟩ := fg_gdE h
    refine bs_zald dX3_lowestSet_43 (HX.ss 42 rfl rfl) (fg_in_ix g1) ?_
    refine bs_if_eq (tgt := 68) dX3_lowestSet_44 (by decide) (fun c => ?_) (fun c => ?_)
    · replace h := fg_ip c h
      refine fg_iinc (m := (nI 1)) dX3_lowestSet_68 rfl rfl (by decide) ?_
      refine bs_goto (tgt := 7) dX3_lowestSet_71 (by decide) ?_
      cases h
      refine bs_W.mk [(0, .ref (x + 36)), (1, .int l1), (2, .int l2), (3, .int (l3 + (nI 1)))] (by intro q hq; simp only [List.mem_cons, List.not_mem_nil, or_false] at hq; rcases hq with rfl | rfl | rfl | rfl <;> rfl) (ka _ rfl)
    · replace h := fg_iN c h
      refine bs_aload_n dX3_lowestSet_47 rfl ?_
      refine fg_getR (b := (x + 40)) dX3_lowestSet_48 fX3_21 (HX.s 36 rfl rfl rfl) hR (HX.r 36 3 rfl rfl rfl) ?_
      refine bs_iload_n dX3_lowestSet_51 rfl ?_
      refine bs_iload_n dX3_lowestSet_52 rfl ?_
      refine bs_ixor dX3_lowestSet_53 ?_
      obtain ⟨g2, h⟩ := fg_gdE h
      refine bs_iald dX3_lowestSet_54 (HX.ss 40 rfl rfl) (fg_in_ix g2) ?_
      refine bs_iconst (v := (nI 1)) dX3_lowestSet_55 (by decide) ?_
      refine bs_iadd dX3_lowestSet_56 ?_
      refine bs_aload_n dX3_lowestSet_57 rfl ?_
      refine fg_getR (b := (x + 40)) dX3_lowestSet_58 fX3_21 (HX.s 36 rfl rfl rfl) hR (HX.r 36 3 rfl rfl rfl) ?_
      refine bs_iload_n dX3_lowestSet_61 rfl ?_
      obtain ⟨g3, h⟩ := fg_gdE h
      refine bs_iald dX3_lowestSet_62 (HX.ss 40 rfl rfl) (fg_in_ix g3) ?_
      refine bs_icmp_ne (tgt := 68) dX3_lowestSet_63 (by decide) (fun c => ?_) (fun c => ?_)
      · replace h := fg_iN c h
        refine fg_iinc (m := (nI 1)) dX3_lowestSet_68 rfl rfl (by decide) ?_
        refine bs_goto (tgt := 7) dX3_lowestSet_71 (by decide) ?_
        cases h
        refine bs_W.mk [(0, .ref (x + 36)), (1, .int l1), (2, .int l2), (3, .int (l3 + (nI 1)))] (by intro q hq; simp only [List.mem_cons, List.not_mem_nil, or_false] at hq; rcases hq with rfl | rfl | rfl | rfl <;> rfl) (ka _ rfl)
      · replace h := fg_ip c h
        refine bs_iload_n dX3_lowestSet_66 rfl ?_
        cases h
        exact bs_iret dX3_lowestSet_67 rfl (Nat.zero_le _) (Nat.zero_le _) (kr _ rfl hR)
noncomputable def FX3_lowestSet_j30_L7 (x : Nat) (mu : bs_Mm) (l1 : Int32) (l2 : Int32) (l3 : Int32) : Option ((Int32) ⊕ ((Unit) ⊕ (Int32))) :=
  FX3_lowestSet_j31_L7 x mu l1 l2 l3 (nI 0)
set_option maxHeartbeats 4000000 in
theorem wFX3_lowestSet_j30_L7 {nx : Nat} {sh : bs_Sh} {R : Nat → Nat → Option Nat} {x : Nat} (HX : fg_S (bs_tS x) R x sh) {mu : bs_Mm} {l1 : Int32} {l2 : Int32} {l3 : Int32} {Ph : bs_Po} {r : (Int32) ⊕ ((Unit) ⊕ (Int32))} (ka : ∀ s, r = .inl s → bs_W Ph mX3_lowestSet (bs_rm 0 0 0) 7 (bs_mk [(0, .ref (x + 36)), (1, .int l1), (2, .int l2), (3, .int s)]) [] 0 0 nx sh mu) (ke : ∀ s, r = .inr (.inl s) → bs_W Ph mX3_lowestSet (bs_rm 0 0 0) 74 (bs_mk [(0, .ref (x + 36)), (1, .int l1), (2, .int l2)]) [] 0 0 nx sh mu) (kr : ∀ q, r = .inr (.inr q) → fg_R R mu → Ph (some (.int q)) nx sh mu) (hR : fg_R R mu) (h : FX3_lowestSet_j30_L7 x mu l1 l2 l3 = some r) : bs_W Ph mX3_lowestSet (bs_rm 0 0 0) 30 (bs_mk [(0, .ref (x + 36)), (1, .int l1), (2, .int l2), (3, .int l3)]) [] 0 0 nx sh mu := by
  unfold FX3_lowestSet_j30_L7 at h
  refine bs_iconst (v := (nI 0)) dX3_lowestSet_30 (by decide) ?_
  refine bs_W.mk [(0, .ref (x + 36)), (1, .int l1), (2, .int l2), (3, .int l3)] (by intro q hq; simp only [List.mem_cons, List.not_mem_nil, or_false] at hq; rcases hq with rfl | rfl | rfl | rfl <;> rfl) ?_
  exact wFX3_lowestSet_j31_L7 HX ka ke kr hR h
noncomputable def FX3_lowestSet_b7 (x : Nat) (mu : bs_Mm) (l1 : Int32) (l2 : Int32) (s : Int32) : Option ((Int32) ⊕ ((Unit) ⊕ (Int32))) :=
  if l1 ≤ s then (
    some (.inr (.inl ()))
  ) else (
    if (s &&& l2) = 0 then (
      FX3_lowestSet_j30_L7 x mu l1 l2 s
    ) else (
      if (s &&& (l1 ^^^ (-1))) = 0 then (
        FX3_lowestSet_j31_L7 x mu l1 l2 s (nI 1)
      ) else (
        FX3_lowestSet_j30_L7 x mu l1 l2 s
      )
    )
  )
set_option maxHeartbeats 4000000 in
theorem wFX3_lowestSet_b7 {nx : Nat} {sh : bs_Sh} {R : Nat → Nat → Option Nat} {x : Nat} (HX : fg_S (bs_tS x) R x sh) {mu : bs_Mm} {l1 : Int32} {l2 : Int32} {Ph : bs_Po} {s : Int32} {r : (Int32) ⊕ ((Unit) ⊕ (Int32))} (ka : ∀ s, r = .inl s → bs_W Ph mX3_lowestSet (bs_rm 0 0 0) 7 (bs_mk [(0, .ref (x + 36)), (1, .int l1), (2, .int l2), (3, .int s)]) [] 0 0 nx sh mu) (ke : ∀ s, r = .inr (.inl s) → bs_W Ph mX3_lowestSet (bs_rm 0 0 0) 74 (bs_mk [(0, .ref (x + 36)), (1, .int l1), (2, .int l2)]) [] 0 0 nx sh mu) (kr : ∀ q, r = .inr (.inr q) → fg_R R mu → Ph (some (.int q)) nx sh mu) (hR : fg_R R mu) (h : FX3_lowestSet_b7 x mu l1 l2 s = some r) : bs_W Ph mX3_lowestSet (bs_rm 0 0 0) 7 (bs_mk [(0, .ref (x + 36)), (1, .int l1), (2, .int l2), (3, .int s)]) [] 0 0 nx sh mu := by
  unfold FX3_lowestSet_b7 at h
  refine bs_iload_n dX3_lowestSet_7 rfl ?_
  refine bs_iload_n dX3_lowestSet_8 rfl ?_
  refine bs_icmp_ge (tgt := 74) dX3_lowestSet_9 (by decide) (fun c => ?_) (fun c => ?_)
  · replace h := fg_ip c h
    cases h
    refine bs_W.mk [(0, .ref (x + 36)), (1, .int l1), (2, .int l2)] (by intro q hq; simp only [List.mem_cons, List.not_mem_nil, or_false] at hq; rcases hq with rfl | rfl | rfl <;> rfl) (ke _ rfl)
  · replace h := fg_iN c h
    refine bs_iload_n dX3_lowestSet_12 rfl ?_
    refine bs_iload_n dX3_lowestSet_13 rfl ?_
    refine bs_iand dX3_lowestSet_14 ?_
    refine bs_if_eq (tgt := 30) dX3_lowestSet_15 (by decide) (fun c => ?_) (fun c => ?_)
    · replace h := fg_ip c h
      refine bs_W.mk [(0, .ref (x + 36)), (1, .int l1), (2, .int l2), (3, .int s)] (by intro q hq; simp only [List.mem_cons, List.not_mem_nil, or_false] at hq; rcases hq with rfl | rfl | rfl | rfl <;> rfl) ?_
      exact wFX3_lowestSet_j30_L7 HX ka ke kr hR h
    · replace h := fg_iN c h
      refine bs_iload_n dX3_lowestSet_18 rfl ?_
      refine bs_iload_n dX3_lowestSet_19 rfl ?_
      refine bs_iconst (v := (-1)) dX3_lowestSet_20 (by decide) ?_
      refine bs_ixor dX3_lowestSet_21 ?_
      refine bs_iand dX3_lowestSet_22 ?_
      refine bs_if_ne (tgt := 30) dX3_lowestSet_23 (by decide) (fun c => ?_) (fun c => ?_)
      · replace h := fg_iN c h
        refine bs_W.mk [(0, .ref (x + 36)), (1, .int l1), (2, .int l2), (3, .int s)] (by intro q hq; simp only [List.mem_cons, List.not_mem_nil, or_false] at hq; rcases hq with rfl | rfl | rfl | rfl <;> rfl) ?_
        exact wFX3_lowestSet_j30_L7 HX ka ke kr hR h
      · replace h := fg_ip c h
        refine bs_iconst (v := (nI 1)) dX3_lowestSet_26 (by decide) ?_
        refine bs_goto (tgt := 31) dX3_lowestSet_27 (by decide) ?_
        refine bs_W.mk [(0, .ref (x + 36)), (1, .int l1), (2, .int l2), (3, .int s)] (by intro q hq; simp only [List.mem_cons, List.not_mem_nil, or_false] at hq; rcases hq with rfl | rfl | rfl | rfl <;> rfl) ?_
        exact wFX3_lowestSet_j31_L7 HX ka ke kr hR h
theorem wFX3_lowestSet_l7 {nx : Nat} {sh : bs_Sh} {R : Nat → Nat → Option Nat} {x : Nat} (HX : fg_S (bs_tS x) R x sh) {mu : bs_Mm} {l1 : Int32} {l2 : Int32} {Ph : bs_Po} {t : (Unit) ⊕ (Int32)} : ∀ n (y0 : Int32), fg_lp (FX3_lowestSet_b7 x mu l1 l2) n y0 = some t → fg_R R mu → (ke : ∀ s, t = .inl s → bs_W Ph mX3_lowestSet (bs_rm 0 0 0) 74 (bs_mk [(0, .ref (x + 36)), (1, .int l1), (2, .int l2)]) [] 0 0 nx sh mu) → (kr : ∀ q, t = .inr q → fg_R R mu → Ph (some (.int q)) nx sh mu) → bs_W Ph mX3_lowestSet (bs_rm 0 0 0) 7 (bs_mk [(0, .ref (x + 36)), (1, .int l1), (2, .int l2), (3, .int y0)]) [] 0 0 nx sh mu := by
  intro n
  induction n with
  | zero => intro y0 h; exact absurd h (fun z => fg_lp0 z)
  | succ n ih =>
    intro y0 h hR ke kr
    obtain ⟨r, hb, h1, h2⟩ := fg_lpE h
    exact wFX3_lowestSet_b7 (s := y0) HX (fun s' e => ih s' (h1 s' e) hR ke kr) (fun s' e => ke s' (h2 _ e).symm) (fun q e => kr q (h2 _ e).symm) hR hb
noncomputable def FX3_lowestSet (x : Nat) (mu : bs_Mm) (p1 : Int32) : Option (Int32) :=
  fg_l3 (fg_lp (FX3_lowestSet_b7 x mu p1 (p1 &&& (-p1))) fg_fu (p1 &&& (-p1))) (fun t4 => 
    some (p1)
  ) (fun q6 => some q6)
set_option maxHeartbeats 4000000 in
theorem wX3_lowestSet {nx : Nat} {sh : bs_Sh} {R : Nat → Nat → Option Nat} {x : Nat} (HX : fg_S (bs_tS x) R x sh) {mu : bs_Mm} (hR : fg_R R mu) {p1 : Int32} {r : Int32} (h : FX3_lowestSet x mu p1 = some r) : bs_C mX3_lowestSet (bs_rm 0 0 0) [.ref (x + 36), .int p1] nx sh mu (fg_po R nx sh (some (.int r)) mu) := by
  refine bs_ct (by decide +kernel) (Nat.le_of_ble_eq_true rfl) ?_
  have kr : ∀ q, r = q → fg_R R mu → (fg_po R nx sh (some (.int r)) mu) (some (.int q)) nx sh mu := fun q e hq => by subst e; exact ⟨rfl, rfl, rfl, rfl, hq⟩
  unfold FX3_lowestSet at h
  refine bs_iload_n dX3_lowestSet_0 rfl ?_
  refine bs_iload_n dX3_lowestSet_1 rfl ?_
  refine bs_ineg dX3_lowestSet_2 ?_
  refine bs_iand dX3_lowestSet_3 ?_
  refine bs_istore_n dX3_lowestSet_4 rfl (by decide) ?_
  refine bs_iload_n dX3_lowestSet_5 rfl ?_
  refine bs_istore_n dX3_lowestSet_6 rfl (by decide) ?_
  obtain ⟨t40, k5, h1, h2⟩ := fg_l3E h
  refine bs_W.mk [(0, .ref (x + 36)), (1, .int p1), (2, .int (p1 &&& (-p1))), (3, .int (p1 &&& (-p1)))] (by intro q hq; simp only [List.mem_cons, List.not_mem_nil, or_false] at hq; rcases hq with rfl | rfl | rfl | rfl <;> rfl) ?_
  refine wFX3_lowestSet_l7 HX _ _ k5 hR ?_ ?_
  · intro t4 e
    replace h := h1 t4 e
    refine bs_iload_n dX3_lowestSet_74 rfl ?_
    cases h
    exact bs_iret dX3_lowestSet_75 rfl (Nat.zero_le _) (Nat.zero_le _) (kr _ rfl hR)
  · intro q6 e hR
    replace h := h2 q6 e
    cases h
    exact kr _ rfl hR
noncomputable def FX3_keepSets_b5 (x : Nat)  (l1 : Int32) (l2 : Int32) (s : Int32 × Int32 × bs_Mm) : Option ((Int32 × Int32 × bs_Mm) ⊕ (Int32 × bs_Mm)) :=
  if s.1 = 0 then (
    some (.inr (s.2.1, s.2.2))
  ) else (
    if (nI 10) ≤ s.2.1 then (
      some (.inr (s.2.1, s.2.2))
    ) else (
      fg_bd (FX3_lowestSet x s.2.2 s.1) (fun v2 => 
      fg_gd (fg_in ((l2 * (nI 10)) + s.2.1) 720) (
      fg_wr s.2.2 (x + 44) ((l2 * (nI 10)) + s.2.1).toNatClampNeg (.int v2) (fun mu4 => 
      some (.inl ((s.1 &&& (v2 ^^^ (-1))), (s.2.1 + (nI 1)), mu4)))))
    )
  )
set_option maxHeartbeats 4000000 in
theorem wFX3_keepSets_b5 {nx : Nat} {sh : bs_Sh} {R : Nat → Nat → Option Nat} {x : Nat} (HX : fg_S (bs_tS x) R x sh) {l1 : Int32} {l2 : Int32} {Ph : bs_Po} {s : Int32 × Int32 × bs_Mm} {r : (Int32 × Int32 × bs_Mm) ⊕ (Int32 × bs_Mm)} (ka : ∀ s, r = .inl s → fg_R R s.2.2 → bs_W Ph mX3_keepSets (bs_rm 1 0 0) 5 (bs_mk [(0, .ref (x + 36)), (1, .int l1), (2, .int l2), (3, .int s.1), (4, .int s.2.1)]) [] 0 0 nx sh s.2.2) (ke : ∀ s, r = .inr s → fg_R R s.2 → bs_W Ph mX3_keepSets (bs_rm 1 0 0) 50 (bs_mk [(0, .ref (x + 36)), (1, .int l1), (2, .int l2), (4, .int s.1)]) [] 0 0 nx sh s.2) (hR : fg_R R s.2.2) (h : FX3_keepSets_b5 x l1 l2 s = some r) : bs_W Ph mX3_keepSets (bs_rm 1 0 0) 5 (bs_mk [(0, .ref (x + 36)), (1, .int l1), (2, .int l2), (3, .int s.1), (4, .int s.2.1)]) [] 0 0 nx sh s.2.2 := by
  unfold FX3_keepSets_b5 at h
  refine bs_iload_n dX3_keepSets_5 rfl ?_
  refine bs_if_eq (tgt := 50) dX3_keepSets_6 (by decide) (fun c => ?_) (fun c => ?_)
  · replace h := fg_ip c h
    cases h
    refine bs_W.mk [(0, .ref (x + 36)), (1, .int l1), (2, .int l2), (4, .int s.2.1)] (by intro q hq; simp only [List.mem_cons, List.not_mem_nil, or_false] at hq; rcases hq with rfl | rfl | rfl | rfl <;> rfl) (ke _ rfl hR)
  · replace h := fg_iN c h
    refine bs_iload dX3_keepSets_9 rfl ?_
    refine bs_bipush (v := (nI 10)) dX3_keepSets_11 (by decide) ?_
    refine bs_icmp_ge (tgt := 50) dX3_keepSets_13 (by decide) (fun c => ?_) (fun c => ?_)
    · replace h := fg_ip c h
      cases h
      refine bs_W.mk [(0, .ref (x + 36)), (1, .int l1), (2, .int l2), (4, .int s.2.1)] (by intro q hq; simp only [List.mem_cons, List.not_mem_nil, or_false] at hq; rcases hq with rfl | rfl | rfl | rfl <;> rfl) (ke _ rfl hR)
    · replace h := fg_iN c h
      refine bs_aload_n dX3_keepSets_16 rfl ?_
      refine bs_iload_n dX3_keepSets_17 rfl ?_
      obtain ⟨v2, k1, h⟩ := fg_bdE h
      refine fg_callV dX3_keepSets_18 qX3_104 (wX3_lowestSet HX hR k1) rfl (HX.s 36 rfl rfl rfl) rfl (Nat.le_of_ble_eq_true rfl) (fg_cr (by first | decide | omega) (by decide)) (fun hR => ?_)
      refine bs_istore dX3_keepSets_21 rfl (by decide) ?_
      refine bs_aload_n dX3_keepSets_23 rfl ?_
      refine fg_getR (b := (x + 44)) dX3_keepSets_24 fX3_34 (HX.s 36 rfl rfl rfl) hR (HX.r 36 7 rfl rfl rfl) ?_
      refine bs_iload_n dX3_keepSets_27 rfl ?_
      refine bs_bipush (v := (nI 10)) dX3_keepSets_28 (by decide) ?_
      refine bs_imul dX3_keepSets_30 ?_
      refine bs_iload dX3_keepSets_31 rfl ?_
      refine bs_iadd dX3_keepSets_33 ?_
      refine bs_iload dX3_keepSets_34 rfl ?_
      obtain ⟨g3, h⟩ := fg_gdE h
      refine fg_iast dX3_keepSets_36 (HX.ss 44 rfl rfl) (fun j => HX.n 44 j rfl rfl rfl) g3 hR h (fun mu4 hR h => ?_)
      refine bs_iload_n dX3_keepSets_37 rfl ?_
      refine bs_iload dX3_keepSets_38 rfl ?_
      refine bs_iconst (v := (-1)) dX3_keepSets_40 (by decide) ?_
      refine bs_ixor dX3_keepSets_41 ?_
      refine bs_iand dX3_keepSets_42 ?_
      refine bs_istore_n dX3_keepSets_43 rfl (by decide) ?_
      refine fg_iinc (m := (nI 1)) dX3_keepSets_44 rfl rfl (by decide) ?_
      refine bs_goto (tgt := 5) dX3_keepSets_47 (by decide) ?_
      cases h
      refine bs_W.mk [(0, .ref (x + 36)), (1, .int l1), (2, .int l2), (3, .int (s.1 &&& (v2 ^^^ (-1)))), (4, .int (s.2.1 + (nI 1)))] (by intro q hq; simp only [List.mem_cons, List.not_mem_nil, or_false] at hq; rcases hq with rfl | rfl | rfl | rfl | rfl <;> rfl) (by have k := ka _ rfl hR; dsimp only at k; exact k)
theorem wFX3_keepSets_l5 {nx : Nat} {sh : bs_Sh} {R : Nat → Nat → Option Nat} {x : Nat} (HX : fg_S (bs_tS x) R x sh) {l1 : Int32} {l2 : Int32} {Ph : bs_Po} {t : Int32 × bs_Mm} : ∀ n (y0 : Int32) (y1 : Int32) (mu1 : bs_Mm), fg_lp (FX3_keepSets_b5 x l1 l2) n (y0, y1, mu1) = some t → fg_R R mu1 → (ke : ∀ s, t = s → fg_R R s.2 → bs_W Ph mX3_keepSets (bs_rm 1 0 0) 50 (bs_mk [(0, .ref (x + 36)), (1, .int l1), (2, .int l2), (4, .int s.1)]) [] 0 0 nx sh s.2) → bs_W Ph mX3_keepSets (bs_rm 1 0 0) 5 (bs_mk [(0, .ref (x + 36)), (1, .int l1), (2, .int l2), (3, .int y0), (4, .int y1)]) [] 0 0 nx sh mu1 := by
  intro n
  induction n with
  | zero => intro y0 y1 mu1 h; exact absurd h (fun z => fg_lp0 z)
  | succ n ih =>
    intro y0 y1 mu1 h hR ke
    obtain ⟨r, hb, h1, h2⟩ := fg_lpE h
    exact wFX3_keepSets_b5 (s := (y0, y1, mu1)) HX (fun s' e hR' => ih s'.1 s'.2.1 s'.2.2 (h1 s' e) hR' ke) (fun s' e => ke s' (h2 _ e).symm) hR hb
noncomputable def FX3_keepSets (x : Nat) (mu : bs_Mm) (p1 : Int32) (p2 : Int32) : Option (Int32 × bs_Mm) :=
  fg_bd (fg_lp (FX3_keepSets_b5 x p1 p2) fg_fu (p1, (nI 0), mu)) (fun t5 => 
    some (t5.1, t5.2)
  )
set_option maxHeartbeats 4000000 in
theorem wX3_keepSets {nx : Nat} {sh : bs_Sh} {R : Nat → Nat → Option Nat} {x : Nat} (HX : fg_S (bs_tS x) R x sh) {mu : bs_Mm} (hR : fg_R R mu) {p1 : Int32} {p2 : Int32} {r : Int32 × bs_Mm} (h : FX3_keepSets x mu p1 p2 = some r) : bs_C mX3_keepSets (bs_rm 1 0 0) [.ref (x + 36), .int p1, .int p2] nx sh mu (fg_po R nx sh (some (.int r.1)) r.2) := by
  refine bs_ct (by decide +kernel) (Nat.le_of_ble_eq_true rfl) ?_
  have kr : ∀ q, r = q → fg_R R q.2 → (fg_po R nx sh (some (.int r.1)) r.2) (some (.int q.1)) nx sh q.2 := fun q e hq => by subst e; exact ⟨rfl, rfl, rfl, rfl, hq⟩
  unfold FX3_keepSets at h
  refine bs_iload_n dX3_keepSets_0 rfl ?_
  refine bs_istore_n dX3_keepSets_1 rfl (by decide) ?_
  refine bs_iconst (v := (nI 0)) dX3_keepSets_2 (by decide) ?_
  refine bs_istore dX3_keepSets_3 rfl (by decide) ?_
  obtain ⟨t5, k6, h⟩ := fg_bdE h
  refine bs_W.mk [(0, .ref (x + 36)), (1, .int p1), (2, .int p2), (3, .int p1), (4, .int (nI 0))] (by intro q hq; simp only [List.mem_cons, List.not_mem_nil, or_false] at hq; rcases hq with rfl | rfl | rfl | rfl | rfl <;> rfl) ?_
  refine wFX3_keepSets_l5 HX _ _ _ _ k6 hR ?_
  intro s e hR
  subst e
  refine bs_iload dX3_keepSets_50 rfl ?_
  cases h
  exact bs_iret dX3_keepSets_52 rfl (Nat.zero_le _) (Nat.zero_le _) (kr _ rfl hR)
noncomputable def FX3_fewestFor (x : Nat) (mu : bs_Mm) (p1 : Nat) (p2 : Int32) (p3 : Int32) : Option (Int32 × bs_Mm) :=
  fg_gd (fg_in ((p2 * (nI 6)) + p3) 72) (
  if (bs_iv (mu (x + 43) ((p2 * (nI 6)) + p3).toNatClampNeg)) = (-2) then (
    fg_gd (fg_in p3 6) (
    fg_gd (fg_in p3 6) (
    fg_bd (FX3_tellChoices x mu p1 (bs_iv (mu (x + 2) p3.toNatClampNeg)) (bs_iv (mu (x + 3) p3.toNatClampNeg))) (fun mu6 => 
    fg_bd (FX1_allBubbles x p1 mu6) (fun v8 => 
    fg_bd (FX3_countFewest x mu6 v8) (fun mu10 => 
    fg_bd (FX1_allBubbles x p1 mu10) (fun v12 => 
    fg_gd (fg_in v12 1024) (
    if (bs_iv (mu10 (x + 40) v12.toNatClampNeg)) < (nI 99) then (
      fg_bd (FX1_allBubbles x p1 mu10) (fun v15 => 
      fg_b2 (FX3_keepSets x mu10 v15 ((p2 * (nI 6)) + p3)) (fun v18 mu17 => 
      fg_gd (fg_in ((p2 * (nI 6)) + p3) 72) (
      fg_wr mu17 (x + 43) ((p2 * (nI 6)) + p3).toNatClampNeg (.int v18) (fun mu20 => 
      fg_gd (fg_in ((p2 * (nI 6)) + p3) 72) (
      some ((bs_iv (mu20 (x + 43) ((p2 * (nI 6)) + p3).toNatClampNeg)), mu20))))))
    ) else (
      fg_gd (fg_in ((p2 * (nI 6)) + p3) 72) (
      fg_wr mu10 (x + 43) ((p2 * (nI 6)) + p3).toNatClampNeg (.int (-1)) (fun mu23 => 
      fg_gd (fg_in ((p2 * (nI 6)) + p3) 72) (
      some ((bs_iv (mu23 (x + 43) ((p2 * (nI 6)) + p3).toNatClampNeg)), mu23))))
    ))))))))
  ) else (
    fg_gd (fg_in ((p2 * (nI 6)) + p3) 72) (
    some ((bs_iv (mu (x + 43) ((p2 * (nI 6)) + p3).toNatClampNeg)), mu))
  ))
set_option maxHeartbeats 4000000 in
theorem wX3_fewestFor {nx : Nat} {sh : bs_Sh} {R : Nat → Nat → Option Nat} {x : Nat} (HX : fg_S (bs_tS x) R x sh) {p1 : Nat} (h_p1 : fg_F R sh p1) {mu : bs_Mm} (hR : fg_R R mu) {p2 : Int32} {p3 : Int32} {r : Int32 × bs_Mm} (h : FX3_fewestFor x mu p1 p2 p3 = some r) : bs_C mX3_fewestFor (bs_rm 3 0 0) [.ref (x + 36), .ref p1, .int p2, .int p3, .ref (x + 1)] nx sh mu (fg_po R nx sh (some (.int r.1)) r.2) := by
  refine bs_ct (by decide +kernel) (Nat.le_of_ble_eq_true rfl) ?_
  have kr : ∀ q, r = q → fg_R R q.2 → (fg_po R nx sh (some (.int r.1)) r.2) (some (.int q.1)) nx sh q.2 := fun q e hq => by subst e; exact ⟨rfl, rfl, rfl, rfl, hq⟩
  unfold FX3_fewestFor at h
  refine bs_iload_n dX3_fewestFor_0 rfl ?_
  refine bs_bipush (v := (nI 6)) dX3_fewestFor_1 (by decide) ?_
  refine bs_imul dX3_fewestFor_3 ?_
  refine bs_iload_n dX3_fewestFor_4 rfl ?_
  refine bs_iadd dX3_fewestFor_5 ?_
  refine bs_istore dX3_fewestFor_6 rfl (by decide) ?_
  refine bs_aload_n dX3_fewestFor_8 rfl ?_
  refine fg_getR (b := (x + 43)) dX3_fewestFor_9 fX3_31 (HX.s 36 rfl rfl rfl) hR (HX.r 36 6 rfl rfl rfl) ?_
  refine bs_iload dX3_fewestFor_12 rfl ?_
  obtain ⟨g1, h⟩ := fg_gdE h
  refine bs_iald dX3_fewestFor_14 (HX.ss 43 rfl rfl) (fg_in_ix g1) ?_
  refine bs_bipush (v := (-2)) dX3_fewestFor_15 (by decide) ?_
  refine bs_icmp_ne (tgt := 82) dX3_fewestFor_17 (by decide) (fun c => ?_) (fun c => ?_)
  · replace h := fg_iN c h
    refine bs_aload_n dX3_fewestFor_82 rfl ?_
    refine fg_getR (b := (x + 43)) dX3_fewestFor_83 fX3_31 (HX.s 36 rfl rfl rfl) hR (HX.r 36 6 rfl rfl rfl) ?_
    refine bs_iload dX3_fewestFor_86 rfl ?_
    obtain ⟨g2, h⟩ := fg_gdE h
    refine bs_iald dX3_fewestFor_88 (HX.ss 43 rfl rfl) (fg_in_ix g2) ?_
    cases h
    exact bs_iret dX3_fewestFor_89 rfl (Nat.zero_le _) (Nat.zero_le _) (kr _ rfl hR)
  · replace h := fg_ip c h
    refine bs_aload_n dX3_fewestFor_20 rfl ?_
    refine bs_aload_n dX3_fewestFor_21 rfl ?_
    refine bs_aload dX3_fewestFor_22 rfl ?_
    refine fg_getR (b := (x + 2)) dX3_fewestFor_24 fX3_43 (HX.s 1 rfl rfl rfl) hR (HX.r 1 0 rfl rfl rfl) ?_
    refine bs_iload_n dX3_fewestFor_27 rfl ?_
    obtain ⟨g3, h⟩ := fg_gdE h
    refine bs_iald dX3_fewestFor_28 (HX.ss 2 rfl rfl) (fg_in_ix g3) ?_
    refine bs_aload dX3_fewestFor_29 rfl ?_
    refine fg_getR (b := (x + 3)) dX3_fewestFor_31 fX3_48 (HX.s 1 rfl rfl rfl) hR (HX.r 1 1 rfl rfl rfl) ?_
    refine bs_iload_n dX3_fewestFor_34 rfl ?_
    obtain ⟨g4, h⟩ := fg_gdE h
    refine bs_iald dX3_fewestFor_35 (HX.ss 3 rfl rfl) (fg_in_ix g4) ?_
    obtain ⟨mu6, k5, h⟩ := fg_bdE h
    refine fg_callVv dX3_fewestFor_36 qX3_51 (wX3_tellChoices HX h_p1 hR k5) rfl (HX.s 36 rfl rfl rfl) rfl (Nat.le_of_ble_eq_true rfl) (fg_cr (by first | decide | omega) (by decide)) (fun hR => ?_)
    refine bs_aload_n dX3_fewestFor_39 rfl ?_
    refine bs_aload_n dX3_fewestFor_40 rfl ?_
    obtain ⟨v8, k7, h⟩ := fg_bdE h
    refine fg_callV dX3_fewestFor_41 qX3_55 (wX1_allBubbles HX h_p1 hR k7) rfl (h_p1.s0) rfl (Nat.le_of_ble_eq_true rfl) (fg_cr (by first | decide | omega) (by decide)) (fun hR => ?_)
    obtain ⟨mu10, k9, h⟩ := fg_bdE h
    refine fg_callVv dX3_fewestFor_44 qX3_61 (wX3_countFewest HX hR k9) rfl (HX.s 36 rfl rfl rfl) rfl (Nat.le_of_ble_eq_true rfl) (fg_cr (by first | decide | omega) (by decide)) (fun hR => ?_)
    refine bs_aload_n dX3_fewestFor_47 rfl ?_
    refine fg_getR (b := (x + 43)) dX3_fewestFor_48 fX3_31 (HX.s 36 rfl rfl rfl) hR (HX.r 36 6 rfl rfl rfl) ?_
    refine bs_iload dX3_fewestFor_51 rfl ?_
    refine bs_aload_n dX3_fewestFor_53 rfl ?_
    refine fg_getR (b := (x + 40)) dX3_fewestFor_54 fX3_21 (HX.s 36 rfl rfl rfl) hR (HX.r 36 3 rfl rfl rfl) ?_
    refine bs_aload_n dX3_fewestFor_57 rfl ?_
    obtain ⟨v12, k11, h⟩ := fg_bdE h
    refine fg_callV dX3_fewestFor_58 qX3_55 (wX1_allBubbles HX h_p1 hR k11) rfl (h_p1.s0) rfl (Nat.le_of_ble_eq_true rfl) (fg_cr (by first | decide | omega) (by decide)) (fun hR => ?_)
    obtain ⟨g13, h⟩ := fg_gdE h
    refine bs_iald dX3_fewestFor_61 (HX.ss 40 rfl rfl) (fg_in_ix g13) ?_
    refine bs_bipush (v := (nI 99)) dX3_fewestFor_62 (by decide) ?_
    refine bs_icmp_lt (tgt := 71) dX3_fewestFor_64 (by decide) (fun c => ?_) (fun c => ?_)
    · replace h := fg_ip c h
      refine bs_aload_n dX3_fewestFor_71 rfl ?_
      refine bs_aload_n dX3_fewestFor_72 rfl ?_
      obtain ⟨v15, k14, h⟩ := fg_bdE h
      refine fg_callV dX3_fewestFor_73 qX3_55 (wX1_allBubbles HX h_p1 hR k14) rfl (h_p1.s0) rfl (Nat.le_of_ble_eq_true rfl) (fg_cr (by first | decide | omega) (by decide)) (fun hR => ?_)
      refine bs_iload dX3_fewestFor_76 rfl ?_
      obtain ⟨v18, mu17, k16, h⟩ := fg_b2E h
      refine fg_callV dX3_fewestFor_78 qX3_65 (wX3_keepSets HX hR k16) rfl (HX.s 36 rfl rfl rfl) rfl (Nat.le_of_ble_eq_true rfl) (fg_cr (by first | decide | omega) (by decide)) (fun hR => ?_)
      obtain ⟨g19, h⟩ := fg_gdE h
      refine fg_iast dX3_fewestFor_81 (HX.ss 43 rfl rfl) (fg_n43 HX) g19 hR h (fun mu20 hR h => ?_)
      refine bs_aload_n dX3_fewestFor_82 rfl ?_
      refine fg_getR (b := (x + 43)) dX3_fewestFor_83 fX3_31 (HX.s 36 rfl rfl rfl) hR (HX.r 36 6 rfl rfl rfl) ?_
      refine bs_iload dX3_fewestFor_86 rfl ?_
      obtain ⟨g21, h⟩ := fg_gdE h
      refine bs_iald dX3_fewestFor_88 (HX.ss 43 rfl rfl) (fg_in_ix g21) ?_
      cases h
      exact bs_iret dX3_fewestFor_89 rfl (Nat.zero_le _) (Nat.zero_le _) (kr _ rfl hR)
    · replace h := fg_iN c h
      refine bs_iconst (v := (-1)) dX3_fewestFor_67 (by decide) ?_
      refine bs_goto (tgt := 81) dX3_fewestFor_68 (by decide) ?_
      obtain ⟨g22, h⟩ := fg_gdE h
      refine fg_iast dX3_fewestFor_81 (HX.ss 43 rfl rfl) (fg_n43 HX) g22 hR h (fun mu23 hR h => ?_)
      refine bs_aload_n dX3_fewestFor_82 rfl ?_
      refine fg_getR (b := (x + 43)) dX3_fewestFor_83 fX3_31 (HX.s 36 rfl rfl rfl) hR (HX.r 36 6 rfl rfl rfl) ?_
      refine bs_iload dX3_fewestFor_86 rfl ?_
      obtain ⟨g24, h⟩ := fg_gdE h
      refine bs_iald dX3_fewestFor_88 (HX.ss 43 rfl rfl) (fg_in_ix g24) ?_
      cases h
      exact bs_iret dX3_fewestFor_89 rfl (Nat.zero_le _) (Nat.zero_le _) (kr _ rfl hR)
noncomputable def FX11_made (x : Nat) (mu : bs_Mm) (p1 : Int32) (p2 : Int32) : Option (Int32 × bs_Mm) :=
  fg_bd (FX11_figureAt x mu p1) (fun v2 => 
  fg_oq v2 (
    some ((-1), mu)
  ) (fun b3 => fg_gd (fg_isF x b3) (
    fg_bd (FX8_has x mu p2) (fun v6 => 
    if v6 = 0 then (
      some ((-1), mu)
    ) else (
      if (bs_iv (mu b3 7)) ≤ (nI 10) then (
        fg_b2 (FX3_fewestFor x mu b3 p1 p2) (fun v9 mu8 => 
        some (v9, mu8))
      ) else (
        some ((-1), mu)
      )
    ))
  )))
set_option maxHeartbeats 4000000 in
theorem wX11_made {nx : Nat} {sh : bs_Sh} {R : Nat → Nat → Option Nat} {x : Nat} (HX : fg_S (bs_tS x) R x sh) {mu : bs_Mm} (hR : fg_R R mu) {p1 : Int32} {p2 : Int32} {r : Int32 × bs_Mm} (h : FX11_made x mu p1 p2 = some r) : bs_C mX11_made (bs_rm 4 0 0) [.ref x, .int p1, .int p2] nx sh mu (fg_po R nx sh (some (.int r.1)) r.2) := by
  refine bs_ct (by decide +kernel) (Nat.le_of_ble_eq_true rfl) ?_
  have kr : ∀ q, r = q → fg_R R q.2 → (fg_po R nx sh (some (.int r.1)) r.2) (some (.int q.1)) nx sh q.2 := fun q e hq => by subst e; exact ⟨rfl, rfl, rfl, rfl, hq⟩
  unfold FX11_made at h
  refine bs_aload_n dX11_made_0 rfl ?_
  refine bs_iload_n dX11_made_1 rfl ?_
  obtain ⟨v2, k1, h⟩ := fg_bdE h
  refine fg_callV dX11_made_2 qX11_143 (wX11_figureAt HX hR k1) rfl (HX.s 0 rfl rfl rfl) rfl (Nat.le_of_ble_eq_true rfl) (fg_cr (by first | decide | omega) (by decide)) (fun hR => ?_)
  cases v2 with
  | none =>
    replace h := fg_oq0 h
    refine bs_astoreN_n dX11_made_5 rfl (by decide) ?_
    refine bs_aloadN_n dX11_made_6 rfl ?_
    refine bs_ifnullN (tgt := 30) dX11_made_7 (by decide) ?_
    refine bs_iconst (v := (-1)) dX11_made_30 (by decide) ?_
    cases h
    exact bs_iret dX11_made_31 rfl (Nat.zero_le _) (Nat.zero_le _) (kr _ rfl hR)
  | some b3 =>
    replace h := fg_oq1 h
    obtain ⟨g4, h⟩ := fg_gdE h
    have h_b3 := fg_isF_F HX g4
    refine bs_astore_n dX11_made_5 rfl (by decide) ?_
    refine bs_aload_n dX11_made_6 rfl ?_
    refine bs_ifnull dX11_made_7 ?_
    refine bs_aload_n dX11_made_10 rfl ?_
    refine fg_getR (b := (x + 1)) dX11_made_11 fX11_12 (HX.s 0 rfl rfl rfl) hR (HX.r 0 0 rfl rfl rfl) ?_
    refine bs_iload_n dX11_made_14 rfl ?_
    obtain ⟨v6, k5, h⟩ := fg_bdE h
    refine fg_callV dX11_made_15 qX11_277 (wX8_has HX hR k5) rfl (HX.s 1 rfl rfl rfl) rfl (Nat.le_of_ble_eq_true rfl) (fg_cr (by first | decide | omega) (by decide)) (fun hR => ?_)
    refine bs_if_eq (tgt := 30) dX11_made_18 (by decide) (fun c => ?_) (fun c => ?_)
    · replace h := fg_ip c h
      refine bs_iconst (v := (-1)) dX11_made_30 (by decide) ?_
      cases h
      exact bs_iret dX11_made_31 rfl (Nat.zero_le _) (Nat.zero_le _) (kr _ rfl hR)
    · replace h := fg_iN c h
      refine bs_aload_n dX11_made_21 rfl ?_
      refine bs_getI dX11_made_22 fX11_150 (h_b3.s0) ?_
      refine bs_bipush (v := (nI 10)) dX11_made_25 (by decide) ?_
      refine bs_icmp_le (tgt := 32) dX11_made_27 (by decide) (fun c => ?_) (fun c => ?_)
      · replace h := fg_ip c h
        refine bs_aload_n dX11_made_32 rfl ?_
        refine fg_getR (b := (x + 36)) dX11_made_33 fX11_66 (HX.s 0 rfl rfl rfl) hR (HX.r 0 8 rfl rfl rfl) ?_
        refine bs_aload_n dX11_made_36 rfl ?_
        refine bs_iload_n dX11_made_37 rfl ?_
        refine bs_iload_n dX11_made_38 rfl ?_
        refine bs_aload_n dX11_made_39 rfl ?_
        refine fg_getR (b := (x + 1)) dX11_made_40 fX11_12 (HX.s 0 rfl rfl rfl) hR (HX.r 0 0 rfl rfl rfl) ?_
        obtain ⟨v9, mu8, k7, h⟩ := fg_b2E h
        refine fg_callV dX11_made_43 qX11_280 (wX3_fewestFor HX h_b3 hR k7) rfl (HX.s 36 rfl rfl rfl) rfl (Nat.le_of_ble_eq_true rfl) (fg_cr (by first | decide | omega) (by decide)) (fun hR => ?_)
        cases h
        exact bs_iret dX11_made_46 rfl (Nat.zero_le _) (Nat.zero_le _) (kr _ rfl hR)
      · replace h := fg_iN c h
        refine bs_iconst (v := (-1)) dX11_made_30 (by decide) ?_
        cases h
        exact bs_iret dX11_made_31 rfl (Nat.zero_le _) (Nat.zero_le _) (kr _ rfl hR)
noncomputable def FX1_twists_b4 (x : Nat) (f : Nat) (mu : bs_Mm) (s : Int32 × Int32) : Option ((Int32 × Int32) ⊕ (Int32)) :=
  if (bs_iv (mu f 7)) ≤ s.2 then (
    some (.inr s.1)
  ) else (
    fg_bd (FX1_twistBehind x f mu s.2) (fun v2 => 
    if v2 = 0 then (
      some (.inl (s.1, (s.2 + (nI 1))))
    ) else (
      some (.inl ((s.1 + (nI 1)), (s.2 + (nI 1))))
    ))
  )
set_option maxHeartbeats 4000000 in
theorem wFX1_twists_b4 {nx : Nat} {sh : bs_Sh} {R : Nat → Nat → Option Nat} {x : Nat} (HX : fg_S (bs_tS x) R x sh) {f : Nat} (h_f : fg_F R sh f) {mu : bs_Mm} {Ph : bs_Po} {s : Int32 × Int32} {r : (Int32 × Int32) ⊕ (Int32)} (ka : ∀ s, r = .inl s → bs_W Ph mX1_twists (bs_rm 1 0 0) 4 (bs_mk [(0, .ref f), (1, .int s.1), (2, .int s.2)]) [] 0 0 nx sh mu) (ke : ∀ s, r = .inr s → bs_W Ph mX1_twists (bs_rm 1 0 0) 29 (bs_mk [(0, .ref f), (1, .int s)]) [] 0 0 nx sh mu) (hR : fg_R R mu) (h : FX1_twists_b4 x f mu s = some r) : bs_W Ph mX1_twists (bs_rm 1 0 0) 4 (bs_mk [(0, .ref f), (1, .int s.1), (2, .int s.2)]) [] 0 0 nx sh mu := by
  unfold FX1_twists_b4 at h
  refine bs_iload_n dX1_twists_4 rfl ?_
  refine bs_aload_n dX1_twists_5 rfl ?_
  refine bs_getI dX1_twists_6 fX1_40 (h_f.s0) ?_
  refine bs_icmp_ge (tgt := 29) dX1_twists_9 (by decide) (fun c => ?_) (fun c => ?_)
  · replace h := fg_ip c h
    cases h
    refine bs_W.mk [(0, .ref f), (1, .int s.1)] (by intro q hq; simp only [List.mem_cons, List.not_mem_nil, or_false] at hq; rcases hq with rfl | rfl <;> rfl) (ke _ rfl)
  · replace h := fg_iN c h
    refine bs_aload_n dX1_twists_12 rfl ?_
    refine bs_iload_n dX1_twists_13 rfl ?_
    obtain ⟨v2, k1, h⟩ := fg_bdE h
    refine fg_callV dX1_twists_14 qX1_65 (wX1_twistBehind HX h_f hR k1) rfl (h_f.s0) rfl (Nat.le_of_ble_eq_true rfl) (fg_cr (by first | decide | omega) (by decide)) (fun hR => ?_)
    refine bs_if_eq (tgt := 23) dX1_twists_17 (by decide) (fun c => ?_) (fun c => ?_)
    · replace h := fg_ip c h
      refine fg_iinc (m := (nI 1)) dX1_twists_23 rfl rfl (by decide) ?_
      refine bs_goto (tgt := 4) dX1_twists_26 (by decide) ?_
      cases h
      refine bs_W.mk [(0, .ref f), (1, .int s.1), (2, .int (s.2 + (nI 1)))] (by intro q hq; simp only [List.mem_cons, List.not_mem_nil, or_false] at hq; rcases hq with rfl | rfl | rfl <;> rfl) (by have k := ka _ rfl; dsimp only at k; exact k)
    · replace h := fg_iN c h
      refine fg_iinc (m := (nI 1)) dX1_twists_20 rfl rfl (by decide) ?_
      refine fg_iinc (m := (nI 1)) dX1_twists_23 rfl rfl (by decide) ?_
      refine bs_goto (tgt := 4) dX1_twists_26 (by decide) ?_
      cases h
      refine bs_W.mk [(0, .ref f), (1, .int (s.1 + (nI 1))), (2, .int (s.2 + (nI 1)))] (by intro q hq; simp only [List.mem_cons, List.not_mem_nil, or_false] at hq; rcases hq with rfl | rfl | rfl <;> rfl) (by have k := ka _ rfl; dsimp only at k; exact k)
theorem wFX1_twists_l4 {nx : Nat} {sh : bs_Sh} {R : Nat → Nat → Option Nat} {x : Nat} (HX : fg_S (bs_tS x) R x sh) {f : Nat} (h_f : fg_F R sh f) {mu : bs_Mm} {Ph : bs_Po} {t : Int32} : ∀ n (y0 : Int32) (y1 : Int32), fg_lp (FX1_twists_b4 x f mu) n (y0, y1) = some t → fg_R R mu → (ke : ∀ s, t = s → bs_W Ph mX1_twists (bs_rm 1 0 0) 29 (bs_mk [(0, .ref f), (1, .int s)]) [] 0 0 nx sh mu) → bs_W Ph mX1_twists (bs_rm 1 0 0) 4 (bs_mk [(0, .ref f), (1, .int y0), (2, .int y1)]) [] 0 0 nx sh mu := by
  intro n
  induction n with
  | zero => intro y0 y1 h; exact absurd h (fun z => fg_lp0 z)
  | succ n ih =>
    intro y0 y1 h hR ke
    obtain ⟨r, hb, h1, h2⟩ := fg_lpE h
    exact wFX1_twists_b4 (s := (y0, y1)) HX h_f (fun s' e => ih s'.1 s'.2 (h1 s' e) hR ke) (fun s' e => ke s' (h2 _ e).symm) hR hb
noncomputable def FX1_twists (x : Nat) (f : Nat) (mu : bs_Mm) : Option (Int32) :=
  fg_bd (fg_lp (FX1_twists_b4 x f mu) fg_fu ((nI 0), (nI 0))) (fun t3 => 
    some (t3)
  )
set_option maxHeartbeats 4000000 in
theorem wX1_twists {nx : Nat} {sh : bs_Sh} {R : Nat → Nat → Option Nat} {x : Nat} (HX : fg_S (bs_tS x) R x sh) {f : Nat} (h_f : fg_F R sh f) {mu : bs_Mm} (hR : fg_R R mu) {r : Int32} (h : FX1_twists x f mu = some r) : bs_C mX1_twists (bs_rm 1 0 0) [.ref f] nx sh mu (fg_po R nx sh (some (.int r)) mu) := by
  refine bs_ct (by decide +kernel) (Nat.le_of_ble_eq_true rfl) ?_
  have kr : ∀ q, r = q → fg_R R mu → (fg_po R nx sh (some (.int r)) mu) (some (.int q)) nx sh mu := fun q e hq => by subst e; exact ⟨rfl, rfl, rfl, rfl, hq⟩
  unfold FX1_twists at h
  refine bs_iconst (v := (nI 0)) dX1_twists_0 (by decide) ?_
  refine bs_istore_n dX1_twists_1 rfl (by decide) ?_
  refine bs_iconst (v := (nI 0)) dX1_twists_2 (by decide) ?_
  refine bs_istore_n dX1_twists_3 rfl (by decide) ?_
  obtain ⟨t3, k4, h⟩ := fg_bdE h
  refine bs_W.mk [(0, .ref f), (1, .int (nI 0)), (2, .int (nI 0))] (by intro q hq; simp only [List.mem_cons, List.not_mem_nil, or_false] at hq; rcases hq with rfl | rfl | rfl <;> rfl) ?_
  refine wFX1_twists_l4 HX h_f _ _ _ k4 hR ?_
  intro s e
  subst e
  refine bs_iload_n dX1_twists_29 rfl ?_
  cases h
  exact bs_iret dX1_twists_30 rfl (Nat.zero_le _) (Nat.zero_le _) (kr _ rfl hR)
noncomputable def FX1_oddPoints_b4 (x : Nat) (f : Nat) (mu : bs_Mm) (s : Int32 × Int32) : Option ((Int32 × Int32) ⊕ (Int32)) :=
  if (bs_iv (mu f 7)) ≤ s.2 then (
    some (.inr s.1)
  ) else (
    fg_bd (FX1_endBits x f mu s.2) (fun v2 => 
    some (.inl ((s.1 ^^^ v2), (s.2 + (nI 1)))))
  )
set_option maxHeartbeats 4000000 in
theorem wFX1_oddPoints_b4 {nx : Nat} {sh : bs_Sh} {R : Nat → Nat → Option Nat} {x : Nat} (HX : fg_S (bs_tS x) R x sh) {f : Nat} (h_f : fg_F R sh f) {mu : bs_Mm} {Ph : bs_Po} {s : Int32 × Int32} {r : (Int32 × Int32) ⊕ (Int32)} (ka : ∀ s, r = .inl s → bs_W Ph mX1_oddPoints (bs_rm 1 0 0) 4 (bs_mk [(0, .ref f), (1, .int s.1), (2, .int s.2)]) [] 0 0 nx sh mu) (ke : ∀ s, r = .inr s → bs_W Ph mX1_oddPoints (bs_rm 1 0 0) 26 (bs_mk [(0, .ref f), (1, .int s)]) [] 0 0 nx sh mu) (hR : fg_R R mu) (h : FX1_oddPoints_b4 x f mu s = some r) : bs_W Ph mX1_oddPoints (bs_rm 1 0 0) 4 (bs_mk [(0, .ref f), (1, .int s.1), (2, .int s.2)]) [] 0 0 nx sh mu := by
  unfold FX1_oddPoints_b4 at h
  refine bs_iload_n dX1_oddPoints_4 rfl ?_
  refine bs_aload_n dX1_oddPoints_5 rfl ?_
  refine bs_getI dX1_oddPoints_6 fX1_40 (h_f.s0) ?_
  refine bs_icmp_ge (tgt := 26) dX1_oddPoints_9 (by decide) (fun c => ?_) (fun c => ?_)
  · replace h := fg_ip c h
    cases h
    refine bs_W.mk [(0, .ref f), (1, .int s.1)] (by intro q hq; simp only [List.mem_cons, List.not_mem_nil, or_false] at hq; rcases hq with rfl | rfl <;> rfl) (ke _ rfl)
  · replace h := fg_iN c h
    refine bs_iload_n dX1_oddPoints_12 rfl ?_
    refine bs_aload_n dX1_oddPoints_13 rfl ?_
    refine bs_iload_n dX1_oddPoints_14 rfl ?_
    obtain ⟨v2, k1, h⟩ := fg_bdE h
    refine fg_callV dX1_oddPoints_15 qX1_69 (wX1_endBits HX h_f hR k1) rfl (h_f.s0) rfl (Nat.le_of_ble_eq_true rfl) (fg_cr (by first | decide | omega) (by decide)) (fun hR => ?_)
    refine bs_ixor dX1_oddPoints_18 ?_
    refine bs_istore_n dX1_oddPoints_19 rfl (by decide) ?_
    refine fg_iinc (m := (nI 1)) dX1_oddPoints_20 rfl rfl (by decide) ?_
    refine bs_goto (tgt := 4) dX1_oddPoints_23 (by decide) ?_
    cases h
    refine bs_W.mk [(0, .ref f), (1, .int (s.1 ^^^ v2)), (2, .int (s.2 + (nI 1)))] (by intro q hq; simp only [List.mem_cons, List.not_mem_nil, or_false] at hq; rcases hq with rfl | rfl | rfl <;> rfl) (by have k := ka _ rfl; dsimp only at k; exact k)
theorem wFX1_oddPoints_l4 {nx : Nat} {sh : bs_Sh} {R : Nat → Nat → Option Nat} {x : Nat} (HX : fg_S (bs_tS x) R x sh) {f : Nat} (h_f : fg_F R sh f) {mu : bs_Mm} {Ph : bs_Po} {t : Int32} : ∀ n (y0 : Int32) (y1 : Int32), fg_lp (FX1_oddPoints_b4 x f mu) n (y0, y1) = some t → fg_R R mu → (ke : ∀ s, t = s → bs_W Ph mX1_oddPoints (bs_rm 1 0 0) 26 (bs_mk [(0, .ref f), (1, .int s)]) [] 0 0 nx sh mu) → bs_W Ph mX1_oddPoints (bs_rm 1 0 0) 4 (bs_mk [(0, .ref f), (1, .int y0), (2, .int y1)]) [] 0 0 nx sh mu := by
  intro n
  induction n with
  | zero => intro y0 y1 h; exact absurd h (fun z => fg_lp0 z)
  | succ n ih =>
    intro y0 y1 h hR ke
    obtain ⟨r, hb, h1, h2⟩ := fg_lpE h
    exact wFX1_oddPoints_b4 (s := (y0, y1)) HX h_f (fun s' e => ih s'.1 s'.2 (h1 s' e) hR ke) (fun s' e => ke s' (h2 _ e).symm) hR hb
noncomputable def FX1_oddPoints (x : Nat) (f : Nat) (mu : bs_Mm) : Option (Int32) :=
  fg_bd (fg_lp (FX1_oddPoints_b4 x f mu) fg_fu ((nI 0), (nI 0))) (fun t3 => 
    some (t3)
  )
set_option maxHeartbeats 4000000 in
theorem wX1_oddPoints {nx : Nat} {sh : bs_Sh} {R : Nat → Nat → Option Nat} {x : Nat} (HX : fg_S (bs_tS x) R x sh) {f : Nat} (h_f : fg_F R sh f) {mu : bs_Mm} (hR : fg_R R mu) {r : Int32} (h : FX1_oddPoints x f mu = some r) : bs_C mX1_oddPoints (bs_rm 1 0 0) [.ref f] nx sh mu (fg_po R nx sh (some (.int r)) mu) := by
  refine bs_ct (by decide +kernel) (Nat.le_of_ble_eq_true rfl) ?_
  have kr : ∀ q, r = q → fg_R R mu → (fg_po R nx sh (some (.int r)) mu) (some (.int q)) nx sh mu := fun q e hq => by subst e; exact ⟨rfl, rfl, rfl, rfl, hq⟩
  unfold FX1_oddPoints at h
  refine bs_iconst (v := (nI 0)) dX1_oddPoints_0 (by decide) ?_
  refine bs_istore_n dX1_oddPoints_1 rfl (by decide) ?_
  refine bs_iconst (v := (nI 0)) dX1_oddPoints_2 (by decide) ?_
  refine bs_istore_n dX1_oddPoints_3 rfl (by decide) ?_
  obtain ⟨t3, k4, h⟩ := fg_bdE h
  refine bs_W.mk [(0, .ref f), (1, .int (nI 0)), (2, .int (nI 0))] (by intro q hq; simp only [List.mem_cons, List.not_mem_nil, or_false] at hq; rcases hq with rfl | rfl | rfl <;> rfl) ?_
  refine wFX1_oddPoints_l4 HX h_f _ _ _ k4 hR ?_
  intro s e
  subst e
  refine bs_iload_n dX1_oddPoints_26 rfl ?_
  cases h
  exact bs_iret dX1_oddPoints_27 rfl (Nat.zero_le _) (Nat.zero_le _) (kr _ rfl hR)
noncomputable def FX11_many (x : Nat) (mu : bs_Mm) (p1 : Int32) (p2 : Int32) : Option (Int32) :=
  fg_bd (FX11_figureAt x mu p1) (fun v2 => 
  fg_oq v2 (
    some ((-1))
  ) (fun b3 => fg_gd (fg_isF x b3) (
    if p2 = (nI 0) then (
      some ((bs_iv (mu b3 6)))
    ) else (
    if p2 = (nI 1) then (
      some ((bs_iv (mu b3 7)))
    ) else (
    if p2 = (nI 2) then (
      some ((bs_iv (mu b3 8)))
    ) else (
    if p2 = (nI 3) then (
      fg_bd (FX1_twists x b3 mu) (fun v10 => 
      some (v10))
    ) else (
    if p2 = (nI 4) then (
      fg_bd (FX1_slackTwistsUpTo x b3 mu ((bs_iv (mu b3 7)) - (nI 1))) (fun v13 => 
      some (v13))
    ) else (
    if p2 = (nI 5) then (
      fg_bd (FX1_oddPoints x b3 mu) (fun v16 => 
      fg_bd (FJ6_bitCount_0f7a4  mu v16) (fun v18 => 
      some (v18)))
    ) else (
    some ((-1))
    ))))))
  )))
set_option maxHeartbeats 4000000 in
theorem wX11_many {nx : Nat} {sh : bs_Sh} {R : Nat → Nat → Option Nat} {x : Nat} (HX : fg_S (bs_tS x) R x sh) {mu : bs_Mm} (hR : fg_R R mu) {p1 : Int32} {p2 : Int32} {r : Int32} (h : FX11_many x mu p1 p2 = some r) : bs_C mX11_many (bs_rm 2 0 0) [.ref x, .int p1, .int p2] nx sh mu (fg_po R nx sh (some (.int r)) mu) := by
  refine bs_ct (by decide +kernel) (Nat.le_of_ble_eq_true rfl) ?_
  have kr : ∀ q, r = q → fg_R R mu → (fg_po R nx sh (some (.int r)) mu) (some (.int q)) nx sh mu := fun q e hq => by subst e; exact ⟨rfl, rfl, rfl, rfl, hq⟩
  unfold FX11_many at h
  refine bs_aload_n dX11_many_0 rfl ?_
  refine bs_iload_n dX11_many_1 rfl ?_
  obtain ⟨v2, k1, h⟩ := fg_bdE h
  refine fg_callV dX11_many_2 qX11_143 (wX11_figureAt HX hR k1) rfl (HX.s 0 rfl rfl rfl) rfl (Nat.le_of_ble_eq_true rfl) (fg_cr (by first | decide | omega) (by decide)) (fun hR => ?_)
  cases v2 with
  | none =>
    replace h := fg_oq0 h
    refine bs_astoreN_n dX11_many_5 rfl (by decide) ?_
    refine bs_aloadN_n dX11_many_6 rfl ?_
    refine bs_ifnonnullN dX11_many_7 ?_
    refine bs_iconst (v := (-1)) dX11_many_10 (by decide) ?_
    cases h
    exact bs_iret dX11_many_11 rfl (Nat.zero_le _) (Nat.zero_le _) (kr _ rfl hR)
  | some b3 =>
    replace h := fg_oq1 h
    obtain ⟨g4, h⟩ := fg_gdE h
    have h_b3 := fg_isF_F HX g4
    refine bs_astore_n dX11_many_5 rfl (by decide) ?_
    refine bs_aload_n dX11_many_6 rfl ?_
    refine bs_ifnonnull (tgt := 12) dX11_many_7 (by decide) ?_
    refine bs_iload_n dX11_many_12 rfl ?_
    by_cases e5 : p2 = (nI 0)
    · replace h := fg_ip e5 h
      refine bs_tableIn (off := 39) (tgt := 52) dX11_many_13 (by rw [e5]; decide) (by rw [e5]; decide) (by rw [e5]; decide) (by decide) ?_
      refine bs_aload_n dX11_many_52 rfl ?_
      refine bs_getI dX11_many_53 fX11_147 (h_b3.s0) ?_
      cases h
      exact bs_iret dX11_many_56 rfl (Nat.zero_le _) (Nat.zero_le _) (kr _ rfl hR)
    · replace h := fg_iN e5 h
      by_cases e6 : p2 = (nI 1)
      · replace h := fg_ip e6 h
        refine bs_tableIn (off := 44) (tgt := 57) dX11_many_13 (by rw [e6]; decide) (by rw [e6]; decide) (by rw [e6]; decide) (by decide) ?_
        refine bs_aload_n dX11_many_57 rfl ?_
        refine bs_getI dX11_many_58 fX11_150 (h_b3.s0) ?_
        cases h
        exact bs_iret dX11_many_61 rfl (Nat.zero_le _) (Nat.zero_le _) (kr _ rfl hR)
      · replace h := fg_iN e6 h
        by_cases e7 : p2 = (nI 2)
        · replace h := fg_ip e7 h
          refine bs_tableIn (off := 49) (tgt := 62) dX11_many_13 (by rw [e7]; decide) (by rw [e7]; decide) (by rw [e7]; decide) (by decide) ?_
          refine bs_aload_n dX11_many_62 rfl ?_
          refine bs_getI dX11_many_63 fX11_153 (h_b3.s0) ?_
          cases h
          exact bs_iret dX11_many_66 rfl (Nat.zero_le _) (Nat.zero_le _) (kr _ rfl hR)
        · replace h := fg_iN e7 h
          by_cases e8 : p2 = (nI 3)
          · replace h := fg_ip e8 h
            refine bs_tableIn (off := 54) (tgt := 67) dX11_many_13 (by rw [e8]; decide) (by rw [e8]; decide) (by rw [e8]; decide) (by decide) ?_
            refine bs_aload_n dX11_many_67 rfl ?_
            obtain ⟨v10, k9, h⟩ := fg_bdE h
            refine fg_callV dX11_many_68 qX11_156 (wX1_twists HX h_b3 hR k9) rfl (h_b3.s0) rfl (Nat.le_of_ble_eq_true rfl) (fg_cr (by first | decide | omega) (by decide)) (fun hR => ?_)
            cases h
            exact bs_iret dX11_many_71 rfl (Nat.zero_le _) (Nat.zero_le _) (kr _ rfl hR)
          · replace h := fg_iN e8 h
            by_cases e11 : p2 = (nI 4)
            · replace h := fg_ip e11 h
              refine bs_tableIn (off := 59) (tgt := 72) dX11_many_13 (by rw [e11]; decide) (by rw [e11]; decide) (by rw [e11]; decide) (by decide) ?_
              refine bs_aload_n dX11_many_72 rfl ?_
              refine bs_aload_n dX11_many_73 rfl ?_
              refine bs_getI dX11_many_74 fX11_150 (h_b3.s0) ?_
              refine bs_iconst (v := (nI 1)) dX11_many_77 (by decide) ?_
              refine bs_isub dX11_many_78 ?_
              obtain ⟨v13, k12, h⟩ := fg_bdE h
              refine fg_callV dX11_many_79 qX11_160 (wX1_slackTwistsUpTo HX h_b3 hR k12) rfl (h_b3.s0) rfl (Nat.le_of_ble_eq_true rfl) (fg_cr (by first | decide | omega) (by decide)) (fun hR => ?_)
              cases h
              exact bs_iret dX11_many_82 rfl (Nat.zero_le _) (Nat.zero_le _) (kr _ rfl hR)
            · replace h := fg_iN e11 h
              by_cases e14 : p2 = (nI 5)
              · replace h := fg_ip e14 h
                refine bs_tableIn (off := 70) (tgt := 83) dX11_many_13 (by rw [e14]; decide) (by rw [e14]; decide) (by rw [e14]; decide) (by decide) ?_
                refine bs_aload_n dX11_many_83 rfl ?_
                obtain ⟨v16, k15, h⟩ := fg_bdE h
                refine fg_callV dX11_many_84 qX11_163 (wX1_oddPoints HX h_b3 hR k15) rfl (h_b3.s0) rfl (Nat.le_of_ble_eq_true rfl) (fg_cr (by first | decide | omega) (by decide)) (fun hR => ?_)
                obtain ⟨v18, k17, h⟩ := fg_bdE h
                refine fg_callS dX11_many_87 qX11_166 (wJ6_bitCount_0f7a4  hR k17) rfl rfl (Nat.le_of_ble_eq_true rfl) (fg_cr (by first | decide | omega) (by decide)) (fun hR => ?_)
                cases h
                exact bs_iret dX11_many_90 rfl (Nat.zero_le _) (Nat.zero_le _) (kr _ rfl hR)
              · replace h := fg_iN e14 h
                refine fg_tabD (b := 0) (tgt := 91) (sp := [0, 1, 2, 3, 4, 5]) dX11_many_13 (by decide) (by decide) (by decide) ?_ (by decide) ?_
                · intro k hk; simp only [List.mem_cons, List.not_mem_nil, or_false] at hk; rcases hk with rfl | rfl | rfl | rfl | rfl | rfl <;> assumption
                · refine bs_iconst (v := (-1)) dX11_many_91 (by decide) ?_
                  cases h
                  exact bs_iret dX11_many_92 rfl (Nat.zero_le _) (Nat.zero_le _) (kr _ rfl hR)
