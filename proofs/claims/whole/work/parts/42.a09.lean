noncomputable def FX9_outcomeFor_b37 (x : Nat) (p2 : Nat)  (l1 : Int32) (s : Int32 × bs_Mm) : Option ((Int32 × bs_Mm) ⊕ ((bs_Mm) ⊕ (Int32 × bs_Mm))) :=
  if (bs_iv (s.2 p2 6)) ≤ s.1 then (
    some (.inr (.inl s.2))
  ) else (
    fg_gd (fg_in s.1 6) (
    fg_bd (FX1_bubblesOf x p2 s.2 s.1) (fun v9 => 
    fg_gd (fg_in (bs_iv (s.2 (p2 + 1) s.1.toNatClampNeg)) 6) (
    fg_b2 (FX9_makesBalloon x s.2 l1 (bs_iv (s.2 (p2 + 1) s.1.toNatClampNeg)) ((bs_iv (s.2 (x + 50) 2)) + ((bs_iv (s.2 (x + 50) 1)) * v9)) (bs_iv (s.2 (x + 4) (bs_iv (s.2 (p2 + 1) s.1.toNatClampNeg)).toNatClampNeg))) (fun v13 mu12 => 
    if v13 = 0 then (
      some (.inr (.inr ((nI 3), mu12)))
    ) else (
      some (.inl ((s.1 + (nI 1)), mu12))
    )))))
  )
set_option maxHeartbeats 4000000 in
theorem wFX9_outcomeFor_b37 {nx : Nat} {sh : bs_Sh} {R : Nat → Nat → Option Nat} {x : Nat} (HX : fg_S (bs_tS x) R x sh) {p2 : Nat} (h_p2 : fg_F R sh p2) {l1 : Int32} {Ph : bs_Po} {s : Int32 × bs_Mm} {r : (Int32 × bs_Mm) ⊕ ((bs_Mm) ⊕ (Int32 × bs_Mm))} (ka : ∀ s, r = .inl s → fg_R R s.2 → bs_W Ph mX9_outcomeFor (bs_rm 2 0 0) 37 (bs_mk [(0, .ref (x + 50)), (1, .int l1), (2, .ref p2), (3, .ref (x + 1)), (4, .int s.1)]) [] 0 0 nx sh s.2) (ke : ∀ s, r = .inr (.inl s) → fg_R R s → bs_W Ph mX9_outcomeFor (bs_rm 2 0 0) 96 (bs_mk [(0, .ref (x + 50)), (1, .int l1), (2, .ref p2), (3, .ref (x + 1))]) [] 0 0 nx sh s) (kr : ∀ q, r = .inr (.inr q) → fg_R R q.2 → Ph (some (.int q.1)) nx sh q.2) (hR : fg_R R s.2) (h : FX9_outcomeFor_b37 x p2 l1 s = some r) : bs_W Ph mX9_outcomeFor (bs_rm 2 0 0) 37 (bs_mk [(0, .ref (x + 50)), (1, .int l1), (2, .ref p2), (3, .ref (x + 1)), (4, .int s.1)]) [] 0 0 nx sh s.2 := by
  unfold FX9_outcomeFor_b37 at h
  refine bs_iload dX9_outcomeFor_37 rfl ?_
  refine bs_aload_n dX9_outcomeFor_39 rfl ?_
  refine bs_getI dX9_outcomeFor_40 fX9_76 (h_p2.s0) ?_
  refine bs_icmp_ge (tgt := 96) dX9_outcomeFor_43 (by decide) (fun c => ?_) (fun c => ?_)
  · replace h := fg_ip c h
    cases h
    refine bs_W.mk [(0, .ref (x + 50)), (1, .int l1), (2, .ref p2), (3, .ref (x + 1))] (by intro q hq; simp only [List.mem_cons, List.not_mem_nil, or_false] at hq; rcases hq with rfl | rfl | rfl | rfl <;> rfl) (ke _ rfl hR)
  · replace h := fg_iN c h
    refine bs_aload_n dX9_outcomeFor_46 rfl ?_
    refine fg_getR (b := (p2 + 1)) dX9_outcomeFor_47 fX9_81 (h_p2.s0) hR (h_p2.r0) ?_
    refine bs_iload dX9_outcomeFor_50 rfl ?_
    obtain ⟨g7, h⟩ := fg_gdE h
    refine bs_iald dX9_outcomeFor_52 (h_p2.s1) (fg_in_ix g7) ?_
    refine bs_istore dX9_outcomeFor_53 rfl (by decide) ?_
    refine bs_aload_n dX9_outcomeFor_55 rfl ?_
    refine bs_iload_n dX9_outcomeFor_56 rfl ?_
    refine bs_iload dX9_outcomeFor_57 rfl ?_
    refine bs_aload_n dX9_outcomeFor_59 rfl ?_
    refine bs_getI dX9_outcomeFor_60 fX9_84 (HX.s 50 rfl rfl rfl) ?_
    refine bs_aload_n dX9_outcomeFor_63 rfl ?_
    refine bs_getI dX9_outcomeFor_64 fX9_15 (HX.s 50 rfl rfl rfl) ?_
    refine bs_aload_n dX9_outcomeFor_67 rfl ?_
    refine bs_iload dX9_outcomeFor_68 rfl ?_
    obtain ⟨v9, k8, h⟩ := fg_bdE h
    refine fg_callV dX9_outcomeFor_70 qX9_87 (wX1_bubblesOf HX h_p2 hR k8) rfl (h_p2.s0) rfl (Nat.le_of_ble_eq_true rfl) (fg_cr (by first | decide | omega) (by decide)) (fun hR => ?_)
    refine bs_imul dX9_outcomeFor_73 ?_
    refine bs_iadd dX9_outcomeFor_74 ?_
    refine bs_aload_n dX9_outcomeFor_75 rfl ?_
    refine fg_getR (b := (x + 4)) dX9_outcomeFor_76 fX9_91 (HX.s 1 rfl rfl rfl) hR (HX.r 1 2 rfl rfl rfl) ?_
    refine bs_iload dX9_outcomeFor_79 rfl ?_
    obtain ⟨g10, h⟩ := fg_gdE h
    refine bs_iald dX9_outcomeFor_81 (HX.ss 4 rfl rfl) (fg_in_ix g10) ?_
    obtain ⟨v13, mu12, k11, h⟩ := fg_b2E h
    refine fg_callV dX9_outcomeFor_82 qX9_95 (wX9_makesBalloon HX hR k11) rfl (HX.s 50 rfl rfl rfl) rfl (Nat.le_of_ble_eq_true rfl) (fg_cr (by first | decide | omega) (by decide)) (fun hR => ?_)
    refine bs_if_ne (tgt := 90) dX9_outcomeFor_85 (by decide) (fun c => ?_) (fun c => ?_)
    · replace h := fg_iN c h
      refine fg_iinc (m := (nI 1)) dX9_outcomeFor_90 rfl rfl (by decide) ?_
      refine bs_goto (tgt := 37) dX9_outcomeFor_93 (by decide) ?_
      cases h
      refine bs_W.mk [(0, .ref (x + 50)), (1, .int l1), (2, .ref p2), (3, .ref (x + 1)), (4, .int (s.1 + (nI 1)))] (by intro q hq; simp only [List.mem_cons, List.not_mem_nil, or_false] at hq; rcases hq with rfl | rfl | rfl | rfl | rfl <;> rfl) (by have k := ka _ rfl hR; dsimp only at k; exact k)
    · replace h := fg_ip c h
      refine bs_iconst (v := (nI 3)) dX9_outcomeFor_88 (by decide) ?_
      cases h
      exact bs_iret dX9_outcomeFor_89 rfl (Nat.zero_le _) (Nat.zero_le _) (kr _ rfl hR)
theorem wFX9_outcomeFor_l37 {nx : Nat} {sh : bs_Sh} {R : Nat → Nat → Option Nat} {x : Nat} (HX : fg_S (bs_tS x) R x sh) {p2 : Nat} (h_p2 : fg_F R sh p2) {l1 : Int32} {Ph : bs_Po} {t : (bs_Mm) ⊕ (Int32 × bs_Mm)} : ∀ n (y0 : Int32) (mu1 : bs_Mm), fg_lp (FX9_outcomeFor_b37 x p2 l1) n (y0, mu1) = some t → fg_R R mu1 → (ke : ∀ s, t = .inl s → fg_R R s → bs_W Ph mX9_outcomeFor (bs_rm 2 0 0) 96 (bs_mk [(0, .ref (x + 50)), (1, .int l1), (2, .ref p2), (3, .ref (x + 1))]) [] 0 0 nx sh s) → (kr : ∀ q, t = .inr q → fg_R R q.2 → Ph (some (.int q.1)) nx sh q.2) → bs_W Ph mX9_outcomeFor (bs_rm 2 0 0) 37 (bs_mk [(0, .ref (x + 50)), (1, .int l1), (2, .ref p2), (3, .ref (x + 1)), (4, .int y0)]) [] 0 0 nx sh mu1 := by
  intro n
  induction n with
  | zero => intro y0 mu1 h; exact absurd h (fun z => fg_lp0 z)
  | succ n ih =>
    intro y0 mu1 h hR ke kr
    obtain ⟨r, hb, h1, h2⟩ := fg_lpE h
    exact wFX9_outcomeFor_b37 (s := (y0, mu1)) HX h_p2 (fun s' e hR' => ih s'.1 s'.2 (h1 s' e) hR' ke kr) (fun s' e => ke s' (h2 _ e).symm) (fun q e => kr q (h2 _ e).symm) hR hb
noncomputable def FX9_outcomeFor (x : Nat) (mu : bs_Mm) (p1 : Int32) (p2 : Nat) : Option (Int32 × bs_Mm) :=
  fg_gd (fg_in p1 30) (
  fg_gd (fg_in p1 30) (
  fg_gd (fg_in p1 30) (
  if ((bs_iv (mu (x + 53) p1.toNatClampNeg)) - (bs_iv (mu (x + 56) p1.toNatClampNeg))) ≤ (bs_iv (mu (x + 58) p1.toNatClampNeg)) then (
    fg_b2 (FX9_isThere x mu p2) (fun v6 mu5 => 
    if v6 = 0 then (
      some ((nI 2), mu5)
    ) else (
      fg_l3 (fg_lp (FX9_outcomeFor_b37 x p2 p1) fg_fu ((nI 0), mu5)) (fun t14 => 
        some ((nI 0), t14)
      ) (fun q16 => some q16)
    ))
  ) else (
    some ((nI 1), mu)
  ))))
set_option maxHeartbeats 4000000 in
theorem wX9_outcomeFor {nx : Nat} {sh : bs_Sh} {R : Nat → Nat → Option Nat} {x : Nat} (HX : fg_S (bs_tS x) R x sh) {p2 : Nat} (h_p2 : fg_F R sh p2) {mu : bs_Mm} (hR : fg_R R mu) {p1 : Int32} {r : Int32 × bs_Mm} (h : FX9_outcomeFor x mu p1 p2 = some r) : bs_C mX9_outcomeFor (bs_rm 2 0 0) [.ref (x + 50), .int p1, .ref p2, .ref (x + 1)] nx sh mu (fg_po R nx sh (some (.int r.1)) r.2) := by
  refine bs_ct (by decide +kernel) (Nat.le_of_ble_eq_true rfl) ?_
  have kr : ∀ q, r = q → fg_R R q.2 → (fg_po R nx sh (some (.int r.1)) r.2) (some (.int q.1)) nx sh q.2 := fun q e hq => by subst e; exact ⟨rfl, rfl, rfl, rfl, hq⟩
  unfold FX9_outcomeFor at h
  refine bs_aload_n dX9_outcomeFor_0 rfl ?_
  refine fg_getR (b := (x + 53)) dX9_outcomeFor_1 fX9_22 (HX.s 50 rfl rfl rfl) hR (HX.r 50 6 rfl rfl rfl) ?_
  refine bs_iload_n dX9_outcomeFor_4 rfl ?_
  obtain ⟨g1, h⟩ := fg_gdE h
  refine bs_iald dX9_outcomeFor_5 (HX.ss 53 rfl rfl) (fg_in_ix g1) ?_
  refine bs_aload_n dX9_outcomeFor_6 rfl ?_
  refine fg_getR (b := (x + 56)) dX9_outcomeFor_7 fX9_31 (HX.s 50 rfl rfl rfl) hR (HX.r 50 9 rfl rfl rfl) ?_
  refine bs_iload_n dX9_outcomeFor_10 rfl ?_
  obtain ⟨g2, h⟩ := fg_gdE h
  refine bs_iald dX9_outcomeFor_11 (HX.ss 56 rfl rfl) (fg_in_ix g2) ?_
  refine bs_isub dX9_outcomeFor_12 ?_
  refine bs_aload_n dX9_outcomeFor_13 rfl ?_
  refine fg_getR (b := (x + 58)) dX9_outcomeFor_14 fX9_37 (HX.s 50 rfl rfl rfl) hR (HX.r 50 11 rfl rfl rfl) ?_
  refine bs_iload_n dX9_outcomeFor_17 rfl ?_
  obtain ⟨g3, h⟩ := fg_gdE h
  refine bs_iald dX9_outcomeFor_18 (HX.ss 58 rfl rfl) (fg_in_ix g3) ?_
  refine bs_icmp_le (tgt := 24) dX9_outcomeFor_19 (by decide) (fun c => ?_) (fun c => ?_)
  · replace h := fg_ip c h
    refine bs_aload_n dX9_outcomeFor_24 rfl ?_
    refine bs_aload_n dX9_outcomeFor_25 rfl ?_
    obtain ⟨v6, mu5, k4, h⟩ := fg_b2E h
    refine fg_callV dX9_outcomeFor_26 qX9_72 (wX9_isThere HX h_p2 hR k4) rfl (HX.s 50 rfl rfl rfl) rfl (Nat.le_of_ble_eq_true rfl) (fg_cr (by first | decide | omega) (by decide)) (fun hR => ?_)
    refine bs_if_ne (tgt := 34) dX9_outcomeFor_29 (by decide) (fun c => ?_) (fun c => ?_)
    · replace h := fg_iN c h
      refine bs_iconst (v := (nI 0)) dX9_outcomeFor_34 (by decide) ?_
      refine bs_istore dX9_outcomeFor_35 rfl (by decide) ?_
      obtain ⟨t140, k15, h1, h2⟩ := fg_l3E h
      refine bs_W.mk [(0, .ref (x + 50)), (1, .int p1), (2, .ref p2), (3, .ref (x + 1)), (4, .int (nI 0))] (by intro q hq; simp only [List.mem_cons, List.not_mem_nil, or_false] at hq; rcases hq with rfl | rfl | rfl | rfl | rfl <;> rfl) ?_
      refine wFX9_outcomeFor_l37 HX h_p2 _ _ _ k15 hR ?_ ?_
      · intro t14 e hR
        replace h := h1 t14 e
        refine bs_iconst (v := (nI 0)) dX9_outcomeFor_96 (by decide) ?_
        cases h
        exact bs_iret dX9_outcomeFor_97 rfl (Nat.zero_le _) (Nat.zero_le _) (kr _ rfl hR)
      · intro q16 e hR
        replace h := h2 q16 e
        cases h
        exact kr _ rfl hR
    · replace h := fg_ip c h
      refine bs_iconst (v := (nI 2)) dX9_outcomeFor_32 (by decide) ?_
      cases h
      exact bs_iret dX9_outcomeFor_33 rfl (Nat.zero_le _) (Nat.zero_le _) (kr _ rfl hR)
  · replace h := fg_iN c h
    refine bs_iconst (v := (nI 1)) dX9_outcomeFor_22 (by decide) ?_
    cases h
    exact bs_iret dX9_outcomeFor_23 rfl (Nat.zero_le _) (Nat.zero_le _) (kr _ rfl hR)
noncomputable def FX9_serveAll_b29 (x : Nat)  (l3 : Int64) (s : Int32 × Int32 × Int32 × bs_Mm) : Option ((Int32 × Int32 × Int32 × bs_Mm) ⊕ (Int32 × bs_Mm)) :=
  if (bs_iv (s.2.2.2 (x + 50) 3)) ≤ s.2.2.1 then (
    some (.inr (s.2.1, s.2.2.2))
  ) else (
    fg_gd (fg_in s.2.2.1 30) (
    fg_gd (fg_in s.2.2.1 30) (
    fg_wr s.2.2.2 (x + 53) s.2.2.1.toNatClampNeg (.int (if s.1 < (bs_iv (s.2.2.2 (x + 56) s.2.2.1.toNatClampNeg)) then (bs_iv (s.2.2.2 (x + 56) s.2.2.1.toNatClampNeg)) else s.1)) (fun mu5 => 
    fg_gd (fg_in s.2.2.1 30) (
    fg_gd (fg_in s.2.2.1 30) (
    fg_wr mu5 (x + 54) s.2.2.1.toNatClampNeg (.int (bs_iv (mu5 (x + 53) s.2.2.1.toNatClampNeg))) (fun mu8 => 
    fg_gd (fg_in s.2.2.1 30) (
    fg_wr mu8 (x + 55) s.2.2.1.toNatClampNeg (.int (nI 0)) (fun mu10 => 
    fg_gd (fg_in s.2.2.1 30) (
    fg_gd (fg_in (bs_iv (mu10 (x + 57) s.2.2.1.toNatClampNeg)) 12) (
    fg_let (x + 63 + 7 * (bs_iv (mu10 (x + 57) s.2.2.1.toNatClampNeg)).toNatClampNeg) (fun b13 => 
    fg_b2 (FX9_outcomeFor x mu10 s.2.2.1 b13) (fun v16 mu15 => 
    fg_gd (fg_in s.2.2.1 30) (
    fg_wr mu15 (x + 52) s.2.2.1.toNatClampNeg (.int v16) (fun mu18 => 
    fg_gd (fg_in s.2.2.1 30) (
    fg_gd (fg_in s.2.2.1 30) (
    if (bs_iv (mu18 (x + 52) s.2.2.1.toNatClampNeg)) = 0 then (
      some (.inl ((bs_iv (mu18 (x + 54) s.2.2.1.toNatClampNeg)), (s.2.1 + (nI 1)), (s.2.2.1 + (nI 1)), mu18))
    ) else (
      some (.inl ((bs_iv (mu18 (x + 54) s.2.2.1.toNatClampNeg)), (s.2.1 + (nI 0)), (s.2.2.1 + (nI 1)), mu18))
    )))))))))))))))))
  )
set_option maxHeartbeats 4000000 in
theorem wFX9_serveAll_b29 {nx : Nat} {sh : bs_Sh} {R : Nat → Nat → Option Nat} {x : Nat} (HX : fg_S (bs_tS x) R x sh) {l3 : Int64} {Ph : bs_Po} {s : Int32 × Int32 × Int32 × bs_Mm} {r : (Int32 × Int32 × Int32 × bs_Mm) ⊕ (Int32 × bs_Mm)} (ka : ∀ s, r = .inl s → fg_R R s.2.2.2 → bs_W Ph mX9_serveAll (bs_rm 3 0 0) 29 (bs_mk [(0, .ref (x + 50)), (1, .ref (x + 7)), (2, .ref (x + 1)), (3, .long l3), (5, .int s.1), (6, .int s.2.1), (7, .int s.2.2.1)]) [] 0 0 nx sh s.2.2.2) (ke : ∀ s, r = .inr s → fg_R R s.2 → bs_W Ph mX9_serveAll (bs_rm 3 0 0) 137 (bs_mk [(0, .ref (x + 50)), (1, .ref (x + 7)), (2, .ref (x + 1)), (3, .long l3), (6, .int s.1)]) [] 0 0 nx sh s.2) (hR : fg_R R s.2.2.2) (h : FX9_serveAll_b29 x l3 s = some r) : bs_W Ph mX9_serveAll (bs_rm 3 0 0) 29 (bs_mk [(0, .ref (x + 50)), (1, .ref (x + 7)), (2, .ref (x + 1)), (3, .long l3), (5, .int s.1), (6, .int s.2.1), (7, .int s.2.2.1)]) [] 0 0 nx sh s.2.2.2 := by
  unfold FX9_serveAll_b29 at h
  refine bs_iload dX9_serveAll_29 rfl ?_
  refine bs_aload_n dX9_serveAll_31 rfl ?_
  refine bs_getI dX9_serveAll_32 fX9_46 (HX.s 50 rfl rfl rfl) ?_
  refine bs_icmp_ge (tgt := 137) dX9_serveAll_35 (by decide) (fun c => ?_) (fun c => ?_)
  · replace h := fg_ip c h
    cases h
    refine bs_W.mk [(0, .ref (x + 50)), (1, .ref (x + 7)), (2, .ref (x + 1)), (3, .long l3), (6, .int s.2.1)] (by intro q hq; simp only [List.mem_cons, List.not_mem_nil, or_false] at hq; rcases hq with rfl | rfl | rfl | rfl | rfl <;> rfl) (ke _ rfl hR)
  · replace h := fg_iN c h
    refine bs_aload_n dX9_serveAll_38 rfl ?_
    refine fg_getR (b := (x + 53)) dX9_serveAll_39 fX9_22 (HX.s 50 rfl rfl rfl) hR (HX.r 50 6 rfl rfl rfl) ?_
    refine bs_iload dX9_serveAll_42 rfl ?_
    refine bs_iload dX9_serveAll_44 rfl ?_
    refine bs_aload_n dX9_serveAll_46 rfl ?_
    refine fg_getR (b := (x + 56)) dX9_serveAll_47 fX9_31 (HX.s 50 rfl rfl rfl) hR (HX.r 50 9 rfl rfl rfl) ?_
    refine bs_iload dX9_serveAll_50 rfl ?_
    obtain ⟨g3, h⟩ := fg_gdE h
    refine bs_iald dX9_serveAll_52 (HX.ss 56 rfl rfl) (fg_in_ix g3) ?_
    refine bs_mmax dX9_serveAll_53 xX9_62 (by first | decide | (simp only [bs_rm]; omega)) (by first | exact Nat.le_of_ble_eq_true rfl | (simp only [bs_rm, List.map, List.sum_cons, List.sum_nil, Value.category]; omega)) (Nat.zero_le _) (Nat.zero_le _) ?_
    obtain ⟨g4, h⟩ := fg_gdE h
    refine fg_iast dX9_serveAll_56 (HX.ss 53 rfl rfl) (fun j => HX.n 53 j rfl rfl rfl) g4 hR h (fun mu5 hR h => ?_)
    refine bs_aload_n dX9_serveAll_57 rfl ?_
    refine fg_getR (b := (x + 54)) dX9_serveAll_58 fX9_25 (HX.s 50 rfl rfl rfl) hR (HX.r 50 7 rfl rfl rfl) ?_
    refine bs_iload dX9_serveAll_61 rfl ?_
    refine bs_aload_n dX9_serveAll_63 rfl ?_
    refine fg_getR (b := (x + 53)) dX9_serveAll_64 fX9_22 (HX.s 50 rfl rfl rfl) hR (HX.r 50 6 rfl rfl rfl) ?_
    refine bs_iload dX9_serveAll_67 rfl ?_
    obtain ⟨g6, h⟩ := fg_gdE h
    refine bs_iald dX9_serveAll_69 (HX.ss 53 rfl rfl) (fg_in_ix g6) ?_
    obtain ⟨g7, h⟩ := fg_gdE h
    refine fg_iast dX9_serveAll_70 (HX.ss 54 rfl rfl) (fun j => HX.n 54 j rfl rfl rfl) g7 hR h (fun mu8 hR h => ?_)
    refine bs_aload_n dX9_serveAll_71 rfl ?_
    refine fg_getR (b := (x + 55)) dX9_serveAll_72 fX9_28 (HX.s 50 rfl rfl rfl) hR (HX.r 50 8 rfl rfl rfl) ?_
    refine bs_iload dX9_serveAll_75 rfl ?_
    refine bs_iconst (v := (nI 0)) dX9_serveAll_77 (by decide) ?_
    obtain ⟨g9, h⟩ := fg_gdE h
    refine fg_iast dX9_serveAll_78 (HX.ss 55 rfl rfl) (fun j => HX.n 55 j rfl rfl rfl) g9 hR h (fun mu10 hR h => ?_)
    refine bs_aload_n dX9_serveAll_79 rfl ?_
    refine fg_getR (b := (x + 52)) dX9_serveAll_80 fX9_19 (HX.s 50 rfl rfl rfl) hR (HX.r 50 5 rfl rfl rfl) ?_
    refine bs_iload dX9_serveAll_83 rfl ?_
    refine bs_aload_n dX9_serveAll_85 rfl ?_
    refine bs_iload dX9_serveAll_86 rfl ?_
    refine bs_aload_n dX9_serveAll_88 rfl ?_
    refine bs_aload_n dX9_serveAll_89 rfl ?_
    refine fg_getR (b := (x + 57)) dX9_serveAll_90 fX9_34 (HX.s 50 rfl rfl rfl) hR (HX.r 50 10 rfl rfl rfl) ?_
    refine bs_iload dX9_serveAll_93 rfl ?_
    obtain ⟨g11, h⟩ := fg_gdE h
    refine bs_iald dX9_serveAll_95 (HX.ss 57 rfl rfl) (fg_in_ix g11) ?_
    obtain ⟨g12, h⟩ := fg_gdE h
    refine fg_aald dX9_serveAll_96 (HX.ss 7 rfl rfl) (Or.inl rfl) (fg_in_ix g12) hR (fg_fR HX _ (fg_in_lt g12)) ?_
    have h_b13 := fg_F12 HX _ (fg_in_lt g12)
    generalize x + 63 + 7 * (bs_iv (mu10 (x + 57) s.2.2.1.toNatClampNeg)).toNatClampNeg = b13 at h h_b13 ⊢
    replace h := fg_letE h
    refine bs_aload_n dX9_serveAll_97 rfl ?_
    obtain ⟨v16, mu15, k14, h⟩ := fg_b2E h
    refine fg_callV dX9_serveAll_98 qX9_68 (wX9_outcomeFor HX h_b13 hR k14) rfl (HX.s 50 rfl rfl rfl) rfl (Nat.le_of_ble_eq_true rfl) (fg_cr (by first | decide | omega) (by decide)) (fun hR => ?_)
    obtain ⟨g17, h⟩ := fg_gdE h
    refine fg_iast dX9_serveAll_101 (HX.ss 52 rfl rfl) (fun j => HX.n 52 j rfl rfl rfl) g17 hR h (fun mu18 hR h => ?_)
    refine bs_aload_n dX9_serveAll_102 rfl ?_
    refine fg_getR (b := (x + 54)) dX9_serveAll_103 fX9_25 (HX.s 50 rfl rfl rfl) hR (HX.r 50 7 rfl rfl rfl) ?_
    refine bs_iload dX9_serveAll_106 rfl ?_
    obtain ⟨g19, h⟩ := fg_gdE h
    refine bs_iald dX9_serveAll_108 (HX.ss 54 rfl rfl) (fg_in_ix g19) ?_
    refine bs_istore0 (j := 4) dX9_serveAll_109 rfl (by decide) ?_
    refine bs_iload dX9_serveAll_111 rfl ?_
    refine bs_aload_n dX9_serveAll_113 rfl ?_
    refine fg_getR (b := (x + 52)) dX9_serveAll_114 fX9_19 (HX.s 50 rfl rfl rfl) hR (HX.r 50 5 rfl rfl rfl) ?_
    refine bs_iload dX9_serveAll_117 rfl ?_
    obtain ⟨g20, h⟩ := fg_gdE h
    refine bs_iald dX9_serveAll_119 (HX.ss 52 rfl rfl) (fg_in_ix g20) ?_
    refine bs_if_ne (tgt := 127) dX9_serveAll_120 (by decide) (fun c => ?_) (fun c => ?_)
    · replace h := fg_iN c h
      refine bs_iconst (v := (nI 0)) dX9_serveAll_127 (by decide) ?_
      refine bs_iadd dX9_serveAll_128 ?_
      refine bs_istore dX9_serveAll_129 rfl (by decide) ?_
      refine fg_iinc (m := (nI 1)) dX9_serveAll_131 rfl rfl (by decide) ?_
      refine bs_goto (tgt := 29) dX9_serveAll_134 (by decide) ?_
      cases h
      refine bs_W.mk [(0, .ref (x + 50)), (1, .ref (x + 7)), (2, .ref (x + 1)), (3, .long l3), (5, .int (bs_iv (mu18 (x + 54) s.2.2.1.toNatClampNeg))), (6, .int (s.2.1 + (nI 0))), (7, .int (s.2.2.1 + (nI 1)))] (by intro q hq; simp only [List.mem_cons, List.not_mem_nil, or_false] at hq; rcases hq with rfl | rfl | rfl | rfl | rfl | rfl | rfl <;> rfl) (by have k := ka _ rfl hR; dsimp only at k; exact k)
    · replace h := fg_ip c h
      refine bs_iconst (v := (nI 1)) dX9_serveAll_123 (by decide) ?_
      refine bs_goto (tgt := 128) dX9_serveAll_124 (by decide) ?_
      refine bs_iadd dX9_serveAll_128 ?_
      refine bs_istore dX9_serveAll_129 rfl (by decide) ?_
      refine fg_iinc (m := (nI 1)) dX9_serveAll_131 rfl rfl (by decide) ?_
      refine bs_goto (tgt := 29) dX9_serveAll_134 (by decide) ?_
      cases h
      refine bs_W.mk [(0, .ref (x + 50)), (1, .ref (x + 7)), (2, .ref (x + 1)), (3, .long l3), (5, .int (bs_iv (mu18 (x + 54) s.2.2.1.toNatClampNeg))), (6, .int (s.2.1 + (nI 1))), (7, .int (s.2.2.1 + (nI 1)))] (by intro q hq; simp only [List.mem_cons, List.not_mem_nil, or_false] at hq; rcases hq with rfl | rfl | rfl | rfl | rfl | rfl | rfl <;> rfl) (by have k := ka _ rfl hR; dsimp only at k; exact k)
theorem wFX9_serveAll_l29 {nx : Nat} {sh : bs_Sh} {R : Nat → Nat → Option Nat} {x : Nat} (HX : fg_S (bs_tS x) R x sh) {l3 : Int64} {Ph : bs_Po} {t : Int32 × bs_Mm} : ∀ n (y0 : Int32) (y1 : Int32) (y2 : Int32) (mu1 : bs_Mm), fg_lp (FX9_serveAll_b29 x l3) n (y0, y1, y2, mu1) = some t → fg_R R mu1 → (ke : ∀ s, t = s → fg_R R s.2 → bs_W Ph mX9_serveAll (bs_rm 3 0 0) 137 (bs_mk [(0, .ref (x + 50)), (1, .ref (x + 7)), (2, .ref (x + 1)), (3, .long l3), (6, .int s.1)]) [] 0 0 nx sh s.2) → bs_W Ph mX9_serveAll (bs_rm 3 0 0) 29 (bs_mk [(0, .ref (x + 50)), (1, .ref (x + 7)), (2, .ref (x + 1)), (3, .long l3), (5, .int y0), (6, .int y1), (7, .int y2)]) [] 0 0 nx sh mu1 := by
  intro n
  induction n with
  | zero => intro y0 y1 y2 mu1 h; exact absurd h (fun z => fg_lp0 z)
  | succ n ih =>
    intro y0 y1 y2 mu1 h hR ke
    obtain ⟨r, hb, h1, h2⟩ := fg_lpE h
    exact wFX9_serveAll_b29 (s := (y0, y1, y2, mu1)) HX (fun s' e hR' => ih s'.1 s'.2.1 s'.2.2.1 s'.2.2.2 (h1 s' e) hR' ke) (fun s' e => ke s' (h2 _ e).symm) hR hb
noncomputable def FX9_serveAll (x : Nat) (mu : bs_Mm) (p3 : Int64) : Option (Int32 × bs_Mm) :=
  fg_wc mu (x + 51) (x + 59) 0 0 6 (fun mu1 => 
  fg_wr mu1 (x + 50) 14 (.long p3) (fun mu2 => 
  fg_bd (fg_lp (FX9_serveAll_b29 x p3) fg_fu ((nI 0), (nI 0), (nI 0), mu2)) (fun t21 => 
    fg_wr t21.2 (x + 50) 4 (.int (bs_iv (t21.2 (x + 50) 3))) (fun mu23 => 
    some (t21.1, mu23))
  )))
set_option maxHeartbeats 4000000 in
theorem wX9_serveAll {nx : Nat} {sh : bs_Sh} {R : Nat → Nat → Option Nat} {x : Nat} (HX : fg_S (bs_tS x) R x sh) {mu : bs_Mm} (hR : fg_R R mu) {p3 : Int64} {r : Int32 × bs_Mm} (h : FX9_serveAll x mu p3 = some r) : bs_C mX9_serveAll (bs_rm 3 0 0) [.ref (x + 50), .ref (x + 7), .ref (x + 1), .long p3] nx sh mu (fg_po R nx sh (some (.int r.1)) r.2) := by
  refine bs_ct (by decide +kernel) (Nat.le_of_ble_eq_true rfl) ?_
  have kr : ∀ q, r = q → fg_R R q.2 → (fg_po R nx sh (some (.int r.1)) r.2) (some (.int q.1)) nx sh q.2 := fun q e hq => by subst e; exact ⟨rfl, rfl, rfl, rfl, hq⟩
  unfold FX9_serveAll at h
  refine bs_aload_n dX9_serveAll_0 rfl ?_
  refine fg_getR (b := (x + 51)) dX9_serveAll_1 fX9_9 (HX.s 50 rfl rfl rfl) hR (HX.r 50 0 rfl rfl rfl) ?_
  refine bs_iconst (v := (nI 0)) dX9_serveAll_4 (by decide) ?_
  refine bs_aload_n dX9_serveAll_5 rfl ?_
  refine fg_getR (b := (x + 59)) dX9_serveAll_6 fX9_40 (HX.s 50 rfl rfl rfl) hR (HX.r 50 12 rfl rfl rfl) ?_
  refine bs_iconst (v := (nI 0)) dX9_serveAll_9 (by decide) ?_
  refine bs_bipush (v := (nI 6)) dX9_serveAll_10 (by decide) ?_
  refine fg_copy (sp := 0) (dp := 0) (n := 6) dX9_serveAll_12 ⟨lX9_52, w_acp_native, w_acp_static, w_acp_ini⟩ (HX.ss 51 rfl rfl) (HX.ss 59 rfl rfl) (fun j => HX.n 59 j rfl rfl rfl) rfl rfl rfl (by decide) (by decide) (by decide) (by decide) (Nat.le_of_ble_eq_true rfl) hR h (fun mu1 hR h => ?_)
  refine bs_aload_n dX9_serveAll_15 rfl ?_
  refine bs_lload_n dX9_serveAll_16 rfl ?_
  refine fg_putL dX9_serveAll_17 pX9_58 (HX.s 50 rfl rfl rfl) (HX.n 50 14 rfl rfl rfl) hR h (fun mu2 hR h => ?_)
  refine bs_iconst (v := (nI 0)) dX9_serveAll_20 (by decide) ?_
  refine bs_istore0 (j := 4) dX9_serveAll_21 rfl (by decide) ?_
  refine bs_iconst (v := (nI 0)) dX9_serveAll_23 (by decide) ?_
  refine bs_istore dX9_serveAll_24 rfl (by decide) ?_
  refine bs_iconst (v := (nI 0)) dX9_serveAll_26 (by decide) ?_
  refine bs_istore dX9_serveAll_27 rfl (by decide) ?_
  obtain ⟨t21, k22, h⟩ := fg_bdE h
  refine bs_W.mk [(0, .ref (x + 50)), (1, .ref (x + 7)), (2, .ref (x + 1)), (3, .long p3), (5, .int (nI 0)), (6, .int (nI 0)), (7, .int (nI 0))] (by intro q hq; simp only [List.mem_cons, List.not_mem_nil, or_false] at hq; rcases hq with rfl | rfl | rfl | rfl | rfl | rfl | rfl <;> rfl) ?_
  refine wFX9_serveAll_l29 HX _ _ _ _ _ k22 hR ?_
  intro s e hR
  subst e
  refine bs_aload_n dX9_serveAll_137 rfl ?_
  refine bs_aload_n dX9_serveAll_138 rfl ?_
  refine bs_getI dX9_serveAll_139 fX9_46 (HX.s 50 rfl rfl rfl) ?_
  refine fg_putI dX9_serveAll_142 pX9_49 (HX.s 50 rfl rfl rfl) (HX.n 50 4 rfl rfl rfl) hR h (fun mu23 hR h => ?_)
  refine bs_iload dX9_serveAll_145 rfl ?_
  cases h
  exact bs_iret dX9_serveAll_147 rfl (Nat.zero_le _) (Nat.zero_le _) (kr _ rfl hR)
noncomputable def FX11_run (x : Nat) (mu : bs_Mm) (p1 : Int64) : Option (Int32 × bs_Mm) :=
  fg_b2 (FX9_serveAll x mu p1) (fun v3 mu2 => 
  some (v3, mu2))
set_option maxHeartbeats 4000000 in
theorem wX11_run {nx : Nat} {sh : bs_Sh} {R : Nat → Nat → Option Nat} {x : Nat} (HX : fg_S (bs_tS x) R x sh) {mu : bs_Mm} (hR : fg_R R mu) {p1 : Int64} {r : Int32 × bs_Mm} (h : FX11_run x mu p1 = some r) : bs_C mX11_run (bs_rm 4 0 0) [.ref x, .long p1] nx sh mu (fg_po R nx sh (some (.int r.1)) r.2) := by
  refine bs_ct (by decide +kernel) (Nat.le_of_ble_eq_true rfl) ?_
  have kr : ∀ q, r = q → fg_R R q.2 → (fg_po R nx sh (some (.int r.1)) r.2) (some (.int q.1)) nx sh q.2 := fun q e hq => by subst e; exact ⟨rfl, rfl, rfl, rfl, hq⟩
  unfold FX11_run at h
  refine bs_aload_n dX11_run_0 rfl ?_
  refine fg_getR (b := (x + 50)) dX11_run_1 fX11_80 (HX.s 0 rfl rfl rfl) hR (HX.r 0 10 rfl rfl rfl) ?_
  refine bs_aload_n dX11_run_4 rfl ?_
  refine fg_getR (b := (x + 7)) dX11_run_5 fX11_25 (HX.s 0 rfl rfl rfl) hR (HX.r 0 2 rfl rfl rfl) ?_
  refine bs_aload_n dX11_run_8 rfl ?_
  refine fg_getR (b := (x + 1)) dX11_run_9 fX11_12 (HX.s 0 rfl rfl rfl) hR (HX.r 0 0 rfl rfl rfl) ?_
  refine bs_lload_n dX11_run_12 rfl ?_
  obtain ⟨v3, mu2, k1, h⟩ := fg_b2E h
  refine fg_callV dX11_run_13 qX11_308 (wX9_serveAll HX hR k1) rfl (HX.s 50 rfl rfl rfl) rfl (Nat.le_of_ble_eq_true rfl) (fg_cr (by first | decide | omega) (by decide)) (fun hR => ?_)
  cases h
  exact bs_iret dX11_run_16 rfl (Nat.zero_le _) (Nat.zero_le _) (kr _ rfl hR)
noncomputable def FX3_setAt (x : Nat) (mu : bs_Mm) (p1 : Int32) (p2 : Int32) (p3 : Int32) : Option (Int32) :=
  if p3 < 0 then (
    some ((-1))
  ) else (
    if p3 < (nI 10) then (
      fg_gd (fg_in ((((p1 * (nI 6)) + p2) * (nI 10)) + p3) 720) (
      some ((bs_iv (mu (x + 44) ((((p1 * (nI 6)) + p2) * (nI 10)) + p3).toNatClampNeg))))
    ) else (
      some ((-1))
    )
  )
set_option maxHeartbeats 4000000 in
theorem wX3_setAt {nx : Nat} {sh : bs_Sh} {R : Nat → Nat → Option Nat} {x : Nat} (HX : fg_S (bs_tS x) R x sh) {mu : bs_Mm} (hR : fg_R R mu) {p1 : Int32} {p2 : Int32} {p3 : Int32} {r : Int32} (h : FX3_setAt x mu p1 p2 p3 = some r) : bs_C mX3_setAt (bs_rm 0 0 0) [.ref (x + 36), .int p1, .int p2, .int p3] nx sh mu (fg_po R nx sh (some (.int r)) mu) := by
  refine bs_ct (by decide +kernel) (Nat.le_of_ble_eq_true rfl) ?_
  have kr : ∀ q, r = q → fg_R R mu → (fg_po R nx sh (some (.int r)) mu) (some (.int q)) nx sh mu := fun q e hq => by subst e; exact ⟨rfl, rfl, rfl, rfl, hq⟩
  unfold FX3_setAt at h
  refine bs_iload_n dX3_setAt_0 rfl ?_
  refine bs_if_lt (tgt := 10) dX3_setAt_1 (by decide) (fun c => ?_) (fun c => ?_)
  · replace h := fg_ip c h
    refine bs_iconst (v := (-1)) dX3_setAt_10 (by decide) ?_
    refine bs_goto (tgt := 30) dX3_setAt_11 (by decide) ?_
    cases h
    exact bs_iret dX3_setAt_30 rfl (Nat.zero_le _) (Nat.zero_le _) (kr _ rfl hR)
  · replace h := fg_iN c h
    refine bs_iload_n dX3_setAt_4 rfl ?_
    refine bs_bipush (v := (nI 10)) dX3_setAt_5 (by decide) ?_
    refine bs_icmp_lt (tgt := 14) dX3_setAt_7 (by decide) (fun c => ?_) (fun c => ?_)
    · replace h := fg_ip c h
      refine bs_aload_n dX3_setAt_14 rfl ?_
      refine fg_getR (b := (x + 44)) dX3_setAt_15 fX3_34 (HX.s 36 rfl rfl rfl) hR (HX.r 36 7 rfl rfl rfl) ?_
      refine bs_iload_n dX3_setAt_18 rfl ?_
      refine bs_bipush (v := (nI 6)) dX3_setAt_19 (by decide) ?_
      refine bs_imul dX3_setAt_21 ?_
      refine bs_iload_n dX3_setAt_22 rfl ?_
      refine bs_iadd dX3_setAt_23 ?_
      refine bs_bipush (v := (nI 10)) dX3_setAt_24 (by decide) ?_
      refine bs_imul dX3_setAt_26 ?_
      refine bs_iload_n dX3_setAt_27 rfl ?_
      refine bs_iadd dX3_setAt_28 ?_
      obtain ⟨g1, h⟩ := fg_gdE h
      refine bs_iald dX3_setAt_29 (HX.ss 44 rfl rfl) (fg_in_ix g1) ?_
      cases h
      exact bs_iret dX3_setAt_30 rfl (Nat.zero_le _) (Nat.zero_le _) (kr _ rfl hR)
    · replace h := fg_iN c h
      refine bs_iconst (v := (-1)) dX3_setAt_10 (by decide) ?_
      refine bs_goto (tgt := 30) dX3_setAt_11 (by decide) ?_
      cases h
      exact bs_iret dX3_setAt_30 rfl (Nat.zero_le _) (Nat.zero_le _) (kr _ rfl hR)
noncomputable def FX11_set (x : Nat) (mu : bs_Mm) (p1 : Int32) (p2 : Int32) (p3 : Int32) : Option (Int32 × bs_Mm) :=
  fg_b2 (FX11_made x mu p1 p2) (fun v3 mu2 => 
  if p3 < 0 then (
    some ((-1), mu2)
  ) else (
    if p3 < v3 then (
      fg_bd (FX3_setAt x mu2 p1 p2 p3) (fun v5 => 
      some (v5, mu2))
    ) else (
      some ((-1), mu2)
    )
  ))
set_option maxHeartbeats 4000000 in
theorem wX11_set {nx : Nat} {sh : bs_Sh} {R : Nat → Nat → Option Nat} {x : Nat} (HX : fg_S (bs_tS x) R x sh) {mu : bs_Mm} (hR : fg_R R mu) {p1 : Int32} {p2 : Int32} {p3 : Int32} {r : Int32 × bs_Mm} (h : FX11_set x mu p1 p2 p3 = some r) : bs_C mX11_set (bs_rm 5 0 0) [.ref x, .int p1, .int p2, .int p3] nx sh mu (fg_po R nx sh (some (.int r.1)) r.2) := by
  refine bs_ct (by decide +kernel) (Nat.le_of_ble_eq_true rfl) ?_
  have kr : ∀ q, r = q → fg_R R q.2 → (fg_po R nx sh (some (.int r.1)) r.2) (some (.int q.1)) nx sh q.2 := fun q e hq => by subst e; exact ⟨rfl, rfl, rfl, rfl, hq⟩
  unfold FX11_set at h
  refine bs_aload_n dX11_set_0 rfl ?_
  refine bs_iload_n dX11_set_1 rfl ?_
  refine bs_iload_n dX11_set_2 rfl ?_
  obtain ⟨v3, mu2, k1, h⟩ := fg_b2E h
  refine fg_callV dX11_set_3 qX11_284 (wX11_made HX hR k1) rfl (HX.s 0 rfl rfl rfl) rfl (Nat.le_of_ble_eq_true rfl) (fg_cr (by first | decide | omega) (by decide)) (fun hR => ?_)
  refine bs_istore dX11_set_6 rfl (by decide) ?_
  refine bs_iload_n dX11_set_8 rfl ?_
  refine bs_if_lt (tgt := 18) dX11_set_9 (by decide) (fun c => ?_) (fun c => ?_)
  · replace h := fg_ip c h
    refine bs_iconst (v := (-1)) dX11_set_18 (by decide) ?_
    refine bs_goto (tgt := 32) dX11_set_19 (by decide) ?_
    cases h
    exact bs_iret dX11_set_32 rfl (Nat.zero_le _) (Nat.zero_le _) (kr _ rfl hR)
  · replace h := fg_iN c h
    refine bs_iload_n dX11_set_12 rfl ?_
    refine bs_iload dX11_set_13 rfl ?_
    refine bs_icmp_lt (tgt := 22) dX11_set_15 (by decide) (fun c => ?_) (fun c => ?_)
    · replace h := fg_ip c h
      refine bs_aload_n dX11_set_22 rfl ?_
      refine fg_getR (b := (x + 36)) dX11_set_23 fX11_66 (HX.s 0 rfl rfl rfl) hR (HX.r 0 8 rfl rfl rfl) ?_
      refine bs_iload_n dX11_set_26 rfl ?_
      refine bs_iload_n dX11_set_27 rfl ?_
      refine bs_iload_n dX11_set_28 rfl ?_
      obtain ⟨v5, k4, h⟩ := fg_bdE h
      refine fg_callV dX11_set_29 qX11_287 (wX3_setAt HX hR k4) rfl (HX.s 36 rfl rfl rfl) rfl (Nat.le_of_ble_eq_true rfl) (fg_cr (by first | decide | omega) (by decide)) (fun hR => ?_)
      cases h
      exact bs_iret dX11_set_32 rfl (Nat.zero_le _) (Nat.zero_le _) (kr _ rfl hR)
    · replace h := fg_iN c h
      refine bs_iconst (v := (-1)) dX11_set_18 (by decide) ?_
      refine bs_goto (tgt := 32) dX11_set_19 (by decide) ?_
      cases h
      exact bs_iret dX11_set_32 rfl (Nat.zero_le _) (Nat.zero_le _) (kr _ rfl hR)
noncomputable def FX8_make (x : Nat) (mu : bs_Mm) (p1 : Int32) (p2 : Int32) (p3 : Int32) : Option (Int32 × bs_Mm) :=
  if p1 < (nI 5) then (
    some ((-1), mu)
  ) else (
    if (nI 200) < p1 then (
      some ((-1), mu)
    ) else (
      if p2 < 0 then (
        some ((-1), mu)
      ) else (
        if p2 ≤ (nI 9) then (
          if p3 < 0 then (
            some ((-1), mu)
          ) else (
            if (nI 99) < p3 then (
              some ((-1), mu)
            ) else (
              if (bs_iv (mu (x + 1) 3)) < (nI 6) then (
                fg_gd (fg_in (bs_iv (mu (x + 1) 3)) 6) (
                fg_wr mu (x + 2) (bs_iv (mu (x + 1) 3)).toNatClampNeg (.int p1) (fun mu2 => 
                fg_gd (fg_in (bs_iv (mu2 (x + 1) 3)) 6) (
                fg_wr mu2 (x + 3) (bs_iv (mu2 (x + 1) 3)).toNatClampNeg (.int p2) (fun mu4 => 
                fg_gd (fg_in (bs_iv (mu4 (x + 1) 3)) 6) (
                fg_wr mu4 (x + 4) (bs_iv (mu4 (x + 1) 3)).toNatClampNeg (.int p3) (fun mu6 => 
                fg_wr mu6 (x + 1) 3 (.int ((bs_iv (mu6 (x + 1) 3)) + (nI 1))) (fun mu7 => 
                some ((bs_iv (mu6 (x + 1) 3)), mu7))))))))
              ) else (
                some ((-1), mu)
              )
            )
          )
        ) else (
          some ((-1), mu)
        )
      )
    )
  )
set_option maxHeartbeats 4000000 in
theorem wX8_make {nx : Nat} {sh : bs_Sh} {R : Nat → Nat → Option Nat} {x : Nat} (HX : fg_S (bs_tS x) R x sh) {mu : bs_Mm} (hR : fg_R R mu) {p1 : Int32} {p2 : Int32} {p3 : Int32} {r : Int32 × bs_Mm} (h : FX8_make x mu p1 p2 p3 = some r) : bs_C mX8_make (bs_rm 0 0 0) [.ref (x + 1), .int p1, .int p2, .int p3] nx sh mu (fg_po R nx sh (some (.int r.1)) r.2) := by
  refine bs_ct (by decide +kernel) (Nat.le_of_ble_eq_true rfl) ?_
  have kr : ∀ q, r = q → fg_R R q.2 → (fg_po R nx sh (some (.int r.1)) r.2) (some (.int q.1)) nx sh q.2 := fun q e hq => by subst e; exact ⟨rfl, rfl, rfl, rfl, hq⟩
  unfold FX8_make at h
  refine bs_iload_n dX8_make_0 rfl ?_
  refine bs_iconst (v := (nI 5)) dX8_make_1 (by decide) ?_
  refine bs_icmp_lt (tgt := 22) dX8_make_2 (by decide) (fun c => ?_) (fun c => ?_)
  · replace h := fg_ip c h
    refine bs_iconst (v := (-1)) dX8_make_22 (by decide) ?_
    cases h
    exact bs_iret dX8_make_23 rfl (Nat.zero_le _) (Nat.zero_le _) (kr _ rfl hR)
  · replace h := fg_iN c h
    refine bs_iload_n dX8_make_5 rfl ?_
    refine bs_sipush (v := (nI 200)) dX8_make_6 (by decide) ?_
    refine bs_icmp_gt (tgt := 22) dX8_make_9 (by decide) (fun c => ?_) (fun c => ?_)
    · replace h := fg_ip c h
      refine bs_iconst (v := (-1)) dX8_make_22 (by decide) ?_
      cases h
      exact bs_iret dX8_make_23 rfl (Nat.zero_le _) (Nat.zero_le _) (kr _ rfl hR)
    · replace h := fg_iN c h
      refine bs_iload_n dX8_make_12 rfl ?_
      refine bs_if_lt (tgt := 22) dX8_make_13 (by decide) (fun c => ?_) (fun c => ?_)
      · replace h := fg_ip c h
        refine bs_iconst (v := (-1)) dX8_make_22 (by decide) ?_
        cases h
        exact bs_iret dX8_make_23 rfl (Nat.zero_le _) (Nat.zero_le _) (kr _ rfl hR)
      · replace h := fg_iN c h
        refine bs_iload_n dX8_make_16 rfl ?_
        refine bs_bipush (v := (nI 9)) dX8_make_17 (by decide) ?_
        refine bs_icmp_le (tgt := 24) dX8_make_19 (by decide) (fun c => ?_) (fun c => ?_)
        · replace h := fg_ip c h
          refine bs_iload_n dX8_make_24 rfl ?_
          refine bs_if_lt (tgt := 43) dX8_make_25 (by decide) (fun c => ?_) (fun c => ?_)
          · replace h := fg_ip c h
            refine bs_iconst (v := (-1)) dX8_make_43 (by decide) ?_
            cases h
            exact bs_iret dX8_make_44 rfl (Nat.zero_le _) (Nat.zero_le _) (kr _ rfl hR)
          · replace h := fg_iN c h
            refine bs_iload_n dX8_make_28 rfl ?_
            refine bs_bipush (v := (nI 99)) dX8_make_29 (by decide) ?_
            refine bs_icmp_gt (tgt := 43) dX8_make_31 (by decide) (fun c => ?_) (fun c => ?_)
            · replace h := fg_ip c h
              refine bs_iconst (v := (-1)) dX8_make_43 (by decide) ?_
              cases h
              exact bs_iret dX8_make_44 rfl (Nat.zero_le _) (Nat.zero_le _) (kr _ rfl hR)
            · replace h := fg_iN c h
              refine bs_aload_n dX8_make_34 rfl ?_
              refine bs_getI dX8_make_35 fX8_21 (HX.s 1 rfl rfl rfl) ?_
              refine bs_bipush (v := (nI 6)) dX8_make_38 (by decide) ?_
              refine bs_icmp_lt (tgt := 45) dX8_make_40 (by decide) (fun c => ?_) (fun c => ?_)
              · replace h := fg_ip c h
                refine bs_aload_n dX8_make_45 rfl ?_
                refine fg_getR (b := (x + 2)) dX8_make_46 fX8_9 (HX.s 1 rfl rfl rfl) hR (HX.r 1 0 rfl rfl rfl) ?_
                refine bs_aload_n dX8_make_49 rfl ?_
                refine bs_getI dX8_make_50 fX8_21 (HX.s 1 rfl rfl rfl) ?_
                refine bs_iload_n dX8_make_53 rfl ?_
                obtain ⟨g1, h⟩ := fg_gdE h
                refine fg_iast dX8_make_54 (HX.ss 2 rfl rfl) (fun j => HX.n 2 j rfl rfl rfl) g1 hR h (fun mu2 hR h => ?_)
                refine bs_aload_n dX8_make_55 rfl ?_
                refine fg_getR (b := (x + 3)) dX8_make_56 fX8_15 (HX.s 1 rfl rfl rfl) hR (HX.r 1 1 rfl rfl rfl) ?_
                refine bs_aload_n dX8_make_59 rfl ?_
                refine bs_getI dX8_make_60 fX8_21 (HX.s 1 rfl rfl rfl) ?_
                refine bs_iload_n dX8_make_63 rfl ?_
                obtain ⟨g3, h⟩ := fg_gdE h
                refine fg_iast dX8_make_64 (HX.ss 3 rfl rfl) (fun j => HX.n 3 j rfl rfl rfl) g3 hR h (fun mu4 hR h => ?_)
                refine bs_aload_n dX8_make_65 rfl ?_
                refine fg_getR (b := (x + 4)) dX8_make_66 fX8_18 (HX.s 1 rfl rfl rfl) hR (HX.r 1 2 rfl rfl rfl) ?_
                refine bs_aload_n dX8_make_69 rfl ?_
                refine bs_getI dX8_make_70 fX8_21 (HX.s 1 rfl rfl rfl) ?_
                refine bs_iload_n dX8_make_73 rfl ?_
                obtain ⟨g5, h⟩ := fg_gdE h
                refine fg_iast dX8_make_74 (HX.ss 4 rfl rfl) (fun j => HX.n 4 j rfl rfl rfl) g5 hR h (fun mu6 hR h => ?_)
                refine bs_aload_n dX8_make_75 rfl ?_
                refine bs_dup dX8_make_76 rfl ?_
                refine bs_getI dX8_make_77 fX8_21 (HX.s 1 rfl rfl rfl) ?_
                refine bs_dup_x1 dX8_make_80 rfl rfl ?_
                refine bs_iconst (v := (nI 1)) dX8_make_81 (by decide) ?_
                refine bs_iadd dX8_make_82 ?_
                refine fg_putI dX8_make_83 pX8_21 (HX.s 1 rfl rfl rfl) (HX.n 1 3 rfl rfl rfl) hR h (fun mu7 hR h => ?_)
                cases h
                exact bs_iret dX8_make_86 rfl (Nat.zero_le _) (Nat.zero_le _) (kr _ rfl hR)
              · replace h := fg_iN c h
                refine bs_iconst (v := (-1)) dX8_make_43 (by decide) ?_
                cases h
                exact bs_iret dX8_make_44 rfl (Nat.zero_le _) (Nat.zero_le _) (kr _ rfl hR)
        · replace h := fg_iN c h
          refine bs_iconst (v := (-1)) dX8_make_22 (by decide) ?_
          cases h
          exact bs_iret dX8_make_23 rfl (Nat.zero_le _) (Nat.zero_le _) (kr _ rfl hR)
noncomputable def FX11_sort (x : Nat) (mu : bs_Mm) (p1 : Int32) (p2 : Int32) (p3 : Int32) : Option (Int32 × bs_Mm) :=
  fg_b2 (FX8_make x mu p1 p2 p3) (fun v3 mu2 => 
  some (v3, mu2))
set_option maxHeartbeats 4000000 in
theorem wX11_sort {nx : Nat} {sh : bs_Sh} {R : Nat → Nat → Option Nat} {x : Nat} (HX : fg_S (bs_tS x) R x sh) {mu : bs_Mm} (hR : fg_R R mu) {p1 : Int32} {p2 : Int32} {p3 : Int32} {r : Int32 × bs_Mm} (h : FX11_sort x mu p1 p2 p3 = some r) : bs_C mX11_sort (bs_rm 1 0 0) [.ref x, .int p1, .int p2, .int p3] nx sh mu (fg_po R nx sh (some (.int r.1)) r.2) := by
  refine bs_ct (by decide +kernel) (Nat.le_of_ble_eq_true rfl) ?_
  have kr : ∀ q, r = q → fg_R R q.2 → (fg_po R nx sh (some (.int r.1)) r.2) (some (.int q.1)) nx sh q.2 := fun q e hq => by subst e; exact ⟨rfl, rfl, rfl, rfl, hq⟩
  unfold FX11_sort at h
  refine bs_aload_n dX11_sort_0 rfl ?_
  refine fg_getR (b := (x + 1)) dX11_sort_1 fX11_12 (HX.s 0 rfl rfl rfl) hR (HX.r 0 0 rfl rfl rfl) ?_
  refine bs_iload_n dX11_sort_4 rfl ?_
  refine bs_iload_n dX11_sort_5 rfl ?_
  refine bs_iload_n dX11_sort_6 rfl ?_
  obtain ⟨v3, mu2, k1, h⟩ := fg_b2E h
  refine fg_callV dX11_sort_7 qX11_93 (wX8_make HX hR k1) rfl (HX.s 1 rfl rfl rfl) rfl (Nat.le_of_ble_eq_true rfl) (fg_cr (by first | decide | omega) (by decide)) (fun hR => ?_)
  cases h
  exact bs_iret dX11_sort_10 rfl (Nat.zero_le _) (Nat.zero_le _) (kr _ rfl hR)
noncomputable def FX5_spanOf_b21_L4 (x : Nat) (p1 : Nat) (mu : bs_Mm) (l3 : Int32) (s : Int32 × Int32) : Option ((Int32 × Int32) ⊕ (Int32)) :=
  if (bs_iv (mu p1 8)) ≤ s.2 then (
    some (.inr s.1)
  ) else (
    fg_gd (fg_in s.2 30) (
    some (.inl ((if s.1 < (bs_iv (mu (x + 27) s.2.toNatClampNeg)) then (bs_iv (mu (x + 27) s.2.toNatClampNeg)) else s.1), (s.2 + (nI 1)))))
  )
set_option maxHeartbeats 4000000 in
theorem wFX5_spanOf_b21_L4 {nx : Nat} {sh : bs_Sh} {R : Nat → Nat → Option Nat} {x : Nat} (HX : fg_S (bs_tS x) R x sh) {p1 : Nat} (h_p1 : fg_F R sh p1) {mu : bs_Mm} {l3 : Int32} {Ph : bs_Po} {s : Int32 × Int32} {r : (Int32 × Int32) ⊕ (Int32)} (ka : ∀ s, r = .inl s → bs_W Ph mX5_spanOf (bs_rm 2 0 0) 21 (bs_mk [(0, .ref (x + 26)), (1, .ref p1), (2, .int s.1), (3, .int l3), (4, .int s.2)]) [] 0 0 nx sh mu) (ke : ∀ s, r = .inr s → bs_W Ph mX5_spanOf (bs_rm 2 0 0) 48 (bs_mk [(0, .ref (x + 26)), (1, .ref p1), (2, .int s), (3, .int l3)]) [] 0 0 nx sh mu) (hR : fg_R R mu) (h : FX5_spanOf_b21_L4 x p1 mu l3 s = some r) : bs_W Ph mX5_spanOf (bs_rm 2 0 0) 21 (bs_mk [(0, .ref (x + 26)), (1, .ref p1), (2, .int s.1), (3, .int l3), (4, .int s.2)]) [] 0 0 nx sh mu := by
  unfold FX5_spanOf_b21_L4 at h
  refine bs_iload dX5_spanOf_21 rfl ?_
  refine bs_aload_n dX5_spanOf_23 rfl ?_
  refine bs_getI dX5_spanOf_24 fX5_61 (h_p1.s0) ?_
  refine bs_icmp_ge (tgt := 48) dX5_spanOf_27 (by decide) (fun c => ?_) (fun c => ?_)
  · replace h := fg_ip c h
    cases h
    refine bs_W.mk [(0, .ref (x + 26)), (1, .ref p1), (2, .int s.1), (3, .int l3)] (by intro q hq; simp only [List.mem_cons, List.not_mem_nil, or_false] at hq; rcases hq with rfl | rfl | rfl | rfl <;> rfl) (ke _ rfl)
  · replace h := fg_iN c h
    refine bs_iload_n dX5_spanOf_30 rfl ?_
    refine bs_aload_n dX5_spanOf_31 rfl ?_
    refine fg_getR (b := (x + 27)) dX5_spanOf_32 fX5_9 (HX.s 26 rfl rfl rfl) hR (HX.r 26 0 rfl rfl rfl) ?_
    refine bs_iload dX5_spanOf_35 rfl ?_
    obtain ⟨g3, h⟩ := fg_gdE h
    refine bs_iald dX5_spanOf_37 (HX.ss 27 rfl rfl) (fg_in_ix g3) ?_
    refine bs_mmax dX5_spanOf_38 xX5_85 (by first | decide | (simp only [bs_rm]; omega)) (by first | exact Nat.le_of_ble_eq_true rfl | (simp only [bs_rm, List.map, List.sum_cons, List.sum_nil, Value.category]; omega)) (Nat.zero_le _) (Nat.zero_le _) ?_
    refine bs_istore_n dX5_spanOf_41 rfl (by decide) ?_
    refine fg_iinc (m := (nI 1)) dX5_spanOf_42 rfl rfl (by decide) ?_
    refine bs_goto (tgt := 21) dX5_spanOf_45 (by decide) ?_
    cases h
    refine bs_W.mk [(0, .ref (x + 26)), (1, .ref p1), (2, .int (if s.1 < (bs_iv (mu (x + 27) s.2.toNatClampNeg)) then (bs_iv (mu (x + 27) s.2.toNatClampNeg)) else s.1)), (3, .int l3), (4, .int (s.2 + (nI 1)))] (by intro q hq; simp only [List.mem_cons, List.not_mem_nil, or_false] at hq; rcases hq with rfl | rfl | rfl | rfl | rfl <;> rfl) (by have k := ka _ rfl; dsimp only at k; exact k)
theorem wFX5_spanOf_l21_L4 {nx : Nat} {sh : bs_Sh} {R : Nat → Nat → Option Nat} {x : Nat} (HX : fg_S (bs_tS x) R x sh) {p1 : Nat} (h_p1 : fg_F R sh p1) {mu : bs_Mm} {l3 : Int32} {Ph : bs_Po} {t : Int32} : ∀ n (y0 : Int32) (y1 : Int32), fg_lp (FX5_spanOf_b21_L4 x p1 mu l3) n (y0, y1) = some t → fg_R R mu → (ke : ∀ s, t = s → bs_W Ph mX5_spanOf (bs_rm 2 0 0) 48 (bs_mk [(0, .ref (x + 26)), (1, .ref p1), (2, .int s), (3, .int l3)]) [] 0 0 nx sh mu) → bs_W Ph mX5_spanOf (bs_rm 2 0 0) 21 (bs_mk [(0, .ref (x + 26)), (1, .ref p1), (2, .int y0), (3, .int l3), (4, .int y1)]) [] 0 0 nx sh mu := by
  intro n
  induction n with
  | zero => intro y0 y1 h; exact absurd h (fun z => fg_lp0 z)
  | succ n ih =>
    intro y0 y1 h hR ke
    obtain ⟨r, hb, h1, h2⟩ := fg_lpE h
    exact wFX5_spanOf_b21_L4 (s := (y0, y1)) HX h_p1 (fun s' e => ih s'.1 s'.2 (h1 s' e) hR ke) (fun s' e => ke s' (h2 _ e).symm) hR hb
noncomputable def FX5_spanOf_b4 (x : Nat) (p1 : Nat)  (s : Int32 × Int32 × bs_Mm) : Option ((Int32 × Int32 × bs_Mm) ⊕ (Int32 × bs_Mm)) :=
  if (bs_iv (s.2.2 p1 8)) ≤ s.2.1 then (
    some (.inr (s.1, s.2.2))
  ) else (
    fg_bd (FX5_measure x s.2.2 p1 s.2.1) (fun mu2 => 
    fg_bd (fg_lp (FX5_spanOf_b21_L4 x p1 mu2 s.2.1) fg_fu (s.1, (nI 0))) (fun t4 => 
      some (.inl (t4, (s.2.1 + (nI 1)), mu2))
    ))
  )
set_option maxHeartbeats 4000000 in
theorem wFX5_spanOf_b4 {nx : Nat} {sh : bs_Sh} {R : Nat → Nat → Option Nat} {x : Nat} (HX : fg_S (bs_tS x) R x sh) {p1 : Nat} (h_p1 : fg_F R sh p1) {Ph : bs_Po} {s : Int32 × Int32 × bs_Mm} {r : (Int32 × Int32 × bs_Mm) ⊕ (Int32 × bs_Mm)} (ka : ∀ s, r = .inl s → fg_R R s.2.2 → bs_W Ph mX5_spanOf (bs_rm 2 0 0) 4 (bs_mk [(0, .ref (x + 26)), (1, .ref p1), (2, .int s.1), (3, .int s.2.1)]) [] 0 0 nx sh s.2.2) (ke : ∀ s, r = .inr s → fg_R R s.2 → bs_W Ph mX5_spanOf (bs_rm 2 0 0) 54 (bs_mk [(0, .ref (x + 26)), (1, .ref p1), (2, .int s.1)]) [] 0 0 nx sh s.2) (hR : fg_R R s.2.2) (h : FX5_spanOf_b4 x p1 s = some r) : bs_W Ph mX5_spanOf (bs_rm 2 0 0) 4 (bs_mk [(0, .ref (x + 26)), (1, .ref p1), (2, .int s.1), (3, .int s.2.1)]) [] 0 0 nx sh s.2.2 := by
  unfold FX5_spanOf_b4 at h
  refine bs_iload_n dX5_spanOf_4 rfl ?_
  refine bs_aload_n dX5_spanOf_5 rfl ?_
  refine bs_getI dX5_spanOf_6 fX5_61 (h_p1.s0) ?_
  refine bs_icmp_ge (tgt := 54) dX5_spanOf_9 (by decide) (fun c => ?_) (fun c => ?_)
  · replace h := fg_ip c h
    cases h
    refine bs_W.mk [(0, .ref (x + 26)), (1, .ref p1), (2, .int s.1)] (by intro q hq; simp only [List.mem_cons, List.not_mem_nil, or_false] at hq; rcases hq with rfl | rfl | rfl <;> rfl) (ke _ rfl hR)
  · replace h := fg_iN c h
    refine bs_aload_n dX5_spanOf_12 rfl ?_
    refine bs_aload_n dX5_spanOf_13 rfl ?_
    refine bs_iload_n dX5_spanOf_14 rfl ?_
    obtain ⟨mu2, k1, h⟩ := fg_bdE h
    refine fg_callVv dX5_spanOf_15 qX5_82 (wX5_measure HX h_p1 hR k1) rfl (HX.s 26 rfl rfl rfl) rfl (Nat.le_of_ble_eq_true rfl) (fg_cr (by first | decide | omega) (by decide)) (fun hR => ?_)
    refine bs_iconst (v := (nI 0)) dX5_spanOf_18 (by decide) ?_
    refine bs_istore dX5_spanOf_19 rfl (by decide) ?_
    obtain ⟨t4, k5, h⟩ := fg_bdE h
    refine bs_W.mk [(0, .ref (x + 26)), (1, .ref p1), (2, .int s.1), (3, .int s.2.1), (4, .int (nI 0))] (by intro q hq; simp only [List.mem_cons, List.not_mem_nil, or_false] at hq; rcases hq with rfl | rfl | rfl | rfl | rfl <;> rfl) ?_
    refine wFX5_spanOf_l21_L4 HX h_p1 _ _ _ k5 hR ?_
    intro s e
    subst e
    refine fg_iinc (m := (nI 1)) dX5_spanOf_48 rfl rfl (by decide) ?_
    refine bs_goto (tgt := 4) dX5_spanOf_51 (by decide) ?_
    cases h
    refine bs_W.mk [(0, .ref (x + 26)), (1, .ref p1), (2, .int t4), (3, .int (s.2.1 + (nI 1)))] (by intro q hq; simp only [List.mem_cons, List.not_mem_nil, or_false] at hq; rcases hq with rfl | rfl | rfl | rfl <;> rfl) (by have k := ka _ rfl hR; dsimp only at k; exact k)
theorem wFX5_spanOf_l4 {nx : Nat} {sh : bs_Sh} {R : Nat → Nat → Option Nat} {x : Nat} (HX : fg_S (bs_tS x) R x sh) {p1 : Nat} (h_p1 : fg_F R sh p1) {Ph : bs_Po} {t : Int32 × bs_Mm} : ∀ n (y0 : Int32) (y1 : Int32) (mu1 : bs_Mm), fg_lp (FX5_spanOf_b4 x p1) n (y0, y1, mu1) = some t → fg_R R mu1 → (ke : ∀ s, t = s → fg_R R s.2 → bs_W Ph mX5_spanOf (bs_rm 2 0 0) 54 (bs_mk [(0, .ref (x + 26)), (1, .ref p1), (2, .int s.1)]) [] 0 0 nx sh s.2) → bs_W Ph mX5_spanOf (bs_rm 2 0 0) 4 (bs_mk [(0, .ref (x + 26)), (1, .ref p1), (2, .int y0), (3, .int y1)]) [] 0 0 nx sh mu1 := by
  intro n
  induction n with
  | zero => intro y0 y1 mu1 h; exact absurd h (fun z => fg_lp0 z)
  | succ n ih =>
    intro y0 y1 mu1 h hR ke
    obtain ⟨r, hb, h1, h2⟩ := fg_lpE h
    exact wFX5_spanOf_b4 (s := (y0, y1, mu1)) HX h_p1 (fun s' e hR' => ih s'.1 s'.2.1 s'.2.2 (h1 s' e) hR' ke) (fun s' e => ke s' (h2 _ e).symm) hR hb
noncomputable def FX5_spanOf (x : Nat) (mu : bs_Mm) (p1 : Nat) : Option (Int32 × bs_Mm) :=
  fg_bd (fg_lp (FX5_spanOf_b4 x p1) fg_fu ((nI 0), (nI 0), mu)) (fun t6 => 
    some (t6.1, t6.2)
  )
set_option maxHeartbeats 4000000 in
theorem wX5_spanOf {nx : Nat} {sh : bs_Sh} {R : Nat → Nat → Option Nat} {x : Nat} (HX : fg_S (bs_tS x) R x sh) {p1 : Nat} (h_p1 : fg_F R sh p1) {mu : bs_Mm} (hR : fg_R R mu) {r : Int32 × bs_Mm} (h : FX5_spanOf x mu p1 = some r) : bs_C mX5_spanOf (bs_rm 2 0 0) [.ref (x + 26), .ref p1] nx sh mu (fg_po R nx sh (some (.int r.1)) r.2) := by
  refine bs_ct (by decide +kernel) (Nat.le_of_ble_eq_true rfl) ?_
  have kr : ∀ q, r = q → fg_R R q.2 → (fg_po R nx sh (some (.int r.1)) r.2) (some (.int q.1)) nx sh q.2 := fun q e hq => by subst e; exact ⟨rfl, rfl, rfl, rfl, hq⟩
  unfold FX5_spanOf at h
  refine bs_iconst (v := (nI 0)) dX5_spanOf_0 (by decide) ?_
  refine bs_istore_n dX5_spanOf_1 rfl (by decide) ?_
  refine bs_iconst (v := (nI 0)) dX5_spanOf_2 (by decide) ?_
  refine bs_istore_n dX5_spanOf_3 rfl (by decide) ?_
  obtain ⟨t6, k7, h⟩ := fg_bdE h
  refine bs_W.mk [(0, .ref (x + 26)), (1, .ref p1), (2, .int (nI 0)), (3, .int (nI 0))] (by intro q hq; simp only [List.mem_cons, List.not_mem_nil, or_false] at hq; rcases hq with rfl | rfl | rfl | rfl <;> rfl) ?_
  refine wFX5_spanOf_l4 HX h_p1 _ _ _ _ k7 hR ?_
  intro s e hR
  subst e
  refine bs_iload_n dX5_spanOf_54 rfl ?_
  cases h
  exact bs_iret dX5_spanOf_55 rfl (Nat.zero_le _) (Nat.zero_le _) (kr _ rfl hR)
noncomputable def FX11_span (x : Nat) (mu : bs_Mm) (p1 : Int32) : Option (Int32 × bs_Mm) :=
  fg_bd (FX11_figureAt x mu p1) (fun v2 => 
  fg_oq v2 (
    some ((-1), mu)
  ) (fun b3 => fg_gd (fg_isF x b3) (
    fg_b2 (FX5_spanOf x mu b3) (fun v7 mu6 => 
    some (v7, mu6))
  )))
set_option maxHeartbeats 4000000 in
theorem wX11_span {nx : Nat} {sh : bs_Sh} {R : Nat → Nat → Option Nat} {x : Nat} (HX : fg_S (bs_tS x) R x sh) {mu : bs_Mm} (hR : fg_R R mu) {p1 : Int32} {r : Int32 × bs_Mm} (h : FX11_span x mu p1 = some r) : bs_C mX11_span (bs_rm 3 0 0) [.ref x, .int p1] nx sh mu (fg_po R nx sh (some (.int r.1)) r.2) := by
  refine bs_ct (by decide +kernel) (Nat.le_of_ble_eq_true rfl) ?_
  have kr : ∀ q, r = q → fg_R R q.2 → (fg_po R nx sh (some (.int r.1)) r.2) (some (.int q.1)) nx sh q.2 := fun q e hq => by subst e; exact ⟨rfl, rfl, rfl, rfl, hq⟩
  unfold FX11_span at h
  refine bs_aload_n dX11_span_0 rfl ?_
  refine bs_iload_n dX11_span_1 rfl ?_
  obtain ⟨v2, k1, h⟩ := fg_bdE h
  refine fg_callV dX11_span_2 qX11_143 (wX11_figureAt HX hR k1) rfl (HX.s 0 rfl rfl rfl) rfl (Nat.le_of_ble_eq_true rfl) (fg_cr (by first | decide | omega) (by decide)) (fun hR => ?_)
  cases v2 with
  | none =>
    replace h := fg_oq0 h
    refine bs_astoreN_n dX11_span_5 rfl (by decide) ?_
    refine bs_aloadN_n dX11_span_6 rfl ?_
    refine bs_ifnonnullN dX11_span_7 ?_
    refine bs_iconst (v := (-1)) dX11_span_10 (by decide) ?_
    refine bs_goto (tgt := 22) dX11_span_11 (by decide) ?_
    cases h
    exact bs_iret dX11_span_22 rfl (Nat.zero_le _) (Nat.zero_le _) (kr _ rfl hR)
  | some b3 =>
    replace h := fg_oq1 h
    obtain ⟨g4, h⟩ := fg_gdE h
    have h_b3 := fg_isF_F HX g4
    refine bs_astore_n dX11_span_5 rfl (by decide) ?_
    refine bs_aload_n dX11_span_6 rfl ?_
    refine bs_ifnonnull (tgt := 14) dX11_span_7 (by decide) ?_
    refine bs_aload_n dX11_span_14 rfl ?_
    refine fg_getR (b := (x + 26)) dX11_span_15 fX11_52 (HX.s 0 rfl rfl rfl) hR (HX.r 0 6 rfl rfl rfl) ?_
    refine bs_aload_n dX11_span_18 rfl ?_
    obtain ⟨v7, mu6, k5, h⟩ := fg_b2E h
    refine fg_callV dX11_span_19 qX11_271 (wX5_spanOf HX h_b3 hR k5) rfl (HX.s 26 rfl rfl rfl) rfl (Nat.le_of_ble_eq_true rfl) (fg_cr (by first | decide | omega) (by decide)) (fun hR => ?_)
    cases h
    exact bs_iret dX11_span_22 rfl (Nat.zero_le _) (Nat.zero_le _) (kr _ rfl hR)
noncomputable def FX11_stock (x : Nat) (mu : bs_Mm) (p1 : Int32) (p2 : Int32) : Option (Int32 × bs_Mm) :=
  fg_bd (FX8_has x mu p1) (fun v2 => 
  if v2 = 0 then (
    some ((nI 0), mu)
  ) else (
    if p2 < 0 then (
      some ((nI 0), mu)
    ) else (
      if p2 ≤ (nI 99) then (
        fg_gd (fg_in p1 6) (
        fg_wr mu (x + 51) p1.toNatClampNeg (.int p2) (fun mu4 => 
        some ((nI 1), mu4)))
      ) else (
        some ((nI 0), mu)
      )
    )
  ))
set_option maxHeartbeats 4000000 in
theorem wX11_stock {nx : Nat} {sh : bs_Sh} {R : Nat → Nat → Option Nat} {x : Nat} (HX : fg_S (bs_tS x) R x sh) {mu : bs_Mm} (hR : fg_R R mu) {p1 : Int32} {p2 : Int32} {r : Int32 × bs_Mm} (h : FX11_stock x mu p1 p2 = some r) : bs_C mX11_stock (bs_rm 1 0 0) [.ref x, .int p1, .int p2] nx sh mu (fg_po R nx sh (some (.int r.1)) r.2) := by
  refine bs_ct (by decide +kernel) (Nat.le_of_ble_eq_true rfl) ?_
  have kr : ∀ q, r = q → fg_R R q.2 → (fg_po R nx sh (some (.int r.1)) r.2) (some (.int q.1)) nx sh q.2 := fun q e hq => by subst e; exact ⟨rfl, rfl, rfl, rfl, hq⟩
  unfold FX11_stock at h
  refine bs_aload_n dX11_stock_0 rfl ?_
  refine fg_getR (b := (x + 1)) dX11_stock_1 fX11_12 (HX.s 0 rfl rfl rfl) hR (HX.r 0 0 rfl rfl rfl) ?_
  refine bs_iload_n dX11_stock_4 rfl ?_
  obtain ⟨v2, k1, h⟩ := fg_bdE h
  refine fg_callV dX11_stock_5 qX11_277 (wX8_has HX hR k1) rfl (HX.s 1 rfl rfl rfl) rfl (Nat.le_of_ble_eq_true rfl) (fg_cr (by first | decide | omega) (by decide)) (fun hR => ?_)
  refine bs_if_eq (tgt := 21) dX11_stock_8 (by decide) (fun c => ?_) (fun c => ?_)
  · replace h := fg_ip c h
    refine bs_iconst (v := (nI 0)) dX11_stock_21 (by decide) ?_
    cases h
    exact bs_zret dX11_stock_22 rfl (Or.inl rfl) (Nat.zero_le _) (Nat.zero_le _) (kr _ rfl hR)
  · replace h := fg_iN c h
    refine bs_iload_n dX11_stock_11 rfl ?_
    refine bs_if_lt (tgt := 21) dX11_stock_12 (by decide) (fun c => ?_) (fun c => ?_)
    · replace h := fg_ip c h
      refine bs_iconst (v := (nI 0)) dX11_stock_21 (by decide) ?_
      cases h
      exact bs_zret dX11_stock_22 rfl (Or.inl rfl) (Nat.zero_le _) (Nat.zero_le _) (kr _ rfl hR)
    · replace h := fg_iN c h
      refine bs_iload_n dX11_stock_15 rfl ?_
      refine bs_bipush (v := (nI 99)) dX11_stock_16 (by decide) ?_
      refine bs_icmp_le (tgt := 23) dX11_stock_18 (by decide) (fun c => ?_) (fun c => ?_)
      · replace h := fg_ip c h
        refine bs_aload_n dX11_stock_23 rfl ?_
        refine fg_getR (b := (x + 50)) dX11_stock_24 fX11_80 (HX.s 0 rfl rfl rfl) hR (HX.r 0 10 rfl rfl rfl) ?_
        refine fg_getR (b := (x + 51)) dX11_stock_27 fX11_293 (HX.s 50 rfl rfl rfl) hR (HX.r 50 0 rfl rfl rfl) ?_
        refine bs_iload_n dX11_stock_30 rfl ?_
        refine bs_iload_n dX11_stock_31 rfl ?_
        obtain ⟨g3, h⟩ := fg_gdE h
        refine fg_iast dX11_stock_32 (HX.ss 51 rfl rfl) (fun j => HX.n 51 j rfl rfl rfl) g3 hR h (fun mu4 hR h => ?_)
        refine bs_iconst (v := (nI 1)) dX11_stock_33 (by decide) ?_
        cases h
        exact bs_zret dX11_stock_34 rfl (Or.inr rfl) (Nat.zero_le _) (Nat.zero_le _) (kr _ rfl hR)
      · replace h := fg_iN c h
        refine bs_iconst (v := (nI 0)) dX11_stock_21 (by decide) ?_
        cases h
        exact bs_zret dX11_stock_22 rfl (Or.inl rfl) (Nat.zero_le _) (Nat.zero_le _) (kr _ rfl hR)
noncomputable def FX5_strokesOf_b18 (x : Nat) (p1 : Nat) (mu : bs_Mm) (l2 : Int32) (l4 : Int32) (s : Int32 × Int32) : Option ((Int32 × Int32) ⊕ (Int32)) :=
  if (bs_iv (mu p1 8)) ≤ s.2 then (
    some (.inr s.1)
  ) else (
    if (l4 &&& ((nI 1) <<< (s.2 &&& 31))) = 0 then (
      some (.inl (s.1, (s.2 + (nI 1))))
    ) else (
      fg_gd (fg_in s.2 30) (
      some (.inl ((s.1 ||| ((nI 1) <<< ((bs_iv (mu (x + 29) s.2.toNatClampNeg)) &&& 31))), (s.2 + (nI 1)))))
    )
  )
set_option maxHeartbeats 4000000 in
theorem wFX5_strokesOf_b18 {nx : Nat} {sh : bs_Sh} {R : Nat → Nat → Option Nat} {x : Nat} (HX : fg_S (bs_tS x) R x sh) {p1 : Nat} (h_p1 : fg_F R sh p1) {mu : bs_Mm} {l2 : Int32} {l4 : Int32} {Ph : bs_Po} {s : Int32 × Int32} {r : (Int32 × Int32) ⊕ (Int32)} (ka : ∀ s, r = .inl s → bs_W Ph mX5_strokesOf (bs_rm 3 0 0) 18 (bs_mk [(0, .ref (x + 26)), (1, .ref p1), (2, .int l2), (3, .int s.1), (4, .int l4), (5, .int s.2)]) [] 0 0 nx sh mu) (ke : ∀ s, r = .inr s → bs_W Ph mX5_strokesOf (bs_rm 3 0 0) 55 (bs_mk [(0, .ref (x + 26)), (1, .ref p1), (2, .int l2), (3, .int s), (4, .int l4)]) [] 0 0 nx sh mu) (hR : fg_R R mu) (h : FX5_strokesOf_b18 x p1 mu l2 l4 s = some r) : bs_W Ph mX5_strokesOf (bs_rm 3 0 0) 18 (bs_mk [(0, .ref (x + 26)), (1, .ref p1), (2, .int l2), (3, .int s.1), (4, .int l4), (5, .int s.2)]) [] 0 0 nx sh mu := by
  unfold FX5_strokesOf_b18 at h
  refine bs_iload dX5_strokesOf_18 rfl ?_
  refine bs_aload_n dX5_strokesOf_20 rfl ?_
  refine bs_getI dX5_strokesOf_21 fX5_61 (h_p1.s0) ?_
  refine bs_icmp_ge (tgt := 55) dX5_strokesOf_24 (by decide) (fun c => ?_) (fun c => ?_)
  · replace h := fg_ip c h
    cases h
    refine bs_W.mk [(0, .ref (x + 26)), (1, .ref p1), (2, .int l2), (3, .int s.1), (4, .int l4)] (by intro q hq; simp only [List.mem_cons, List.not_mem_nil, or_false] at hq; rcases hq with rfl | rfl | rfl | rfl | rfl <;> rfl) (ke _ rfl)
  · replace h := fg_iN c h
    refine bs_iload dX5_strokesOf_27 rfl ?_
    refine bs_iconst (v := (nI 1)) dX5_strokesOf_29 (by decide) ?_
    refine bs_iload dX5_strokesOf_30 rfl ?_
    refine bs_ishl dX5_strokesOf_32 ?_
    refine bs_iand dX5_strokesOf_33 ?_
    refine bs_if_eq (tgt := 49) dX5_strokesOf_34 (by decide) (fun c => ?_) (fun c => ?_)
    · replace h := fg_ip c h
      refine fg_iinc (m := (nI 1)) dX5_strokesOf_49 rfl rfl (by decide) ?_
      refine bs_goto (tgt := 18) dX5_strokesOf_52 (by decide) ?_
      cases h
      refine bs_W.mk [(0, .ref (x + 26)), (1, .ref p1), (2, .int l2), (3, .int s.1), (4, .int l4), (5, .int (s.2 + (nI 1)))] (by intro q hq; simp only [List.mem_cons, List.not_mem_nil, or_false] at hq; rcases hq with rfl | rfl | rfl | rfl | rfl | rfl <;> rfl) (by have k := ka _ rfl; dsimp only at k; exact k)
    · replace h := fg_iN c h
      refine bs_iload_n dX5_strokesOf_37 rfl ?_
      refine bs_iconst (v := (nI 1)) dX5_strokesOf_38 (by decide) ?_
      refine bs_aload_n dX5_strokesOf_39 rfl ?_
      refine fg_getR (b := (x + 29)) dX5_strokesOf_40 fX5_18 (HX.s 26 rfl rfl rfl) hR (HX.r 26 2 rfl rfl rfl) ?_
      refine bs_iload dX5_strokesOf_43 rfl ?_
      obtain ⟨g6, h⟩ := fg_gdE h
      refine bs_iald dX5_strokesOf_45 (HX.ss 29 rfl rfl) (fg_in_ix g6) ?_
      refine bs_ishl dX5_strokesOf_46 ?_
      refine bs_ior dX5_strokesOf_47 ?_
      refine bs_istore_n dX5_strokesOf_48 rfl (by decide) ?_
      refine fg_iinc (m := (nI 1)) dX5_strokesOf_49 rfl rfl (by decide) ?_
      refine bs_goto (tgt := 18) dX5_strokesOf_52 (by decide) ?_
      cases h
      refine bs_W.mk [(0, .ref (x + 26)), (1, .ref p1), (2, .int l2), (3, .int (s.1 ||| ((nI 1) <<< ((bs_iv (mu (x + 29) s.2.toNatClampNeg)) &&& 31)))), (4, .int l4), (5, .int (s.2 + (nI 1)))] (by intro q hq; simp only [List.mem_cons, List.not_mem_nil, or_false] at hq; rcases hq with rfl | rfl | rfl | rfl | rfl | rfl <;> rfl) (by have k := ka _ rfl; dsimp only at k; exact k)
theorem wFX5_strokesOf_l18 {nx : Nat} {sh : bs_Sh} {R : Nat → Nat → Option Nat} {x : Nat} (HX : fg_S (bs_tS x) R x sh) {p1 : Nat} (h_p1 : fg_F R sh p1) {mu : bs_Mm} {l2 : Int32} {l4 : Int32} {Ph : bs_Po} {t : Int32} : ∀ n (y0 : Int32) (y1 : Int32), fg_lp (FX5_strokesOf_b18 x p1 mu l2 l4) n (y0, y1) = some t → fg_R R mu → (ke : ∀ s, t = s → bs_W Ph mX5_strokesOf (bs_rm 3 0 0) 55 (bs_mk [(0, .ref (x + 26)), (1, .ref p1), (2, .int l2), (3, .int s), (4, .int l4)]) [] 0 0 nx sh mu) → bs_W Ph mX5_strokesOf (bs_rm 3 0 0) 18 (bs_mk [(0, .ref (x + 26)), (1, .ref p1), (2, .int l2), (3, .int y0), (4, .int l4), (5, .int y1)]) [] 0 0 nx sh mu := by
  intro n
  induction n with
  | zero => intro y0 y1 h; exact absurd h (fun z => fg_lp0 z)
  | succ n ih =>
    intro y0 y1 h hR ke
    obtain ⟨r, hb, h1, h2⟩ := fg_lpE h
    exact wFX5_strokesOf_b18 (s := (y0, y1)) HX h_p1 (fun s' e => ih s'.1 s'.2 (h1 s' e) hR ke) (fun s' e => ke s' (h2 _ e).symm) hR hb
noncomputable def FX5_strokesOf (x : Nat) (mu : bs_Mm) (p1 : Nat) : Option (Int32 × bs_Mm) :=
  fg_b2 (FX5_parts x mu p1 (nI 0)) (fun v3 mu2 => 
  fg_bd (FX1_oddPoints x p1 mu2) (fun v5 => 
  fg_bd (fg_lp (FX5_strokesOf_b18 x p1 mu2 v3 v5) fg_fu ((nI 0), (nI 0))) (fun t7 => 
    fg_bd (FJ6_bitCount_0f7a4  mu2 t7) (fun v10 => 
    fg_bd (FJ6_bitCount_0f7a4  mu2 v5) (fun v12 => 
    some (((v3 - v10) + (v12 / (nI 2))), mu2)))
  )))
set_option maxHeartbeats 4000000 in
theorem wX5_strokesOf {nx : Nat} {sh : bs_Sh} {R : Nat → Nat → Option Nat} {x : Nat} (HX : fg_S (bs_tS x) R x sh) {p1 : Nat} (h_p1 : fg_F R sh p1) {mu : bs_Mm} (hR : fg_R R mu) {r : Int32 × bs_Mm} (h : FX5_strokesOf x mu p1 = some r) : bs_C mX5_strokesOf (bs_rm 3 0 0) [.ref (x + 26), .ref p1] nx sh mu (fg_po R nx sh (some (.int r.1)) r.2) := by
  refine bs_ct (by decide +kernel) (Nat.le_of_ble_eq_true rfl) ?_
  have kr : ∀ q, r = q → fg_R R q.2 → (fg_po R nx sh (some (.int r.1)) r.2) (some (.int q.1)) nx sh q.2 := fun q e hq => by subst e; exact ⟨rfl, rfl, rfl, rfl, hq⟩
  unfold FX5_strokesOf at h
  refine bs_aload_n dX5_strokesOf_0 rfl ?_
  refine bs_aload_n dX5_strokesOf_1 rfl ?_
  refine bs_iconst (v := (nI 0)) dX5_strokesOf_2 (by decide) ?_
  obtain ⟨v3, mu2, k1, h⟩ := fg_b2E h
  refine fg_callV dX5_strokesOf_3 qX5_68 (wX5_parts HX h_p1 hR k1) rfl (HX.s 26 rfl rfl rfl) rfl (Nat.le_of_ble_eq_true rfl) (fg_cr (by first | decide | omega) (by decide)) (fun hR => ?_)
  refine bs_istore_n dX5_strokesOf_6 rfl (by decide) ?_
  refine bs_iconst (v := (nI 0)) dX5_strokesOf_7 (by decide) ?_
  refine bs_istore_n dX5_strokesOf_8 rfl (by decide) ?_
  refine bs_aload_n dX5_strokesOf_9 rfl ?_
  obtain ⟨v5, k4, h⟩ := fg_bdE h
  refine fg_callV dX5_strokesOf_10 qX5_71 (wX1_oddPoints HX h_p1 hR k4) rfl (h_p1.s0) rfl (Nat.le_of_ble_eq_true rfl) (fg_cr (by first | decide | omega) (by decide)) (fun hR => ?_)
  refine bs_istore dX5_strokesOf_13 rfl (by decide) ?_
  refine bs_iconst (v := (nI 0)) dX5_strokesOf_15 (by decide) ?_
  refine bs_istore dX5_strokesOf_16 rfl (by decide) ?_
  obtain ⟨t7, k8, h⟩ := fg_bdE h
  refine bs_W.mk [(0, .ref (x + 26)), (1, .ref p1), (2, .int v3), (3, .int (nI 0)), (4, .int v5), (5, .int (nI 0))] (by intro q hq; simp only [List.mem_cons, List.not_mem_nil, or_false] at hq; rcases hq with rfl | rfl | rfl | rfl | rfl | rfl <;> rfl) ?_
  refine wFX5_strokesOf_l18 HX h_p1 _ _ _ k8 hR ?_
  intro s e
  subst e
  refine bs_iload_n dX5_strokesOf_55 rfl ?_
  refine bs_iload_n dX5_strokesOf_56 rfl ?_
  obtain ⟨v10, k9, h⟩ := fg_bdE h
  refine fg_callS dX5_strokesOf_57 qX5_55 (wJ6_bitCount_0f7a4  hR k9) rfl rfl (Nat.le_of_ble_eq_true rfl) (fg_cr (by first | decide | omega) (by decide)) (fun hR => ?_)
  refine bs_isub dX5_strokesOf_60 ?_
  refine bs_iload dX5_strokesOf_61 rfl ?_
  obtain ⟨v12, k11, h⟩ := fg_bdE h
  refine fg_callS dX5_strokesOf_63 qX5_55 (wJ6_bitCount_0f7a4  hR k11) rfl rfl (Nat.le_of_ble_eq_true rfl) (fg_cr (by first | decide | omega) (by decide)) (fun hR => ?_)
  refine bs_iconst (v := (nI 2)) dX5_strokesOf_66 (by decide) ?_
  refine bs_idiv dX5_strokesOf_67 (by decide) ?_
  refine bs_iadd dX5_strokesOf_68 ?_
  cases h
  exact bs_iret dX5_strokesOf_69 rfl (Nat.zero_le _) (Nat.zero_le _) (kr _ rfl hR)
noncomputable def FX11_strokes (x : Nat) (mu : bs_Mm) (p1 : Int32) : Option (Int32 × bs_Mm) :=
  fg_bd (FX11_figureAt x mu p1) (fun v2 => 
  fg_oq v2 (
    some ((-1), mu)
  ) (fun b3 => fg_gd (fg_isF x b3) (
    fg_b2 (FX5_strokesOf x mu b3) (fun v7 mu6 => 
    some (v7, mu6))
  )))
set_option maxHeartbeats 4000000 in
theorem wX11_strokes {nx : Nat} {sh : bs_Sh} {R : Nat → Nat → Option Nat} {x : Nat} (HX : fg_S (bs_tS x) R x sh) {mu : bs_Mm} (hR : fg_R R mu) {p1 : Int32} {r : Int32 × bs_Mm} (h : FX11_strokes x mu p1 = some r) : bs_C mX11_strokes (bs_rm 4 0 0) [.ref x, .int p1] nx sh mu (fg_po R nx sh (some (.int r.1)) r.2) := by
  refine bs_ct (by decide +kernel) (Nat.le_of_ble_eq_true rfl) ?_
  have kr : ∀ q, r = q → fg_R R q.2 → (fg_po R nx sh (some (.int r.1)) r.2) (some (.int q.1)) nx sh q.2 := fun q e hq => by subst e; exact ⟨rfl, rfl, rfl, rfl, hq⟩
  unfold FX11_strokes at h
  refine bs_aload_n dX11_strokes_0 rfl ?_
  refine bs_iload_n dX11_strokes_1 rfl ?_
  obtain ⟨v2, k1, h⟩ := fg_bdE h
  refine fg_callV dX11_strokes_2 qX11_143 (wX11_figureAt HX hR k1) rfl (HX.s 0 rfl rfl rfl) rfl (Nat.le_of_ble_eq_true rfl) (fg_cr (by first | decide | omega) (by decide)) (fun hR => ?_)
  cases v2 with
  | none =>
    replace h := fg_oq0 h
    refine bs_astoreN_n dX11_strokes_5 rfl (by decide) ?_
    refine bs_aloadN_n dX11_strokes_6 rfl ?_
    refine bs_ifnonnullN dX11_strokes_7 ?_
    refine bs_iconst (v := (-1)) dX11_strokes_10 (by decide) ?_
    refine bs_goto (tgt := 22) dX11_strokes_11 (by decide) ?_
    cases h
    exact bs_iret dX11_strokes_22 rfl (Nat.zero_le _) (Nat.zero_le _) (kr _ rfl hR)
  | some b3 =>
    replace h := fg_oq1 h
    obtain ⟨g4, h⟩ := fg_gdE h
    have h_b3 := fg_isF_F HX g4
    refine bs_astore_n dX11_strokes_5 rfl (by decide) ?_
    refine bs_aload_n dX11_strokes_6 rfl ?_
    refine bs_ifnonnull (tgt := 14) dX11_strokes_7 (by decide) ?_
    refine bs_aload_n dX11_strokes_14 rfl ?_
    refine fg_getR (b := (x + 26)) dX11_strokes_15 fX11_52 (HX.s 0 rfl rfl rfl) hR (HX.r 0 6 rfl rfl rfl) ?_
    refine bs_aload_n dX11_strokes_18 rfl ?_
    obtain ⟨v7, mu6, k5, h⟩ := fg_b2E h
    refine fg_callV dX11_strokes_19 qX11_274 (wX5_strokesOf HX h_b3 hR k5) rfl (HX.s 26 rfl rfl rfl) rfl (Nat.le_of_ble_eq_true rfl) (fg_cr (by first | decide | omega) (by decide)) (fun hR => ?_)
    cases h
    exact bs_iret dX11_strokes_22 rfl (Nat.zero_le _) (Nat.zero_le _) (kr _ rfl hR)
noncomputable def FX5_leastTwice_j111_L48 (x : Nat) (p1 : Nat) (mu : bs_Mm) (l2 : Int32) (l3 : Int32) (l5 : Int32) (l6 : Int32) (t0 : Int32) (t1 : Int32) : Option ((Int32 × Int32 × Int32 × Int32 × Int32) ⊕ (Int32)) :=
  if l5 ≤ (t0 + t1) then (
    some (.inl (l2, l3, (t0 + t1), l5, (l6 + (nI 1))))
  ) else (
    fg_bd (FJ6_bitCount_0f7a4  mu l2) (fun v14 => 
    if (nI 2) < v14 then (
      some (.inl (l2, l3, (t0 + t1), l5, (l6 + (nI 1))))
    ) else (
      some (.inl (l2, l3, (t0 + t1), (t0 + t1), (l6 + (nI 1))))
    ))
  )
set_option maxHeartbeats 4000000 in
theorem wFX5_leastTwice_j111_L48 {nx : Nat} {sh : bs_Sh} {R : Nat → Nat → Option Nat} {x : Nat} (HX : fg_S (bs_tS x) R x sh) {p1 : Nat} (h_p1 : fg_F R sh p1) {mu : bs_Mm} {l2 : Int32} {l3 : Int32} {l5 : Int32} {l6 : Int32} {t0 : Int32} {t1 : Int32} {Ph : bs_Po} {r : (Int32 × Int32 × Int32 × Int32 × Int32) ⊕ (Int32)} (ka : ∀ s, r = .inl s → bs_W Ph mX5_leastTwice (bs_rm 3 0 0) 48 (bs_mk [(0, .ref (x + 26)), (1, .ref p1), (2, .int s.1), (3, .int s.2.1), (4, .int s.2.2.1), (5, .int s.2.2.2.1), (6, .int s.2.2.2.2)]) [] 0 0 nx sh mu) (ke : ∀ s, r = .inr s → bs_W Ph mX5_leastTwice (bs_rm 3 0 0) 139 (bs_mk [(0, .ref (x + 26)), (1, .ref p1), (5, .int s)]) [] 0 0 nx sh mu) (hR : fg_R R mu) (h : FX5_leastTwice_j111_L48 x p1 mu l2 l3 l5 l6 t0 t1 = some r) : bs_W Ph mX5_leastTwice (bs_rm 3 0 0) 111 (bs_mk [(0, .ref (x + 26)), (1, .ref p1), (2, .int l2), (3, .int l3), (5, .int l5), (6, .int l6)]) [.int t1, .int t0] 0 0 nx sh mu := by
  unfold FX5_leastTwice_j111_L48 at h
  refine bs_iadd dX5_leastTwice_111 ?_
  refine bs_istore dX5_leastTwice_112 rfl (by decide) ?_
  refine bs_iload dX5_leastTwice_114 rfl ?_
  refine bs_iload dX5_leastTwice_116 rfl ?_
  refine bs_icmp_ge (tgt := 133) dX5_leastTwice_118 (by decide) (fun c => ?_) (fun c => ?_)
  · replace h := fg_ip c h
    refine fg_iinc (m := (nI 1)) dX5_leastTwice_133 rfl rfl (by decide) ?_
    refine bs_goto (tgt := 48) dX5_leastTwice_136 (by decide) ?_
    cases h
    refine bs_W.mk [(0, .ref (x + 26)), (1, .ref p1), (2, .int l2), (3, .int l3), (4, .int (t0 + t1)), (5, .int l5), (6, .int (l6 + (nI 1)))] (by intro q hq; simp only [List.mem_cons, List.not_mem_nil, or_false] at hq; rcases hq with rfl | rfl | rfl | rfl | rfl | rfl | rfl <;> rfl) (by have k := ka _ rfl; dsimp only at k; exact k)
  · replace h := fg_iN c h
    refine bs_iload_n dX5_leastTwice_121 rfl ?_
    obtain ⟨v14, k13, h⟩ := fg_bdE h
    refine fg_callS dX5_leastTwice_122 qX5_55 (wJ6_bitCount_0f7a4  hR k13) rfl rfl (Nat.le_of_ble_eq_true rfl) (fg_cr (by first | decide | omega) (by decide)) (fun hR => ?_)
    refine bs_iconst (v := (nI 2)) dX5_leastTwice_125 (by decide) ?_
    refine bs_icmp_gt (tgt := 133) dX5_leastTwice_126 (by decide) (fun c => ?_) (fun c => ?_)
    · replace h := fg_ip c h
      refine fg_iinc (m := (nI 1)) dX5_leastTwice_133 rfl rfl (by decide) ?_
      refine bs_goto (tgt := 48) dX5_leastTwice_136 (by decide) ?_
      cases h
      refine bs_W.mk [(0, .ref (x + 26)), (1, .ref p1), (2, .int l2), (3, .int l3), (4, .int (t0 + t1)), (5, .int l5), (6, .int (l6 + (nI 1)))] (by intro q hq; simp only [List.mem_cons, List.not_mem_nil, or_false] at hq; rcases hq with rfl | rfl | rfl | rfl | rfl | rfl | rfl <;> rfl) (by have k := ka _ rfl; dsimp only at k; exact k)
    · replace h := fg_iN c h
      refine bs_iload dX5_leastTwice_129 rfl ?_
      refine bs_istore dX5_leastTwice_131 rfl (by decide) ?_
      refine fg_iinc (m := (nI 1)) dX5_leastTwice_133 rfl rfl (by decide) ?_
      refine bs_goto (tgt := 48) dX5_leastTwice_136 (by decide) ?_
      cases h
      refine bs_W.mk [(0, .ref (x + 26)), (1, .ref p1), (2, .int l2), (3, .int l3), (4, .int (t0 + t1)), (5, .int (t0 + t1)), (6, .int (l6 + (nI 1)))] (by intro q hq; simp only [List.mem_cons, List.not_mem_nil, or_false] at hq; rcases hq with rfl | rfl | rfl | rfl | rfl | rfl | rfl <;> rfl) (by have k := ka _ rfl; dsimp only at k; exact k)
noncomputable def FX5_leastTwice_b48 (x : Nat) (p1 : Nat) (mu : bs_Mm) (s : Int32 × Int32 × Int32 × Int32 × Int32) : Option ((Int32 × Int32 × Int32 × Int32 × Int32) ⊕ (Int32)) :=
  if ((nI 1) <<< ((bs_iv (mu p1 7)) &&& 31)) ≤ s.2.2.2.2 then (
    some (.inr s.2.2.2.1)
  ) else (
    fg_bd (FJ6_numberOfTrailingZeros_0f7a4  mu s.2.2.2.2) (fun v9 => 
    fg_bd (FX1_endBits x p1 mu v9) (fun v11 => 
    if ((s.2.1 ^^^ ((nI 1) <<< (v9 &&& 31))) &&& ((nI 1) <<< (v9 &&& 31))) = 0 then (
      fg_gd (fg_in v9 24) (
      FX5_leastTwice_j111_L48 x p1 mu (s.1 ^^^ v11) (s.2.1 ^^^ ((nI 1) <<< (v9 &&& 31))) s.2.2.2.1 s.2.2.2.2 s.2.2.1 (-(bs_iv (mu (p1 + 2) v9.toNatClampNeg))))
    ) else (
      fg_gd (fg_in v9 24) (
      FX5_leastTwice_j111_L48 x p1 mu (s.1 ^^^ v11) (s.2.1 ^^^ ((nI 1) <<< (v9 &&& 31))) s.2.2.2.1 s.2.2.2.2 s.2.2.1 (bs_iv (mu (p1 + 2) v9.toNatClampNeg)))
    )))
  )
set_option maxHeartbeats 4000000 in
theorem wFX5_leastTwice_b48 {nx : Nat} {sh : bs_Sh} {R : Nat → Nat → Option Nat} {x : Nat} (HX : fg_S (bs_tS x) R x sh) {p1 : Nat} (h_p1 : fg_F R sh p1) {mu : bs_Mm} {Ph : bs_Po} {s : Int32 × Int32 × Int32 × Int32 × Int32} {r : (Int32 × Int32 × Int32 × Int32 × Int32) ⊕ (Int32)} (ka : ∀ s, r = .inl s → bs_W Ph mX5_leastTwice (bs_rm 3 0 0) 48 (bs_mk [(0, .ref (x + 26)), (1, .ref p1), (2, .int s.1), (3, .int s.2.1), (4, .int s.2.2.1), (5, .int s.2.2.2.1), (6, .int s.2.2.2.2)]) [] 0 0 nx sh mu) (ke : ∀ s, r = .inr s → bs_W Ph mX5_leastTwice (bs_rm 3 0 0) 139 (bs_mk [(0, .ref (x + 26)), (1, .ref p1), (5, .int s)]) [] 0 0 nx sh mu) (hR : fg_R R mu) (h : FX5_leastTwice_b48 x p1 mu s = some r) : bs_W Ph mX5_leastTwice (bs_rm 3 0 0) 48 (bs_mk [(0, .ref (x + 26)), (1, .ref p1), (2, .int s.1), (3, .int s.2.1), (4, .int s.2.2.1), (5, .int s.2.2.2.1), (6, .int s.2.2.2.2)]) [] 0 0 nx sh mu := by
  unfold FX5_leastTwice_b48 at h
  refine bs_iload dX5_leastTwice_48 rfl ?_
  refine bs_iconst (v := (nI 1)) dX5_leastTwice_50 (by decide) ?_
  refine bs_aload_n dX5_leastTwice_51 rfl ?_
  refine bs_getI dX5_leastTwice_52 fX5_25 (h_p1.s0) ?_
  refine bs_ishl dX5_leastTwice_55 ?_
  refine bs_icmp_ge (tgt := 139) dX5_leastTwice_56 (by decide) (fun c => ?_) (fun c => ?_)
  · replace h := fg_ip c h
    cases h
    refine bs_W.mk [(0, .ref (x + 26)), (1, .ref p1), (5, .int s.2.2.2.1)] (by intro q hq; simp only [List.mem_cons, List.not_mem_nil, or_false] at hq; rcases hq with rfl | rfl | rfl <;> rfl) (ke _ rfl)
  · replace h := fg_iN c h
    refine bs_iload dX5_leastTwice_59 rfl ?_
    obtain ⟨v9, k8, h⟩ := fg_bdE h
    refine fg_callS dX5_leastTwice_61 qX5_92 (wJ6_numberOfTrailingZeros_0f7a4  hR k8) rfl rfl (Nat.le_of_ble_eq_true rfl) (fg_cr (by first | decide | omega) (by decide)) (fun hR => ?_)
    refine bs_istore dX5_leastTwice_64 rfl (by decide) ?_
    refine bs_iload_n dX5_leastTwice_66 rfl ?_
    refine bs_iconst (v := (nI 1)) dX5_leastTwice_67 (by decide) ?_
    refine bs_iload dX5_leastTwice_68 rfl ?_
    refine bs_ishl dX5_leastTwice_70 ?_
    refine bs_ixor dX5_leastTwice_71 ?_
    refine bs_istore_n dX5_leastTwice_72 rfl (by decide) ?_
    refine bs_iload_n dX5_leastTwice_73 rfl ?_
    refine bs_aload_n dX5_leastTwice_74 rfl ?_
    refine bs_iload dX5_leastTwice_75 rfl ?_
    obtain ⟨v11, k10, h⟩ := fg_bdE h
    refine fg_callV dX5_leastTwice_77 qX5_95 (wX1_endBits HX h_p1 hR k10) rfl (h_p1.s0) rfl (Nat.le_of_ble_eq_true rfl) (fg_cr (by first | decide | omega) (by decide)) (fun hR => ?_)
    refine bs_ixor dX5_leastTwice_80 ?_
    refine bs_istore_n dX5_leastTwice_81 rfl (by decide) ?_
    refine bs_iload dX5_leastTwice_82 rfl ?_
    refine bs_iload_n dX5_leastTwice_84 rfl ?_
    refine bs_iconst (v := (nI 1)) dX5_leastTwice_85 (by decide) ?_
    refine bs_iload dX5_leastTwice_86 rfl ?_
    refine bs_ishl dX5_leastTwice_88 ?_
    refine bs_iand dX5_leastTwice_89 ?_
    refine bs_if_eq (tgt := 103) dX5_leastTwice_90 (by decide) (fun c => ?_) (fun c => ?_)
    · replace h := fg_ip c h
      refine bs_aload_n dX5_leastTwice_103 rfl ?_
      refine fg_getR (b := (p1 + 2)) dX5_leastTwice_104 fX5_75 (h_p1.s0) hR (h_p1.r1) ?_
      refine bs_iload dX5_leastTwice_107 rfl ?_
      obtain ⟨g12, h⟩ := fg_gdE h
      refine bs_iald dX5_leastTwice_109 (h_p1.s2) (fg_in_ix g12) ?_
      refine bs_ineg dX5_leastTwice_110 ?_
      refine bs_W.mk [(0, .ref (x + 26)), (1, .ref p1), (2, .int (s.1 ^^^ v11)), (3, .int (s.2.1 ^^^ ((nI 1) <<< (v9 &&& 31)))), (5, .int s.2.2.2.1), (6, .int s.2.2.2.2)] (by intro q hq; simp only [List.mem_cons, List.not_mem_nil, or_false] at hq; rcases hq with rfl | rfl | rfl | rfl | rfl | rfl <;> rfl) ?_
      exact wFX5_leastTwice_j111_L48 HX h_p1 ka ke hR h
    · replace h := fg_iN c h
      refine bs_aload_n dX5_leastTwice_93 rfl ?_
      refine fg_getR (b := (p1 + 2)) dX5_leastTwice_94 fX5_75 (h_p1.s0) hR (h_p1.r1) ?_
      refine bs_iload dX5_leastTwice_97 rfl ?_
      obtain ⟨g15, h⟩ := fg_gdE h
      refine bs_iald dX5_leastTwice_99 (h_p1.s2) (fg_in_ix g15) ?_
      refine bs_goto (tgt := 111) dX5_leastTwice_100 (by decide) ?_
      refine bs_W.mk [(0, .ref (x + 26)), (1, .ref p1), (2, .int (s.1 ^^^ v11)), (3, .int (s.2.1 ^^^ ((nI 1) <<< (v9 &&& 31)))), (5, .int s.2.2.2.1), (6, .int s.2.2.2.2)] (by intro q hq; simp only [List.mem_cons, List.not_mem_nil, or_false] at hq; rcases hq with rfl | rfl | rfl | rfl | rfl | rfl <;> rfl) ?_
      exact wFX5_leastTwice_j111_L48 HX h_p1 ka ke hR h
theorem wFX5_leastTwice_l48 {nx : Nat} {sh : bs_Sh} {R : Nat → Nat → Option Nat} {x : Nat} (HX : fg_S (bs_tS x) R x sh) {p1 : Nat} (h_p1 : fg_F R sh p1) {mu : bs_Mm} {Ph : bs_Po} {t : Int32} : ∀ n (y0 : Int32) (y1 : Int32) (y2 : Int32) (y3 : Int32) (y4 : Int32), fg_lp (FX5_leastTwice_b48 x p1 mu) n (y0, y1, y2, y3, y4) = some t → fg_R R mu → (ke : ∀ s, t = s → bs_W Ph mX5_leastTwice (bs_rm 3 0 0) 139 (bs_mk [(0, .ref (x + 26)), (1, .ref p1), (5, .int s)]) [] 0 0 nx sh mu) → bs_W Ph mX5_leastTwice (bs_rm 3 0 0) 48 (bs_mk [(0, .ref (x + 26)), (1, .ref p1), (2, .int y0), (3, .int y1), (4, .int y2), (5, .int y3), (6, .int y4)]) [] 0 0 nx sh mu := by
  intro n
  induction n with
  | zero => intro y0 y1 y2 y3 y4 h; exact absurd h (fun z => fg_lp0 z)
  | succ n ih =>
    intro y0 y1 y2 y3 y4 h hR ke
    obtain ⟨r, hb, h1, h2⟩ := fg_lpE h
    exact wFX5_leastTwice_b48 (s := (y0, y1, y2, y3, y4)) HX h_p1 (fun s' e => ih s'.1 s'.2.1 s'.2.2.1 s'.2.2.2.1 s'.2.2.2.2 (h1 s' e) hR ke) (fun s' e => ke s' (h2 _ e).symm) hR hb
noncomputable def FX5_leastTwice (x : Nat) (mu : bs_Mm) (p1 : Nat) : Option (Int32 × bs_Mm) :=
  if (nI 12) < (bs_iv (mu p1 7)) then (
    some ((-1), mu)
  ) else (
    fg_b2 (FX5_parts x mu p1 (nI 0)) (fun v3 mu2 => 
    if v3 ≤ (nI 1) then (
      fg_bd (FX1_oddPoints x p1 mu2) (fun v5 => 
      fg_bd (FJ6_bitCount_0f7a4  mu2 v5) (fun v7 => 
      if (nI 2) < v7 then (
        fg_bd (fg_lp (FX5_leastTwice_b48 x p1 mu2) fg_fu (v5, (nI 0), (nI 0), (1000000 : Int32), (nI 1))) (fun t16 => 
          some (t16, mu2)
        )
      ) else (
        some ((nI 0), mu2)
      )))
    ) else (
      some ((-1), mu2)
    ))
  )
set_option maxHeartbeats 4000000 in
theorem wX5_leastTwice {nx : Nat} {sh : bs_Sh} {R : Nat → Nat → Option Nat} {x : Nat} (HX : fg_S (bs_tS x) R x sh) {p1 : Nat} (h_p1 : fg_F R sh p1) {mu : bs_Mm} (hR : fg_R R mu) {r : Int32 × bs_Mm} (h : FX5_leastTwice x mu p1 = some r) : bs_C mX5_leastTwice (bs_rm 3 0 0) [.ref (x + 26), .ref p1] nx sh mu (fg_po R nx sh (some (.int r.1)) r.2) := by
  refine bs_ct (by decide +kernel) (Nat.le_of_ble_eq_true rfl) ?_
  have kr : ∀ q, r = q → fg_R R q.2 → (fg_po R nx sh (some (.int r.1)) r.2) (some (.int q.1)) nx sh q.2 := fun q e hq => by subst e; exact ⟨rfl, rfl, rfl, rfl, hq⟩
  unfold FX5_leastTwice at h
  refine bs_aload_n dX5_leastTwice_0 rfl ?_
  refine bs_getI dX5_leastTwice_1 fX5_25 (h_p1.s0) ?_
  refine bs_bipush (v := (nI 12)) dX5_leastTwice_4 (by decide) ?_
  refine bs_icmp_gt (tgt := 19) dX5_leastTwice_6 (by decide) (fun c => ?_) (fun c => ?_)
  · replace h := fg_ip c h
    refine bs_iconst (v := (-1)) dX5_leastTwice_19 (by decide) ?_
    cases h
    exact bs_iret dX5_leastTwice_20 rfl (Nat.zero_le _) (Nat.zero_le _) (kr _ rfl hR)
  · replace h := fg_iN c h
    refine bs_aload_n dX5_leastTwice_9 rfl ?_
    refine bs_aload_n dX5_leastTwice_10 rfl ?_
    refine bs_iconst (v := (nI 0)) dX5_leastTwice_11 (by decide) ?_
    obtain ⟨v3, mu2, k1, h⟩ := fg_b2E h
    refine fg_callV dX5_leastTwice_12 qX5_68 (wX5_parts HX h_p1 hR k1) rfl (HX.s 26 rfl rfl rfl) rfl (Nat.le_of_ble_eq_true rfl) (fg_cr (by first | decide | omega) (by decide)) (fun hR => ?_)
    refine bs_iconst (v := (nI 1)) dX5_leastTwice_15 (by decide) ?_
    refine bs_icmp_le (tgt := 21) dX5_leastTwice_16 (by decide) (fun c => ?_) (fun c => ?_)
    · replace h := fg_ip c h
      refine bs_aload_n dX5_leastTwice_21 rfl ?_
      obtain ⟨v5, k4, h⟩ := fg_bdE h
      refine fg_callV dX5_leastTwice_22 qX5_71 (wX1_oddPoints HX h_p1 hR k4) rfl (h_p1.s0) rfl (Nat.le_of_ble_eq_true rfl) (fg_cr (by first | decide | omega) (by decide)) (fun hR => ?_)
      refine bs_istore_n dX5_leastTwice_25 rfl (by decide) ?_
      refine bs_iload_n dX5_leastTwice_26 rfl ?_
      obtain ⟨v7, k6, h⟩ := fg_bdE h
      refine fg_callS dX5_leastTwice_27 qX5_55 (wJ6_bitCount_0f7a4  hR k6) rfl rfl (Nat.le_of_ble_eq_true rfl) (fg_cr (by first | decide | omega) (by decide)) (fun hR => ?_)
      refine bs_iconst (v := (nI 2)) dX5_leastTwice_30 (by decide) ?_
      refine bs_icmp_gt (tgt := 36) dX5_leastTwice_31 (by decide) (fun c => ?_) (fun c => ?_)
      · replace h := fg_ip c h
        refine bs_iconst (v := (nI 0)) dX5_leastTwice_36 (by decide) ?_
        refine bs_istore_n dX5_leastTwice_37 rfl (by decide) ?_
        refine bs_iconst (v := (nI 0)) dX5_leastTwice_38 (by decide) ?_
        refine bs_istore dX5_leastTwice_39 rfl (by decide) ?_
        refine bs_ldc (v := (1000000)) dX5_leastTwice_41 cX5_91 ?_
        refine bs_istore dX5_leastTwice_43 rfl (by decide) ?_
        refine bs_iconst (v := (nI 1)) dX5_leastTwice_45 (by decide) ?_
        refine bs_istore dX5_leastTwice_46 rfl (by decide) ?_
        obtain ⟨t16, k17, h⟩ := fg_bdE h
        refine bs_W.mk [(0, .ref (x + 26)), (1, .ref p1), (2, .int v5), (3, .int (nI 0)), (4, .int (nI 0)), (5, .int (1000000 : Int32)), (6, .int (nI 1))] (by intro q hq; simp only [List.mem_cons, List.not_mem_nil, or_false] at hq; rcases hq with rfl | rfl | rfl | rfl | rfl | rfl | rfl <;> rfl) ?_
        refine wFX5_leastTwice_l48 HX h_p1 _ _ _ _ _ _ k17 hR ?_
        intro s e
        subst e
        refine bs_iload dX5_leastTwice_139 rfl ?_
        cases h
        exact bs_iret dX5_leastTwice_141 rfl (Nat.zero_le _) (Nat.zero_le _) (kr _ rfl hR)
      · replace h := fg_iN c h
        refine bs_iconst (v := (nI 0)) dX5_leastTwice_34 (by decide) ?_
        cases h
        exact bs_iret dX5_leastTwice_35 rfl (Nat.zero_le _) (Nat.zero_le _) (kr _ rfl hR)
    · replace h := fg_iN c h
      refine bs_iconst (v := (-1)) dX5_leastTwice_19 (by decide) ?_
      cases h
      exact bs_iret dX5_leastTwice_20 rfl (Nat.zero_le _) (Nat.zero_le _) (kr _ rfl hR)
noncomputable def FX11_twice (x : Nat) (mu : bs_Mm) (p1 : Int32) : Option (Int32 × bs_Mm) :=
  fg_bd (FX11_figureAt x mu p1) (fun v2 => 
  fg_oq v2 (
    some ((-1), mu)
  ) (fun b3 => fg_gd (fg_isF x b3) (
    fg_b2 (FX5_leastTwice x mu b3) (fun v7 mu6 => 
    some (v7, mu6))
  )))
set_option maxHeartbeats 4000000 in
theorem wX11_twice {nx : Nat} {sh : bs_Sh} {R : Nat → Nat → Option Nat} {x : Nat} (HX : fg_S (bs_tS x) R x sh) {mu : bs_Mm} (hR : fg_R R mu) {p1 : Int32} {r : Int32 × bs_Mm} (h : FX11_twice x mu p1 = some r) : bs_C mX11_twice (bs_rm 4 0 0) [.ref x, .int p1] nx sh mu (fg_po R nx sh (some (.int r.1)) r.2) := by
  refine bs_ct (by decide +kernel) (Nat.le_of_ble_eq_true rfl) ?_
  have kr : ∀ q, r = q → fg_R R q.2 → (fg_po R nx sh (some (.int r.1)) r.2) (some (.int q.1)) nx sh q.2 := fun q e hq => by subst e; exact ⟨rfl, rfl, rfl, rfl, hq⟩
  unfold FX11_twice at h
  refine bs_aload_n dX11_twice_0 rfl ?_
  refine bs_iload_n dX11_twice_1 rfl ?_
  obtain ⟨v2, k1, h⟩ := fg_bdE h
  refine fg_callV dX11_twice_2 qX11_143 (wX11_figureAt HX hR k1) rfl (HX.s 0 rfl rfl rfl) rfl (Nat.le_of_ble_eq_true rfl) (fg_cr (by first | decide | omega) (by decide)) (fun hR => ?_)
  cases v2 with
  | none =>
    replace h := fg_oq0 h
    refine bs_astoreN_n dX11_twice_5 rfl (by decide) ?_
    refine bs_aloadN_n dX11_twice_6 rfl ?_
    refine bs_ifnonnullN dX11_twice_7 ?_
    refine bs_iconst (v := (-1)) dX11_twice_10 (by decide) ?_
    refine bs_goto (tgt := 22) dX11_twice_11 (by decide) ?_
    cases h
    exact bs_iret dX11_twice_22 rfl (Nat.zero_le _) (Nat.zero_le _) (kr _ rfl hR)
  | some b3 =>
    replace h := fg_oq1 h
    obtain ⟨g4, h⟩ := fg_gdE h
    have h_b3 := fg_isF_F HX g4
    refine bs_astore_n dX11_twice_5 rfl (by decide) ?_
    refine bs_aload_n dX11_twice_6 rfl ?_
    refine bs_ifnonnull (tgt := 14) dX11_twice_7 (by decide) ?_
    refine bs_aload_n dX11_twice_14 rfl ?_
    refine fg_getR (b := (x + 26)) dX11_twice_15 fX11_52 (HX.s 0 rfl rfl rfl) hR (HX.r 0 6 rfl rfl rfl) ?_
    refine bs_aload_n dX11_twice_18 rfl ?_
    obtain ⟨v7, mu6, k5, h⟩ := fg_b2E h
    refine fg_callV dX11_twice_19 qX11_290 (wX5_leastTwice HX h_b3 hR k5) rfl (HX.s 26 rfl rfl rfl) rfl (Nat.le_of_ble_eq_true rfl) (fg_cr (by first | decide | omega) (by decide)) (fun hR => ?_)
    cases h
    exact bs_iret dX11_twice_22 rfl (Nat.zero_le _) (Nat.zero_le _) (kr _ rfl hR)
noncomputable def FX5_weakestOf_b7 (x : Nat) (p1 : Nat)  (s : Int32 × Int32 × Int32 × bs_Mm) : Option ((Int32 × Int32 × Int32 × bs_Mm) ⊕ (Int32 × bs_Mm)) :=
  if (bs_iv (s.2.2.2 p1 7)) ≤ s.2.2.1 then (
    some (.inr (s.1, s.2.2.2))
  ) else (
    fg_b2 (FX5_lostWith x s.2.2.2 p1 ((nI 1) <<< (s.2.2.1 &&& 31))) (fun v3 mu2 => 
    fg_bd (FJ6_bitCount_0f7a4  mu2 v3) (fun v5 => 
    if v5 ≤ s.2.1 then (
      some (.inl (s.1, s.2.1, (s.2.2.1 + (nI 1)), mu2))
    ) else (
      some (.inl (s.2.2.1, v5, (s.2.2.1 + (nI 1)), mu2))
    )))
  )
set_option maxHeartbeats 4000000 in
theorem wFX5_weakestOf_b7 {nx : Nat} {sh : bs_Sh} {R : Nat → Nat → Option Nat} {x : Nat} (HX : fg_S (bs_tS x) R x sh) {p1 : Nat} (h_p1 : fg_F R sh p1) {Ph : bs_Po} {s : Int32 × Int32 × Int32 × bs_Mm} {r : (Int32 × Int32 × Int32 × bs_Mm) ⊕ (Int32 × bs_Mm)} (ka : ∀ s, r = .inl s → fg_R R s.2.2.2 → bs_W Ph mX5_weakestOf (bs_rm 3 0 0) 7 (bs_mk [(0, .ref (x + 26)), (1, .ref p1), (2, .int s.1), (3, .int s.2.1), (4, .int s.2.2.1)]) [] 0 0 nx sh s.2.2.2) (ke : ∀ s, r = .inr s → fg_R R s.2 → bs_W Ph mX5_weakestOf (bs_rm 3 0 0) 48 (bs_mk [(0, .ref (x + 26)), (1, .ref p1), (2, .int s.1)]) [] 0 0 nx sh s.2) (hR : fg_R R s.2.2.2) (h : FX5_weakestOf_b7 x p1 s = some r) : bs_W Ph mX5_weakestOf (bs_rm 3 0 0) 7 (bs_mk [(0, .ref (x + 26)), (1, .ref p1), (2, .int s.1), (3, .int s.2.1), (4, .int s.2.2.1)]) [] 0 0 nx sh s.2.2.2 := by
  unfold FX5_weakestOf_b7 at h
  refine bs_iload dX5_weakestOf_7 rfl ?_
  refine bs_aload_n dX5_weakestOf_9 rfl ?_
  refine bs_getI dX5_weakestOf_10 fX5_25 (h_p1.s0) ?_
  refine bs_icmp_ge (tgt := 48) dX5_weakestOf_13 (by decide) (fun c => ?_) (fun c => ?_)
  · replace h := fg_ip c h
    cases h
    refine bs_W.mk [(0, .ref (x + 26)), (1, .ref p1), (2, .int s.1)] (by intro q hq; simp only [List.mem_cons, List.not_mem_nil, or_false] at hq; rcases hq with rfl | rfl | rfl <;> rfl) (ke _ rfl hR)
  · replace h := fg_iN c h
    refine bs_aload_n dX5_weakestOf_16 rfl ?_
    refine bs_aload_n dX5_weakestOf_17 rfl ?_
    refine bs_iconst (v := (nI 1)) dX5_weakestOf_18 (by decide) ?_
    refine bs_iload dX5_weakestOf_19 rfl ?_
    refine bs_ishl dX5_weakestOf_21 ?_
    obtain ⟨v3, mu2, k1, h⟩ := fg_b2E h
    refine fg_callV dX5_weakestOf_22 qX5_51 (wX5_lostWith HX h_p1 hR k1) rfl (HX.s 26 rfl rfl rfl) rfl (Nat.le_of_ble_eq_true rfl) (fg_cr (by first | decide | omega) (by decide)) (fun hR => ?_)
    obtain ⟨v5, k4, h⟩ := fg_bdE h
    refine fg_callS dX5_weakestOf_25 qX5_55 (wJ6_bitCount_0f7a4  hR k4) rfl rfl (Nat.le_of_ble_eq_true rfl) (fg_cr (by first | decide | omega) (by decide)) (fun hR => ?_)
    refine bs_istore dX5_weakestOf_28 rfl (by decide) ?_
    refine bs_iload dX5_weakestOf_30 rfl ?_
    refine bs_iload_n dX5_weakestOf_32 rfl ?_
    refine bs_icmp_le (tgt := 42) dX5_weakestOf_33 (by decide) (fun c => ?_) (fun c => ?_)
    · replace h := fg_ip c h
      refine fg_iinc (m := (nI 1)) dX5_weakestOf_42 rfl rfl (by decide) ?_
      refine bs_goto (tgt := 7) dX5_weakestOf_45 (by decide) ?_
      cases h
      refine bs_W.mk [(0, .ref (x + 26)), (1, .ref p1), (2, .int s.1), (3, .int s.2.1), (4, .int (s.2.2.1 + (nI 1)))] (by intro q hq; simp only [List.mem_cons, List.not_mem_nil, or_false] at hq; rcases hq with rfl | rfl | rfl | rfl | rfl <;> rfl) (by have k := ka _ rfl hR; dsimp only at k; exact k)
    · replace h := fg_iN c h
      refine bs_iload dX5_weakestOf_36 rfl ?_
      refine bs_istore_n dX5_weakestOf_38 rfl (by decide) ?_
      refine bs_iload dX5_weakestOf_39 rfl ?_
      refine bs_istore_n dX5_weakestOf_41 rfl (by decide) ?_
      refine fg_iinc (m := (nI 1)) dX5_weakestOf_42 rfl rfl (by decide) ?_
      refine bs_goto (tgt := 7) dX5_weakestOf_45 (by decide) ?_
      cases h
      refine bs_W.mk [(0, .ref (x + 26)), (1, .ref p1), (2, .int s.2.2.1), (3, .int v5), (4, .int (s.2.2.1 + (nI 1)))] (by intro q hq; simp only [List.mem_cons, List.not_mem_nil, or_false] at hq; rcases hq with rfl | rfl | rfl | rfl | rfl <;> rfl) (by have k := ka _ rfl hR; dsimp only at k; exact k)
theorem wFX5_weakestOf_l7 {nx : Nat} {sh : bs_Sh} {R : Nat → Nat → Option Nat} {x : Nat} (HX : fg_S (bs_tS x) R x sh) {p1 : Nat} (h_p1 : fg_F R sh p1) {Ph : bs_Po} {t : Int32 × bs_Mm} : ∀ n (y0 : Int32) (y1 : Int32) (y2 : Int32) (mu1 : bs_Mm), fg_lp (FX5_weakestOf_b7 x p1) n (y0, y1, y2, mu1) = some t → fg_R R mu1 → (ke : ∀ s, t = s → fg_R R s.2 → bs_W Ph mX5_weakestOf (bs_rm 3 0 0) 48 (bs_mk [(0, .ref (x + 26)), (1, .ref p1), (2, .int s.1)]) [] 0 0 nx sh s.2) → bs_W Ph mX5_weakestOf (bs_rm 3 0 0) 7 (bs_mk [(0, .ref (x + 26)), (1, .ref p1), (2, .int y0), (3, .int y1), (4, .int y2)]) [] 0 0 nx sh mu1 := by
  intro n
  induction n with
  | zero => intro y0 y1 y2 mu1 h; exact absurd h (fun z => fg_lp0 z)
  | succ n ih =>
    intro y0 y1 y2 mu1 h hR ke
    obtain ⟨r, hb, h1, h2⟩ := fg_lpE h
    exact wFX5_weakestOf_b7 (s := (y0, y1, y2, mu1)) HX h_p1 (fun s' e hR' => ih s'.1 s'.2.1 s'.2.2.1 s'.2.2.2 (h1 s' e) hR' ke) (fun s' e => ke s' (h2 _ e).symm) hR hb
noncomputable def FX5_weakestOf (x : Nat) (mu : bs_Mm) (p1 : Nat) : Option (Int32 × bs_Mm) :=
  fg_bd (fg_lp (FX5_weakestOf_b7 x p1) fg_fu ((-1), (nI 0), (nI 0), mu)) (fun t6 => 
    some (t6.1, t6.2)
  )
set_option maxHeartbeats 4000000 in
theorem wX5_weakestOf {nx : Nat} {sh : bs_Sh} {R : Nat → Nat → Option Nat} {x : Nat} (HX : fg_S (bs_tS x) R x sh) {p1 : Nat} (h_p1 : fg_F R sh p1) {mu : bs_Mm} (hR : fg_R R mu) {r : Int32 × bs_Mm} (h : FX5_weakestOf x mu p1 = some r) : bs_C mX5_weakestOf (bs_rm 3 0 0) [.ref (x + 26), .ref p1] nx sh mu (fg_po R nx sh (some (.int r.1)) r.2) := by
  refine bs_ct (by decide +kernel) (Nat.le_of_ble_eq_true rfl) ?_
  have kr : ∀ q, r = q → fg_R R q.2 → (fg_po R nx sh (some (.int r.1)) r.2) (some (.int q.1)) nx sh q.2 := fun q e hq => by subst e; exact ⟨rfl, rfl, rfl, rfl, hq⟩
  unfold FX5_weakestOf at h
  refine bs_iconst (v := (-1)) dX5_weakestOf_0 (by decide) ?_
  refine bs_istore_n dX5_weakestOf_1 rfl (by decide) ?_
  refine bs_iconst (v := (nI 0)) dX5_weakestOf_2 (by decide) ?_
  refine bs_istore_n dX5_weakestOf_3 rfl (by decide) ?_
  refine bs_iconst (v := (nI 0)) dX5_weakestOf_4 (by decide) ?_
  refine bs_istore dX5_weakestOf_5 rfl (by decide) ?_
  obtain ⟨t6, k7, h⟩ := fg_bdE h
  refine bs_W.mk [(0, .ref (x + 26)), (1, .ref p1), (2, .int (-1)), (3, .int (nI 0)), (4, .int (nI 0))] (by intro q hq; simp only [List.mem_cons, List.not_mem_nil, or_false] at hq; rcases hq with rfl | rfl | rfl | rfl | rfl <;> rfl) ?_
  refine wFX5_weakestOf_l7 HX h_p1 _ _ _ _ _ k7 hR ?_
  intro s e hR
  subst e
  refine bs_iload_n dX5_weakestOf_48 rfl ?_
  cases h
  exact bs_iret dX5_weakestOf_49 rfl (Nat.zero_le _) (Nat.zero_le _) (kr _ rfl hR)
noncomputable def FX11_weakest (x : Nat) (mu : bs_Mm) (p1 : Int32) : Option (Int32 × bs_Mm) :=
  fg_bd (FX11_figureAt x mu p1) (fun v2 => 
  fg_oq v2 (
    some ((-1), mu)
  ) (fun b3 => fg_gd (fg_isF x b3) (
    fg_b2 (FX5_weakestOf x mu b3) (fun v7 mu6 => 
    some (v7, mu6))
  )))
set_option maxHeartbeats 4000000 in
theorem wX11_weakest {nx : Nat} {sh : bs_Sh} {R : Nat → Nat → Option Nat} {x : Nat} (HX : fg_S (bs_tS x) R x sh) {mu : bs_Mm} (hR : fg_R R mu) {p1 : Int32} {r : Int32 × bs_Mm} (h : FX11_weakest x mu p1 = some r) : bs_C mX11_weakest (bs_rm 4 0 0) [.ref x, .int p1] nx sh mu (fg_po R nx sh (some (.int r.1)) r.2) := by
  refine bs_ct (by decide +kernel) (Nat.le_of_ble_eq_true rfl) ?_
  have kr : ∀ q, r = q → fg_R R q.2 → (fg_po R nx sh (some (.int r.1)) r.2) (some (.int q.1)) nx sh q.2 := fun q e hq => by subst e; exact ⟨rfl, rfl, rfl, rfl, hq⟩
  unfold FX11_weakest at h
  refine bs_aload_n dX11_weakest_0 rfl ?_
  refine bs_iload_n dX11_weakest_1 rfl ?_
  obtain ⟨v2, k1, h⟩ := fg_bdE h
  refine fg_callV dX11_weakest_2 qX11_143 (wX11_figureAt HX hR k1) rfl (HX.s 0 rfl rfl rfl) rfl (Nat.le_of_ble_eq_true rfl) (fg_cr (by first | decide | omega) (by decide)) (fun hR => ?_)
  cases v2 with
  | none =>
    replace h := fg_oq0 h
    refine bs_astoreN_n dX11_weakest_5 rfl (by decide) ?_
    refine bs_aloadN_n dX11_weakest_6 rfl ?_
    refine bs_ifnonnullN dX11_weakest_7 ?_
    refine bs_iconst (v := (-1)) dX11_weakest_10 (by decide) ?_
    refine bs_goto (tgt := 22) dX11_weakest_11 (by decide) ?_
    cases h
    exact bs_iret dX11_weakest_22 rfl (Nat.zero_le _) (Nat.zero_le _) (kr _ rfl hR)
  | some b3 =>
    replace h := fg_oq1 h
    obtain ⟨g4, h⟩ := fg_gdE h
    have h_b3 := fg_isF_F HX g4
    refine bs_astore_n dX11_weakest_5 rfl (by decide) ?_
    refine bs_aload_n dX11_weakest_6 rfl ?_
    refine bs_ifnonnull (tgt := 14) dX11_weakest_7 (by decide) ?_
    refine bs_aload_n dX11_weakest_14 rfl ?_
    refine fg_getR (b := (x + 26)) dX11_weakest_15 fX11_52 (HX.s 0 rfl rfl rfl) hR (HX.r 0 6 rfl rfl rfl) ?_
    refine bs_aload_n dX11_weakest_18 rfl ?_
    obtain ⟨v7, mu6, k5, h⟩ := fg_b2E h
    refine fg_callV dX11_weakest_19 qX11_245 (wX5_weakestOf HX h_b3 hR k5) rfl (HX.s 26 rfl rfl rfl) rfl (Nat.le_of_ble_eq_true rfl) (fg_cr (by first | decide | omega) (by decide)) (fun hR => ?_)
    cases h
    exact bs_iret dX11_weakest_22 rfl (Nat.zero_le _) (Nat.zero_le _) (kr _ rfl hR)
noncomputable def FX11_worth (x : Nat) (mu : bs_Mm) (p1 : Int32) (p2 : Int32) (p3 : Int32) (p4 : Int32) (p5 : Int32) (p6 : Int32) : Option (Int32 × bs_Mm) :=
  fg_bd (FX11_ruleAt x mu p1) (fun v2 => 
  fg_oq v2 (
    none
  ) (fun b3 => fg_gd (fg_isU x b3) (
    fg_gd (fg_in (nI 0) 5) (
    fg_wr mu (x + 61) (nI 0).toNatClampNeg (.int p2) (fun mu6 => 
    fg_gd (fg_in (nI 1) 5) (
    fg_wr mu6 (x + 61) (nI 1).toNatClampNeg (.int p3) (fun mu8 => 
    fg_gd (fg_in (nI 2) 5) (
    fg_wr mu8 (x + 61) (nI 2).toNatClampNeg (.int p4) (fun mu10 => 
    fg_gd (fg_in (nI 3) 5) (
    fg_wr mu10 (x + 61) (nI 3).toNatClampNeg (.int p5) (fun mu12 => 
    fg_gd (fg_in (nI 4) 5) (
    fg_wr mu12 (x + 61) (nI 4).toNatClampNeg (.int p6) (fun mu14 => 
    fg_b2 (FX6_worthBy x b3 mu14 (x + 61) (x + 23)) (fun v17 mu16 => 
    some (v17, mu16))))))))))))
  )))
set_option maxHeartbeats 4000000 in
theorem wX11_worth {nx : Nat} {sh : bs_Sh} {R : Nat → Nat → Option Nat} {x : Nat} (HX : fg_S (bs_tS x) R x sh) {mu : bs_Mm} (hR : fg_R R mu) {p1 : Int32} {p2 : Int32} {p3 : Int32} {p4 : Int32} {p5 : Int32} {p6 : Int32} {r : Int32 × bs_Mm} (h : FX11_worth x mu p1 p2 p3 p4 p5 p6 = some r) : bs_C mX11_worth (bs_rm 5 0 0) [.ref x, .int p1, .int p2, .int p3, .int p4, .int p5, .int p6] nx sh mu (fg_po R nx sh (some (.int r.1)) r.2) := by
  refine bs_ct (by decide +kernel) (Nat.le_of_ble_eq_true rfl) ?_
  have kr : ∀ q, r = q → fg_R R q.2 → (fg_po R nx sh (some (.int r.1)) r.2) (some (.int q.1)) nx sh q.2 := fun q e hq => by subst e; exact ⟨rfl, rfl, rfl, rfl, hq⟩
  unfold FX11_worth at h
  refine bs_aload_n dX11_worth_0 rfl ?_
  refine bs_iload_n dX11_worth_1 rfl ?_
  obtain ⟨v2, k1, h⟩ := fg_bdE h
  refine fg_callV dX11_worth_2 qX11_331 (wX11_ruleAt HX hR k1) rfl (HX.s 0 rfl rfl rfl) rfl (Nat.le_of_ble_eq_true rfl) (fg_cr (by first | decide | omega) (by decide)) (fun hR => ?_)
  cases v2 with
  | none =>
    replace h := fg_oq0 h
    refine bs_astoreN dX11_worth_5 rfl (by decide) ?_
    refine bs_aloadN dX11_worth_7 rfl ?_
    refine bs_ifnonnullN dX11_worth_9 ?_
    cases h
  | some b3 =>
    replace h := fg_oq1 h
    obtain ⟨g4, h⟩ := fg_gdE h
    have h_b3 := fg_isU_U HX g4
    refine bs_astore dX11_worth_5 rfl (by decide) ?_
    refine bs_aload dX11_worth_7 rfl ?_
    refine bs_ifnonnull (tgt := 23) dX11_worth_9 (by decide) ?_
    refine bs_aload_n dX11_worth_23 rfl ?_
    refine fg_getR (b := (x + 61)) dX11_worth_24 fX11_84 (HX.s 0 rfl rfl rfl) hR (HX.r 0 11 rfl rfl rfl) ?_
    refine bs_iconst (v := (nI 0)) dX11_worth_27 (by decide) ?_
    refine bs_iload_n dX11_worth_28 rfl ?_
    obtain ⟨g5, h⟩ := fg_gdE h
    refine fg_iast dX11_worth_29 (HX.ss 61 rfl rfl) (fun j => HX.n 61 j rfl rfl rfl) g5 hR h (fun mu6 hR h => ?_)
    refine bs_aload_n dX11_worth_30 rfl ?_
    refine fg_getR (b := (x + 61)) dX11_worth_31 fX11_84 (HX.s 0 rfl rfl rfl) hR (HX.r 0 11 rfl rfl rfl) ?_
    refine bs_iconst (v := (nI 1)) dX11_worth_34 (by decide) ?_
    refine bs_iload_n dX11_worth_35 rfl ?_
    obtain ⟨g7, h⟩ := fg_gdE h
    refine fg_iast dX11_worth_36 (HX.ss 61 rfl rfl) (fun j => HX.n 61 j rfl rfl rfl) g7 hR h (fun mu8 hR h => ?_)
    refine bs_aload_n dX11_worth_37 rfl ?_
    refine fg_getR (b := (x + 61)) dX11_worth_38 fX11_84 (HX.s 0 rfl rfl rfl) hR (HX.r 0 11 rfl rfl rfl) ?_
    refine bs_iconst (v := (nI 2)) dX11_worth_41 (by decide) ?_
    refine bs_iload dX11_worth_42 rfl ?_
    obtain ⟨g9, h⟩ := fg_gdE h
    refine fg_iast dX11_worth_44 (HX.ss 61 rfl rfl) (fun j => HX.n 61 j rfl rfl rfl) g9 hR h (fun mu10 hR h => ?_)
    refine bs_aload_n dX11_worth_45 rfl ?_
    refine fg_getR (b := (x + 61)) dX11_worth_46 fX11_84 (HX.s 0 rfl rfl rfl) hR (HX.r 0 11 rfl rfl rfl) ?_
    refine bs_iconst (v := (nI 3)) dX11_worth_49 (by decide) ?_
    refine bs_iload dX11_worth_50 rfl ?_
    obtain ⟨g11, h⟩ := fg_gdE h
    refine fg_iast dX11_worth_52 (HX.ss 61 rfl rfl) (fun j => HX.n 61 j rfl rfl rfl) g11 hR h (fun mu12 hR h => ?_)
    refine bs_aload_n dX11_worth_53 rfl ?_
    refine fg_getR (b := (x + 61)) dX11_worth_54 fX11_84 (HX.s 0 rfl rfl rfl) hR (HX.r 0 11 rfl rfl rfl) ?_
    refine bs_iconst (v := (nI 4)) dX11_worth_57 (by decide) ?_
    refine bs_iload dX11_worth_58 rfl ?_
    obtain ⟨g13, h⟩ := fg_gdE h
    refine fg_iast dX11_worth_60 (HX.ss 61 rfl rfl) (fun j => HX.n 61 j rfl rfl rfl) g13 hR h (fun mu14 hR h => ?_)
    refine bs_aload dX11_worth_61 rfl ?_
    refine bs_aload_n dX11_worth_63 rfl ?_
    refine fg_getR (b := (x + 61)) dX11_worth_64 fX11_84 (HX.s 0 rfl rfl rfl) hR (HX.r 0 11 rfl rfl rfl) ?_
    refine bs_aload_n dX11_worth_67 rfl ?_
    refine fg_getR (b := (x + 20)) dX11_worth_68 fX11_45 (HX.s 0 rfl rfl rfl) hR (HX.r 0 5 rfl rfl rfl) ?_
    refine fg_getR (b := (x + 23)) dX11_worth_71 fX11_337 (HX.s 20 rfl rfl rfl) hR (HX.r 20 1 rfl rfl rfl) ?_
    obtain ⟨v17, mu16, k15, h⟩ := fg_b2E h
    refine fg_callV dX11_worth_74 qX11_341 (wX6_worthBy HX h_b3 ⟨(HX.ss 61 rfl rfl), (fun j => HX.n 61 j rfl rfl rfl), by decide⟩ ⟨(HX.ss 23 rfl rfl), (fun j => HX.n 23 j rfl rfl rfl), by decide⟩ hR k15) rfl (h_b3.1) rfl (Nat.le_of_ble_eq_true rfl) (fg_cr (by first | decide | omega) (by decide)) (fun hR => ?_)
    cases h
    exact bs_iret dX11_worth_77 rfl (Nat.zero_le _) (Nat.zero_le _) (kr _ rfl hR)
