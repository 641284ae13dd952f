noncomputable def FX5_shortens_j39 (x : Nat) (mu : bs_Mm) (l1 : Int32) (l2 : Int32) (l3 : Int32) : Option (Int32 × bs_Mm) :=
  fg_gd (fg_in l1 30) (
  fg_gd (fg_in l2 30) (
  fg_wr mu (x + 27) l2.toNatClampNeg (.int ((bs_iv (mu (x + 27) l1.toNatClampNeg)) + l3)) (fun mu5 => 
  some ((nI 1), mu5))))
set_option maxHeartbeats 4000000 in
theorem wFX5_shortens_j39 {nx : Nat} {sh : bs_Sh} {R : Nat → Nat → Option Nat} {x : Nat} (HX : fg_S (bs_tS x) R x sh) {mu : bs_Mm} {l1 : Int32} {l2 : Int32} {l3 : Int32} {Ph : bs_Po} {r : Int32 × bs_Mm} (kr : ∀ q, r = q → fg_R R q.2 → Ph (some (.int q.1)) nx sh q.2) (hR : fg_R R mu) (h : FX5_shortens_j39 x mu l1 l2 l3 = some r) : bs_W Ph mX5_shortens (bs_rm 0 0 0) 39 (bs_mk [(0, .ref (x + 26)), (1, .int l1), (2, .int l2), (3, .int l3)]) [] 0 0 nx sh mu := by
  unfold FX5_shortens_j39 at h
  refine bs_aload_n dX5_shortens_39 rfl ?_
  refine fg_getR (b := (x + 27)) dX5_shortens_40 fX5_9 (HX.s 26 rfl rfl rfl) hR (HX.r 26 0 rfl rfl rfl) ?_
  refine bs_iload_n dX5_shortens_43 rfl ?_
  refine bs_aload_n dX5_shortens_44 rfl ?_
  refine fg_getR (b := (x + 27)) dX5_shortens_45 fX5_9 (HX.s 26 rfl rfl rfl) hR (HX.r 26 0 rfl rfl rfl) ?_
  refine bs_iload_n dX5_shortens_48 rfl ?_
  obtain ⟨g3, h⟩ := fg_gdE h
  refine bs_iald dX5_shortens_49 (HX.ss 27 rfl rfl) (fg_in_ix g3) ?_
  refine bs_iload_n dX5_shortens_50 rfl ?_
  refine bs_iadd dX5_shortens_51 ?_
  obtain ⟨g4, h⟩ := fg_gdE h
  refine fg_iast dX5_shortens_52 (HX.ss 27 rfl rfl) (fun j => HX.n 27 j rfl rfl rfl) g4 hR h (fun mu5 hR h => ?_)
  refine bs_iconst (v := (nI 1)) dX5_shortens_53 (by decide) ?_
  cases h
  exact bs_zret dX5_shortens_54 rfl (Or.inr rfl) (Nat.zero_le _) (Nat.zero_le _) (kr _ rfl hR)
noncomputable def FX5_shortens (x : Nat) (mu : bs_Mm) (p1 : Int32) (p2 : Int32) (p3 : Int32) : Option (Int32 × bs_Mm) :=
  fg_gd (fg_in p1 30) (
  if (bs_iv (mu (x + 27) p1.toNatClampNeg)) = (-1) then (
    some ((nI 0), mu)
  ) else (
    fg_gd (fg_in p2 30) (
    if (bs_iv (mu (x + 27) p2.toNatClampNeg)) = (-1) then (
      FX5_shortens_j39 x mu p1 p2 p3
    ) else (
      fg_gd (fg_in p2 30) (
      fg_gd (fg_in p1 30) (
      if ((bs_iv (mu (x + 27) p1.toNatClampNeg)) + p3) < (bs_iv (mu (x + 27) p2.toNatClampNeg)) then (
        FX5_shortens_j39 x mu p1 p2 p3
      ) else (
        some ((nI 0), mu)
      )))
    ))
  ))
set_option maxHeartbeats 4000000 in
theorem wX5_shortens {nx : Nat} {sh : bs_Sh} {R : Nat → Nat → Option Nat} {x : Nat} (HX : fg_S (bs_tS x) R x sh) {mu : bs_Mm} (hR : fg_R R mu) {p1 : Int32} {p2 : Int32} {p3 : Int32} {r : Int32 × bs_Mm} (h : FX5_shortens x mu p1 p2 p3 = some r) : bs_C mX5_shortens (bs_rm 0 0 0) [.ref (x + 26), .int p1, .int p2, .int p3] nx sh mu (fg_po R nx sh (some (.int r.1)) r.2) := by
  refine bs_ct (by decide +kernel) (Nat.le_of_ble_eq_true rfl) ?_
  have kr : ∀ q, r = q → fg_R R q.2 → (fg_po R nx sh (some (.int r.1)) r.2) (some (.int q.1)) nx sh q.2 := fun q e hq => by subst e; exact ⟨rfl, rfl, rfl, rfl, hq⟩
  unfold FX5_shortens at h
  refine bs_aload_n dX5_shortens_0 rfl ?_
  refine fg_getR (b := (x + 27)) dX5_shortens_1 fX5_9 (HX.s 26 rfl rfl rfl) hR (HX.r 26 0 rfl rfl rfl) ?_
  refine bs_iload_n dX5_shortens_4 rfl ?_
  obtain ⟨g1, h⟩ := fg_gdE h
  refine bs_iald dX5_shortens_5 (HX.ss 27 rfl rfl) (fg_in_ix g1) ?_
  refine bs_iconst (v := (-1)) dX5_shortens_6 (by decide) ?_
  refine bs_icmp_eq (tgt := 37) dX5_shortens_7 (by decide) (fun c => ?_) (fun c => ?_)
  · replace h := fg_ip c h
    refine bs_iconst (v := (nI 0)) dX5_shortens_37 (by decide) ?_
    cases h
    exact bs_zret dX5_shortens_38 rfl (Or.inl rfl) (Nat.zero_le _) (Nat.zero_le _) (kr _ rfl hR)
  · replace h := fg_iN c h
    refine bs_aload_n dX5_shortens_10 rfl ?_
    refine fg_getR (b := (x + 27)) dX5_shortens_11 fX5_9 (HX.s 26 rfl rfl rfl) hR (HX.r 26 0 rfl rfl rfl) ?_
    refine bs_iload_n dX5_shortens_14 rfl ?_
    obtain ⟨g2, h⟩ := fg_gdE h
    refine bs_iald dX5_shortens_15 (HX.ss 27 rfl rfl) (fg_in_ix g2) ?_
    refine bs_iconst (v := (-1)) dX5_shortens_16 (by decide) ?_
    refine bs_icmp_eq (tgt := 39) dX5_shortens_17 (by decide) (fun c => ?_) (fun c => ?_)
    · replace h := fg_ip c h
      refine bs_W.mk [(0, .ref (x + 26)), (1, .int p1), (2, .int p2), (3, .int p3)] (by intro q hq; simp only [List.mem_cons, List.not_mem_nil, or_false] at hq; rcases hq with rfl | rfl | rfl | rfl <;> rfl) ?_
      exact wFX5_shortens_j39 HX kr hR h
    · replace h := fg_iN c h
      refine bs_aload_n dX5_shortens_20 rfl ?_
      refine fg_getR (b := (x + 27)) dX5_shortens_21 fX5_9 (HX.s 26 rfl rfl rfl) hR (HX.r 26 0 rfl rfl rfl) ?_
      refine bs_iload_n dX5_shortens_24 rfl ?_
      obtain ⟨g6, h⟩ := fg_gdE h
      refine bs_iald dX5_shortens_25 (HX.ss 27 rfl rfl) (fg_in_ix g6) ?_
      refine bs_aload_n dX5_shortens_26 rfl ?_
      refine fg_getR (b := (x + 27)) dX5_shortens_27 fX5_9 (HX.s 26 rfl rfl rfl) hR (HX.r 26 0 rfl rfl rfl) ?_
      refine bs_iload_n dX5_shortens_30 rfl ?_
      obtain ⟨g7, h⟩ := fg_gdE h
      refine bs_iald dX5_shortens_31 (HX.ss 27 rfl rfl) (fg_in_ix g7) ?_
      refine bs_iload_n dX5_shortens_32 rfl ?_
      refine bs_iadd dX5_shortens_33 ?_
      refine bs_icmp_gt (tgt := 39) dX5_shortens_34 (by decide) (fun c => ?_) (fun c => ?_)
      · replace h := fg_ip c h
        refine bs_W.mk [(0, .ref (x + 26)), (1, .int p1), (2, .int p2), (3, .int p3)] (by intro q hq; simp only [List.mem_cons, List.not_mem_nil, or_false] at hq; rcases hq with rfl | rfl | rfl | rfl <;> rfl) ?_
        exact wFX5_shortens_j39 HX kr hR h
      · replace h := fg_iN c h
        refine bs_iconst (v := (nI 0)) dX5_shortens_37 (by decide) ?_
        cases h
        exact bs_zret dX5_shortens_38 rfl (Or.inl rfl) (Nat.zero_le _) (Nat.zero_le _) (kr _ rfl hR)
noncomputable def FX5_measure_b38_L20 (x : Nat) (p1 : Nat)  (l2 : Int32) (l4 : Int32) (s : Int32 × Int32 × bs_Mm) : Option ((Int32 × Int32 × bs_Mm) ⊕ (Int32 × bs_Mm)) :=
  if (bs_iv (s.2.2 p1 7)) ≤ s.2.1 then (
    some (.inr (s.1, s.2.2))
  ) else (
    fg_gd (fg_in s.2.1 24) (
    fg_gd (fg_in s.2.1 24) (
    fg_gd (fg_in s.2.1 24) (
    fg_b2 (FX5_shortens x s.2.2 (bs_iv (s.2.2 (p1 + 3) s.2.1.toNatClampNeg)) (bs_iv (s.2.2 (p1 + 4) s.2.1.toNatClampNeg)) (bs_iv (s.2.2 (p1 + 2) s.2.1.toNatClampNeg))) (fun v9 mu8 => 
    fg_gd (fg_in s.2.1 24) (
    fg_gd (fg_in s.2.1 24) (
    fg_gd (fg_in s.2.1 24) (
    fg_b2 (FX5_shortens x mu8 (bs_iv (mu8 (p1 + 4) s.2.1.toNatClampNeg)) (bs_iv (mu8 (p1 + 3) s.2.1.toNatClampNeg)) (bs_iv (mu8 (p1 + 2) s.2.1.toNatClampNeg))) (fun v15 mu14 => 
    some (.inl (((s.1 ||| v9) ||| v15), (s.2.1 + (nI 1)), mu14))))))))))
  )
set_option maxHeartbeats 4000000 in
theorem wFX5_measure_b38_L20 {nx : Nat} {sh : bs_Sh} {R : Nat → Nat → Option Nat} {x : Nat} (HX : fg_S (bs_tS x) R x sh) {p1 : Nat} (h_p1 : fg_F R sh p1) {l2 : Int32} {l4 : Int32} {Ph : bs_Po} {s : Int32 × Int32 × bs_Mm} {r : (Int32 × Int32 × bs_Mm) ⊕ (Int32 × bs_Mm)} (ka : ∀ s, r = .inl s → fg_R R s.2.2 → bs_W Ph mX5_measure (bs_rm 1 0 0) 38 (bs_mk [(0, .ref (x + 26)), (1, .ref p1), (2, .int l2), (3, .int s.1), (4, .int l4), (5, .int s.2.1)]) [] 0 0 nx sh s.2.2) (ke : ∀ s, r = .inr s → fg_R R s.2 → bs_W Ph mX5_measure (bs_rm 1 0 0) 109 (bs_mk [(0, .ref (x + 26)), (1, .ref p1), (2, .int l2), (3, .int s.1), (4, .int l4)]) [] 0 0 nx sh s.2) (hR : fg_R R s.2.2) (h : FX5_measure_b38_L20 x p1 l2 l4 s = some r) : bs_W Ph mX5_measure (bs_rm 1 0 0) 38 (bs_mk [(0, .ref (x + 26)), (1, .ref p1), (2, .int l2), (3, .int s.1), (4, .int l4), (5, .int s.2.1)]) [] 0 0 nx sh s.2.2 := by
  unfold FX5_measure_b38_L20 at h
  refine bs_iload dX5_measure_38 rfl ?_
  refine bs_aload_n dX5_measure_40 rfl ?_
  refine bs_getI dX5_measure_41 fX5_25 (h_p1.s0) ?_
  refine bs_icmp_ge (tgt := 109) dX5_measure_44 (by decide) (fun c => ?_) (fun c => ?_)
  · replace h := fg_ip c h
    cases h
    refine bs_W.mk [(0, .ref (x + 26)), (1, .ref p1), (2, .int l2), (3, .int s.1), (4, .int l4)] (by intro q hq; simp only [List.mem_cons, List.not_mem_nil, or_false] at hq; rcases hq with rfl | rfl | rfl | rfl | rfl <;> rfl) (ke _ rfl hR)
  · replace h := fg_iN c h
    refine bs_iload_n dX5_measure_47 rfl ?_
    refine bs_aload_n dX5_measure_48 rfl ?_
    refine bs_aload_n dX5_measure_49 rfl ?_
    refine fg_getR (b := (p1 + 3)) dX5_measure_50 fX5_35 (h_p1.s0) hR (h_p1.r2) ?_
    refine bs_iload dX5_measure_53 rfl ?_
    obtain ⟨g4, h⟩ := fg_gdE h
    refine bs_iald dX5_measure_55 (h_p1.s3) (fg_in_ix g4) ?_
    refine bs_aload_n dX5_measure_56 rfl ?_
    refine fg_getR (b := (p1 + 4)) dX5_measure_57 fX5_38 (h_p1.s0) hR (h_p1.r3) ?_
    refine bs_iload dX5_measure_60 rfl ?_
    obtain ⟨g5, h⟩ := fg_gdE h
    refine bs_iald dX5_measure_62 (h_p1.s4) (fg_in_ix g5) ?_
    refine bs_aload_n dX5_measure_63 rfl ?_
    refine fg_getR (b := (p1 + 2)) dX5_measure_64 fX5_75 (h_p1.s0) hR (h_p1.r1) ?_
    refine bs_iload dX5_measure_67 rfl ?_
    obtain ⟨g6, h⟩ := fg_gdE h
    refine bs_iald dX5_measure_69 (h_p1.s2) (fg_in_ix g6) ?_
    obtain ⟨v9, mu8, k7, h⟩ := fg_b2E h
    refine fg_callV dX5_measure_70 qX5_78 (wX5_shortens HX hR k7) rfl (HX.s 26 rfl rfl rfl) rfl (Nat.le_of_ble_eq_true rfl) (fg_cr (by first | decide | omega) (by decide)) (fun hR => ?_)
    refine bs_ior dX5_measure_73 ?_
    refine bs_istore_n dX5_measure_74 rfl (by decide) ?_
    refine bs_iload_n dX5_measure_75 rfl ?_
    refine bs_aload_n dX5_measure_76 rfl ?_
    refine bs_aload_n dX5_measure_77 rfl ?_
    refine fg_getR (b := (p1 + 4)) dX5_measure_78 fX5_38 (h_p1.s0) hR (h_p1.r3) ?_
    refine bs_iload dX5_measure_81 rfl ?_
    obtain ⟨g10, h⟩ := fg_gdE h
    refine bs_iald dX5_measure_83 (h_p1.s4) (fg_in_ix g10) ?_
    refine bs_aload_n dX5_measure_84 rfl ?_
    refine fg_getR (b := (p1 + 3)) dX5_measure_85 fX5_35 (h_p1.s0) hR (h_p1.r2) ?_
    refine bs_iload dX5_measure_88 rfl ?_
    obtain ⟨g11, h⟩ := fg_gdE h
    refine bs_iald dX5_measure_90 (h_p1.s3) (fg_in_ix g11) ?_
    refine bs_aload_n dX5_measure_91 rfl ?_
    refine fg_getR (b := (p1 + 2)) dX5_measure_92 fX5_75 (h_p1.s0) hR (h_p1.r1) ?_
    refine bs_iload dX5_measure_95 rfl ?_
    obtain ⟨g12, h⟩ := fg_gdE h
    refine bs_iald dX5_measure_97 (h_p1.s2) (fg_in_ix g12) ?_
    obtain ⟨v15, mu14, k13, h⟩ := fg_b2E h
    refine fg_callV dX5_measure_98 qX5_78 (wX5_shortens HX hR k13) rfl (HX.s 26 rfl rfl rfl) rfl (Nat.le_of_ble_eq_true rfl) (fg_cr (by first | decide | omega) (by decide)) (fun hR => ?_)
    refine bs_ior dX5_measure_101 ?_
    refine bs_istore_n dX5_measure_102 rfl (by decide) ?_
    refine fg_iinc (m := (nI 1)) dX5_measure_103 rfl rfl (by decide) ?_
    refine bs_goto (tgt := 38) dX5_measure_106 (by decide) ?_
    cases h
    refine bs_W.mk [(0, .ref (x + 26)), (1, .ref p1), (2, .int l2), (3, .int ((s.1 ||| v9) ||| v15)), (4, .int l4), (5, .int (s.2.1 + (nI 1)))] (by intro q hq; simp only [List.mem_cons, List.not_mem_nil, or_false] at hq; rcases hq with rfl | rfl | rfl | rfl | rfl | rfl <;> rfl) (by have k := ka _ rfl hR; dsimp only at k; exact k)
theorem wFX5_measure_l38_L20 {nx : Nat} {sh : bs_Sh} {R : Nat → Nat → Option Nat} {x : Nat} (HX : fg_S (bs_tS x) R x sh) {p1 : Nat} (h_p1 : fg_F R sh p1) {l2 : Int32} {l4 : Int32} {Ph : bs_Po} {t : Int32 × bs_Mm} : ∀ n (y0 : Int32) (y1 : Int32) (mu1 : bs_Mm), fg_lp (FX5_measure_b38_L20 x p1 l2 l4) n (y0, y1, mu1) = some t → fg_R R mu1 → (ke : ∀ s, t = s → fg_R R s.2 → bs_W Ph mX5_measure (bs_rm 1 0 0) 109 (bs_mk [(0, .ref (x + 26)), (1, .ref p1), (2, .int l2), (3, .int s.1), (4, .int l4)]) [] 0 0 nx sh s.2) → bs_W Ph mX5_measure (bs_rm 1 0 0) 38 (bs_mk [(0, .ref (x + 26)), (1, .ref p1), (2, .int l2), (3, .int y0), (4, .int l4), (5, .int y1)]) [] 0 0 nx sh mu1 := by
  intro n
  induction n with
  | zero => intro y0 y1 mu1 h; exact absurd h (fun z => fg_lp0 z)
  | succ n ih =>
    intro y0 y1 mu1 h hR ke
    obtain ⟨r, hb, h1, h2⟩ := fg_lpE h
    exact wFX5_measure_b38_L20 (s := (y0, y1, mu1)) HX h_p1 (fun s' e hR' => ih s'.1 s'.2.1 s'.2.2 (h1 s' e) hR' ke) (fun s' e => ke s' (h2 _ e).symm) hR hb
noncomputable def FX5_measure_b20 (x : Nat) (p1 : Nat)  (l2 : Int32) (s : Int32 × Int32 × bs_Mm) : Option ((Int32 × Int32 × bs_Mm) ⊕ (bs_Mm)) :=
  if (bs_iv (s.2.2 p1 8)) ≤ s.2.1 then (
    some (.inr s.2.2)
  ) else (
    if s.1 = 0 then (
      some (.inr s.2.2)
    ) else (
      fg_bd (fg_lp (FX5_measure_b38_L20 x p1 l2 s.2.1) fg_fu ((nI 0), (nI 0), s.2.2)) (fun t16 => 
        some (.inl (t16.1, (s.2.1 + (nI 1)), t16.2))
      )
    )
  )
set_option maxHeartbeats 4000000 in
theorem wFX5_measure_b20 {nx : Nat} {sh : bs_Sh} {R : Nat → Nat → Option Nat} {x : Nat} (HX : fg_S (bs_tS x) R x sh) {p1 : Nat} (h_p1 : fg_F R sh p1) {l2 : Int32} {Ph : bs_Po} {s : Int32 × Int32 × bs_Mm} {r : (Int32 × Int32 × bs_Mm) ⊕ (bs_Mm)} (ka : ∀ s, r = .inl s → fg_R R s.2.2 → bs_W Ph mX5_measure (bs_rm 1 0 0) 20 (bs_mk [(0, .ref (x + 26)), (1, .ref p1), (2, .int l2), (3, .int s.1), (4, .int s.2.1)]) [] 0 0 nx sh s.2.2) (ke : ∀ s, r = .inr s → fg_R R s → bs_W Ph mX5_measure (bs_rm 1 0 0) 115 (bs_mk [(0, .ref (x + 26)), (1, .ref p1), (2, .int l2)]) [] 0 0 nx sh s) (hR : fg_R R s.2.2) (h : FX5_measure_b20 x p1 l2 s = some r) : bs_W Ph mX5_measure (bs_rm 1 0 0) 20 (bs_mk [(0, .ref (x + 26)), (1, .ref p1), (2, .int l2), (3, .int s.1), (4, .int s.2.1)]) [] 0 0 nx sh s.2.2 := by
  unfold FX5_measure_b20 at h
  refine bs_iload dX5_measure_20 rfl ?_
  refine bs_aload_n dX5_measure_22 rfl ?_
  refine bs_getI dX5_measure_23 fX5_61 (h_p1.s0) ?_
  refine bs_icmp_ge (tgt := 115) dX5_measure_26 (by decide) (fun c => ?_) (fun c => ?_)
  · replace h := fg_ip c h
    cases h
    refine bs_W.mk [(0, .ref (x + 26)), (1, .ref p1), (2, .int l2)] (by intro q hq; simp only [List.mem_cons, List.not_mem_nil, or_false] at hq; rcases hq with rfl | rfl | rfl <;> rfl) (ke _ rfl hR)
  · replace h := fg_iN c h
    refine bs_iload_n dX5_measure_29 rfl ?_
    refine bs_if_eq (tgt := 115) dX5_measure_30 (by decide) (fun c => ?_) (fun c => ?_)
    · replace h := fg_ip c h
      cases h
      refine bs_W.mk [(0, .ref (x + 26)), (1, .ref p1), (2, .int l2)] (by intro q hq; simp only [List.mem_cons, List.not_mem_nil, or_false] at hq; rcases hq with rfl | rfl | rfl <;> rfl) (ke _ rfl hR)
    · replace h := fg_iN c h
      refine bs_iconst (v := (nI 0)) dX5_measure_33 (by decide) ?_
      refine bs_istore_n dX5_measure_34 rfl (by decide) ?_
      refine bs_iconst (v := (nI 0)) dX5_measure_35 (by decide) ?_
      refine bs_istore dX5_measure_36 rfl (by decide) ?_
      obtain ⟨t16, k17, h⟩ := fg_bdE h
      refine bs_W.mk [(0, .ref (x + 26)), (1, .ref p1), (2, .int l2), (3, .int (nI 0)), (4, .int s.2.1), (5, .int (nI 0))] (by intro q hq; simp only [List.mem_cons, List.not_mem_nil, or_false] at hq; rcases hq with rfl | rfl | rfl | rfl | rfl | rfl <;> rfl) ?_
      refine wFX5_measure_l38_L20 HX h_p1 _ _ _ _ k17 hR ?_
      intro s e hR
      subst e
      refine fg_iinc (m := (nI 1)) dX5_measure_109 rfl rfl (by decide) ?_
      refine bs_goto (tgt := 20) dX5_measure_112 (by decide) ?_
      cases h
      refine bs_W.mk [(0, .ref (x + 26)), (1, .ref p1), (2, .int l2), (3, .int t16.1), (4, .int (s.2.1 + (nI 1)))] (by intro q hq; simp only [List.mem_cons, List.not_mem_nil, or_false] at hq; rcases hq with rfl | rfl | rfl | rfl | rfl <;> rfl) (by have k := ka _ rfl hR; dsimp only at k; exact k)
theorem wFX5_measure_l20 {nx : Nat} {sh : bs_Sh} {R : Nat → Nat → Option Nat} {x : Nat} (HX : fg_S (bs_tS x) R x sh) {p1 : Nat} (h_p1 : fg_F R sh p1) {l2 : Int32} {Ph : bs_Po} {t : bs_Mm} : ∀ n (y0 : Int32) (y1 : Int32) (mu1 : bs_Mm), fg_lp (FX5_measure_b20 x p1 l2) n (y0, y1, mu1) = some t → fg_R R mu1 → (ke : ∀ s, t = s → fg_R R s → bs_W Ph mX5_measure (bs_rm 1 0 0) 115 (bs_mk [(0, .ref (x + 26)), (1, .ref p1), (2, .int l2)]) [] 0 0 nx sh s) → bs_W Ph mX5_measure (bs_rm 1 0 0) 20 (bs_mk [(0, .ref (x + 26)), (1, .ref p1), (2, .int l2), (3, .int y0), (4, .int y1)]) [] 0 0 nx sh mu1 := by
  intro n
  induction n with
  | zero => intro y0 y1 mu1 h; exact absurd h (fun z => fg_lp0 z)
  | succ n ih =>
    intro y0 y1 mu1 h hR ke
    obtain ⟨r, hb, h1, h2⟩ := fg_lpE h
    exact wFX5_measure_b20 (s := (y0, y1, mu1)) HX h_p1 (fun s' e hR' => ih s'.1 s'.2.1 s'.2.2 (h1 s' e) hR' ke) (fun s' e => ke s' (h2 _ e).symm) hR hb
noncomputable def FX5_measure (x : Nat) (mu : bs_Mm) (p1 : Nat) (p2 : Int32) : Option (bs_Mm) :=
  fg_wf mu (x + 27) 30 (.int (-1)) (fun mu1 => 
  fg_gd (fg_in p2 30) (
  fg_wr mu1 (x + 27) p2.toNatClampNeg (.int (nI 0)) (fun mu3 => 
  fg_bd (fg_lp (FX5_measure_b20 x p1 p2) fg_fu ((nI 1), (nI 0), mu3)) (fun t18 => 
    some t18
  ))))
set_option maxHeartbeats 4000000 in
theorem wX5_measure {nx : Nat} {sh : bs_Sh} {R : Nat → Nat → Option Nat} {x : Nat} (HX : fg_S (bs_tS x) R x sh) {p1 : Nat} (h_p1 : fg_F R sh p1) {mu : bs_Mm} (hR : fg_R R mu) {p2 : Int32} {r : bs_Mm} (h : FX5_measure x mu p1 p2 = some r) : bs_C mX5_measure (bs_rm 1 0 0) [.ref (x + 26), .ref p1, .int p2] nx sh mu (fg_po R nx sh none r) := by
  refine bs_ct (by decide +kernel) (Nat.le_of_ble_eq_true rfl) ?_
  have kr : ∀ q, r = q → fg_R R q → (fg_po R nx sh none r) none nx sh q := fun q e hq => by subst e; exact ⟨rfl, rfl, rfl, rfl, hq⟩
  unfold FX5_measure at h
  refine bs_aload_n dX5_measure_0 rfl ?_
  refine fg_getR (b := (x + 27)) dX5_measure_1 fX5_9 (HX.s 26 rfl rfl rfl) hR (HX.r 26 0 rfl rfl rfl) ?_
  refine bs_iconst (v := (-1)) dX5_measure_4 (by decide) ?_
  refine fg_fill dX5_measure_5 qX5_45 (HX.ss 27 rfl rfl) (fun j => HX.n 27 j rfl rfl rfl) (by decide) (Nat.le_of_ble_eq_true rfl) (fg_cr (by first | decide | omega) (by decide)) hR h (fun mu1 hR h => ?_)
  refine bs_aload_n dX5_measure_8 rfl ?_
  refine fg_getR (b := (x + 27)) dX5_measure_9 fX5_9 (HX.s 26 rfl rfl rfl) hR (HX.r 26 0 rfl rfl rfl) ?_
  refine bs_iload_n dX5_measure_12 rfl ?_
  refine bs_iconst (v := (nI 0)) dX5_measure_13 (by decide) ?_
  obtain ⟨g2, h⟩ := fg_gdE h
  refine fg_iast dX5_measure_14 (HX.ss 27 rfl rfl) (fun j => HX.n 27 j rfl rfl rfl) g2 hR h (fun mu3 hR h => ?_)
  refine bs_iconst (v := (nI 1)) dX5_measure_15 (by decide) ?_
  refine bs_istore_n dX5_measure_16 rfl (by decide) ?_
  refine bs_iconst (v := (nI 0)) dX5_measure_17 (by decide) ?_
  refine bs_istore dX5_measure_18 rfl (by decide) ?_
  obtain ⟨t18, k19, h⟩ := fg_bdE h
  refine bs_W.mk [(0, .ref (x + 26)), (1, .ref p1), (2, .int p2), (3, .int (nI 1)), (4, .int (nI 0))] (by intro q hq; simp only [List.mem_cons, List.not_mem_nil, or_false] at hq; rcases hq with rfl | rfl | rfl | rfl | rfl <;> rfl) ?_
  refine wFX5_measure_l20 HX h_p1 _ _ _ _ k19 hR ?_
  intro s e hR
  subst e
  cases h
  exact bs_vret dX5_measure_115 rfl (Nat.zero_le _) (Nat.zero_le _) (kr _ rfl hR)
noncomputable def FX11_far (x : Nat) (mu : bs_Mm) (p1 : Int32) (p2 : Int32) (p3 : Int32) : Option (Int32 × bs_Mm) :=
  fg_bd (FX11_figureAt x mu p1) (fun v2 => 
  fg_oq v2 (
    some ((-1), mu)
  ) (fun b3 => fg_gd (fg_isF x b3) (
    fg_bd (FX1_hasPoint x b3 mu p2) (fun v6 => 
    if v6 = 0 then (
      some ((-1), mu)
    ) else (
      fg_bd (FX1_hasPoint x b3 mu p3) (fun v8 => 
      if v8 = 0 then (
        some ((-1), mu)
      ) else (
        fg_bd (FX5_measure x mu b3 p2) (fun mu10 => 
        fg_gd (fg_in p3 30) (
        some ((bs_iv (mu10 (x + 27) p3.toNatClampNeg)), mu10)))
      ))
    ))
  )))
set_option maxHeartbeats 4000000 in
theorem wX11_far {nx : Nat} {sh : bs_Sh} {R : Nat → Nat → Option Nat} {x : Nat} (HX : fg_S (bs_tS x) R x sh) {mu : bs_Mm} (hR : fg_R R mu) {p1 : Int32} {p2 : Int32} {p3 : Int32} {r : Int32 × bs_Mm} (h : FX11_far x mu p1 p2 p3 = some r) : bs_C mX11_far (bs_rm 2 0 0) [.ref x, .int p1, .int p2, .int p3] nx sh mu (fg_po R nx sh (some (.int r.1)) r.2) := by
  refine bs_ct (by decide +kernel) (Nat.le_of_ble_eq_true rfl) ?_
  have kr : ∀ q, r = q → fg_R R q.2 → (fg_po R nx sh (some (.int r.1)) r.2) (some (.int q.1)) nx sh q.2 := fun q e hq => by subst e; exact ⟨rfl, rfl, rfl, rfl, hq⟩
  unfold FX11_far at h
  refine bs_aload_n dX11_far_0 rfl ?_
  refine bs_iload_n dX11_far_1 rfl ?_
  obtain ⟨v2, k1, h⟩ := fg_bdE h
  refine fg_callV dX11_far_2 qX11_143 (wX11_figureAt HX hR k1) rfl (HX.s 0 rfl rfl rfl) rfl (Nat.le_of_ble_eq_true rfl) (fg_cr (by first | decide | omega) (by decide)) (fun hR => ?_)
  cases v2 with
  | none =>
    replace h := fg_oq0 h
    refine bs_astoreN dX11_far_5 rfl (by decide) ?_
    refine bs_aloadN dX11_far_7 rfl ?_
    refine bs_ifnullN (tgt := 30) dX11_far_9 (by decide) ?_
    refine bs_iconst (v := (-1)) dX11_far_30 (by decide) ?_
    cases h
    exact bs_iret dX11_far_31 rfl (Nat.zero_le _) (Nat.zero_le _) (kr _ rfl hR)
  | some b3 =>
    replace h := fg_oq1 h
    obtain ⟨g4, h⟩ := fg_gdE h
    have h_b3 := fg_isF_F HX g4
    refine bs_astore dX11_far_5 rfl (by decide) ?_
    refine bs_aload dX11_far_7 rfl ?_
    refine bs_ifnull dX11_far_9 ?_
    refine bs_aload dX11_far_12 rfl ?_
    refine bs_iload_n dX11_far_14 rfl ?_
    obtain ⟨v6, k5, h⟩ := fg_bdE h
    refine fg_callV dX11_far_15 qX11_198 (wX1_hasPoint HX h_b3 hR k5) rfl (h_b3.s0) rfl (Nat.le_of_ble_eq_true rfl) (fg_cr (by first | decide | omega) (by decide)) (fun hR => ?_)
    refine bs_if_eq (tgt := 30) dX11_far_18 (by decide) (fun c => ?_) (fun c => ?_)
    · replace h := fg_ip c h
      refine bs_iconst (v := (-1)) dX11_far_30 (by decide) ?_
      cases h
      exact bs_iret dX11_far_31 rfl (Nat.zero_le _) (Nat.zero_le _) (kr _ rfl hR)
    · replace h := fg_iN c h
      refine bs_aload dX11_far_21 rfl ?_
      refine bs_iload_n dX11_far_23 rfl ?_
      obtain ⟨v8, k7, h⟩ := fg_bdE h
      refine fg_callV dX11_far_24 qX11_198 (wX1_hasPoint HX h_b3 hR k7) rfl (h_b3.s0) rfl (Nat.le_of_ble_eq_true rfl) (fg_cr (by first | decide | omega) (by decide)) (fun hR => ?_)
      refine bs_if_ne (tgt := 32) dX11_far_27 (by decide) (fun c => ?_) (fun c => ?_)
      · replace h := fg_iN c h
        refine bs_aload_n dX11_far_32 rfl ?_
        refine fg_getR (b := (x + 26)) dX11_far_33 fX11_52 (HX.s 0 rfl rfl rfl) hR (HX.r 0 6 rfl rfl rfl) ?_
        refine bs_aload dX11_far_36 rfl ?_
        refine bs_iload_n dX11_far_38 rfl ?_
        obtain ⟨mu10, k9, h⟩ := fg_bdE h
        refine fg_callVv dX11_far_39 qX11_264 (wX5_measure HX h_b3 hR k9) rfl (HX.s 26 rfl rfl rfl) rfl (Nat.le_of_ble_eq_true rfl) (fg_cr (by first | decide | omega) (by decide)) (fun hR => ?_)
        refine bs_aload_n dX11_far_42 rfl ?_
        refine fg_getR (b := (x + 26)) dX11_far_43 fX11_52 (HX.s 0 rfl rfl rfl) hR (HX.r 0 6 rfl rfl rfl) ?_
        refine fg_getR (b := (x + 27)) dX11_far_46 fX11_268 (HX.s 26 rfl rfl rfl) hR (HX.r 26 0 rfl rfl rfl) ?_
        refine bs_iload_n dX11_far_49 rfl ?_
        obtain ⟨g11, h⟩ := fg_gdE h
        refine bs_iald dX11_far_50 (HX.ss 27 rfl rfl) (fg_in_ix g11) ?_
        cases h
        exact bs_iret dX11_far_51 rfl (Nat.zero_le _) (Nat.zero_le _) (kr _ rfl hR)
      · replace h := fg_ip c h
        refine bs_iconst (v := (-1)) dX11_far_30 (by decide) ?_
        cases h
        exact bs_iret dX11_far_31 rfl (Nat.zero_le _) (Nat.zero_le _) (kr _ rfl hR)
noncomputable def FX2_begin (x : Nat) (mu : bs_Mm) (p1 : Int32) : Option (bs_Mm) :=
  fg_bd (FX1_clear x (x + 10) mu) (fun mu2 => 
  fg_wf mu2 (x + 17) 30 (.int (nI 0)) (fun mu3 => 
  fg_wf mu3 (x + 18) 8 (.int (-1)) (fun mu4 => 
  fg_wr mu4 (x + 9) 4 (.int p1) (fun mu5 => 
  fg_wr mu5 (x + 9) 5 (.int (nI 0)) (fun mu6 => 
  fg_wr mu6 (x + 9) 6 (.int (nI 0)) (fun mu7 => 
  fg_wr mu7 (x + 9) 7 (.int (nI 0)) (fun mu8 => 
  fg_wr mu8 (x + 9) 8 (.int (nI 0)) (fun mu9 => 
  fg_wr mu9 (x + 9) 9 (.int (nI 0)) (fun mu10 => 
  fg_wr mu10 (x + 9) 10 (.int (nI 0)) (fun mu11 => 
  some mu11))))))))))
set_option maxHeartbeats 4000000 in
theorem wX2_begin {nx : Nat} {sh : bs_Sh} {R : Nat → Nat → Option Nat} {x : Nat} (HX : fg_S (bs_tS x) R x sh) {mu : bs_Mm} (hR : fg_R R mu) {p1 : Int32} {r : bs_Mm} (h : FX2_begin x mu p1 = some r) : bs_C mX2_begin (bs_rm 2 0 0) [.ref (x + 9), .int p1] nx sh mu (fg_po R nx sh none r) := by
  refine bs_ct (by decide +kernel) (Nat.le_of_ble_eq_true rfl) ?_
  have kr : ∀ q, r = q → fg_R R q → (fg_po R nx sh none r) none nx sh q := fun q e hq => by subst e; exact ⟨rfl, rfl, rfl, rfl, hq⟩
  unfold FX2_begin at h
  refine bs_aload_n dX2_begin_0 rfl ?_
  refine fg_getR (b := (x + 10)) dX2_begin_1 fX2_12 (HX.s 9 rfl rfl rfl) hR (HX.r 9 0 rfl rfl rfl) ?_
  obtain ⟨mu2, k1, h⟩ := fg_bdE h
  refine fg_callVv dX2_begin_4 qX2_64 (wX1_clear HX (fg_Fd HX) hR k1) rfl (HX.s 10 rfl rfl rfl) rfl (Nat.le_of_ble_eq_true rfl) (fg_cr (by first | decide | omega) (by decide)) (fun hR => ?_)
  refine bs_aload_n dX2_begin_7 rfl ?_
  refine fg_getR (b := (x + 17)) dX2_begin_8 fX2_18 (HX.s 9 rfl rfl rfl) hR (HX.r 9 1 rfl rfl rfl) ?_
  refine bs_iconst (v := (nI 0)) dX2_begin_11 (by decide) ?_
  refine fg_fill dX2_begin_12 qX2_67 (HX.ss 17 rfl rfl) (fun j => HX.n 17 j rfl rfl rfl) (by decide) (Nat.le_of_ble_eq_true rfl) (fg_cr (by first | decide | omega) (by decide)) hR h (fun mu3 hR h => ?_)
  refine bs_aload_n dX2_begin_15 rfl ?_
  refine fg_getR (b := (x + 18)) dX2_begin_16 fX2_22 (HX.s 9 rfl rfl rfl) hR (HX.r 9 2 rfl rfl rfl) ?_
  refine bs_iconst (v := (-1)) dX2_begin_19 (by decide) ?_
  refine fg_fill dX2_begin_20 qX2_67 (HX.ss 18 rfl rfl) (fun j => HX.n 18 j rfl rfl rfl) (by decide) (Nat.le_of_ble_eq_true rfl) (fg_cr (by first | decide | omega) (by decide)) hR h (fun mu4 hR h => ?_)
  refine bs_aload_n dX2_begin_23 rfl ?_
  refine bs_iload_n dX2_begin_24 rfl ?_
  refine fg_putI dX2_begin_25 pX2_73 (HX.s 9 rfl rfl rfl) (HX.n 9 4 rfl rfl rfl) hR h (fun mu5 hR h => ?_)
  refine bs_aload_n dX2_begin_28 rfl ?_
  refine bs_iconst (v := (nI 0)) dX2_begin_29 (by decide) ?_
  refine fg_putI dX2_begin_30 pX2_50 (HX.s 9 rfl rfl rfl) (HX.n 9 5 rfl rfl rfl) hR h (fun mu6 hR h => ?_)
  refine bs_aload_n dX2_begin_33 rfl ?_
  refine bs_iconst (v := (nI 0)) dX2_begin_34 (by decide) ?_
  refine fg_putI dX2_begin_35 pX2_76 (HX.s 9 rfl rfl rfl) (HX.n 9 6 rfl rfl rfl) hR h (fun mu7 hR h => ?_)
  refine bs_aload_n dX2_begin_38 rfl ?_
  refine bs_iconst (v := (nI 0)) dX2_begin_39 (by decide) ?_
  refine fg_putI dX2_begin_40 pX2_57 (HX.s 9 rfl rfl rfl) (HX.n 9 7 rfl rfl rfl) hR h (fun mu8 hR h => ?_)
  refine bs_aload_n dX2_begin_43 rfl ?_
  refine bs_iconst (v := (nI 0)) dX2_begin_44 (by decide) ?_
  refine fg_putI dX2_begin_45 pX2_79 (HX.s 9 rfl rfl rfl) (HX.n 9 8 rfl rfl rfl) hR h (fun mu9 hR h => ?_)
  refine bs_aload_n dX2_begin_48 rfl ?_
  refine bs_iconst (v := (nI 0)) dX2_begin_49 (by decide) ?_
  refine fg_putI dX2_begin_50 pX2_82 (HX.s 9 rfl rfl rfl) (HX.n 9 9 rfl rfl rfl) hR h (fun mu10 hR h => ?_)
  refine bs_aload_n dX2_begin_53 rfl ?_
  refine bs_iconst (v := (nI 0)) dX2_begin_54 (by decide) ?_
  refine fg_putZ dX2_begin_55 pX2_53 (HX.s 9 rfl rfl rfl) (HX.n 9 10 rfl rfl rfl) (Or.inl rfl) hR h (fun mu11 hR h => ?_)
  cases h
  exact bs_vret dX2_begin_58 rfl (Nat.zero_le _) (Nat.zero_le _) (kr _ rfl hR)
noncomputable def FX11_isDigit (x : Nat) (mu : bs_Mm) (p0 : Int32) : Option (Int32) :=
  if p0 < (nI 48) then (
    some ((nI 0))
  ) else (
    if (nI 57) < p0 then (
      some ((nI 0))
    ) else (
      some ((nI 1))
    )
  )
set_option maxHeartbeats 4000000 in
theorem wX11_isDigit {nx : Nat} {sh : bs_Sh} {R : Nat → Nat → Option Nat} {x : Nat} (HX : fg_S (bs_tS x) R x sh) {mu : bs_Mm} (hR : fg_R R mu) {p0 : Int32} {r : Int32} (h : FX11_isDigit x mu p0 = some r) : bs_C mX11_isDigit (bs_rm 0 0 0) [.int p0] nx sh mu (fg_po R nx sh (some (.int r)) mu) := by
  refine bs_ct (by decide +kernel) (Nat.le_of_ble_eq_true rfl) ?_
  have kr : ∀ q, r = q → fg_R R mu → (fg_po R nx sh (some (.int r)) mu) (some (.int q)) nx sh mu := fun q e hq => by subst e; exact ⟨rfl, rfl, rfl, rfl, hq⟩
  unfold FX11_isDigit at h
  refine bs_iload_n dX11_isDigit_0 rfl ?_
  refine bs_bipush (v := (nI 48)) dX11_isDigit_1 (by decide) ?_
  refine bs_icmp_lt (tgt := 16) dX11_isDigit_3 (by decide) (fun c => ?_) (fun c => ?_)
  · replace h := fg_ip c h
    refine bs_iconst (v := (nI 0)) dX11_isDigit_16 (by decide) ?_
    cases h
    exact bs_zret dX11_isDigit_17 rfl (Or.inl rfl) (Nat.zero_le _) (Nat.zero_le _) (kr _ rfl hR)
  · replace h := fg_iN c h
    refine bs_iload_n dX11_isDigit_6 rfl ?_
    refine bs_bipush (v := (nI 57)) dX11_isDigit_7 (by decide) ?_
    refine bs_icmp_gt (tgt := 16) dX11_isDigit_9 (by decide) (fun c => ?_) (fun c => ?_)
    · replace h := fg_ip c h
      refine bs_iconst (v := (nI 0)) dX11_isDigit_16 (by decide) ?_
      cases h
      exact bs_zret dX11_isDigit_17 rfl (Or.inl rfl) (Nat.zero_le _) (Nat.zero_le _) (kr _ rfl hR)
    · replace h := fg_iN c h
      refine bs_iconst (v := (nI 1)) dX11_isDigit_12 (by decide) ?_
      refine bs_goto (tgt := 17) dX11_isDigit_13 (by decide) ?_
      cases h
      exact bs_zret dX11_isDigit_17 rfl (Or.inr rfl) (Nat.zero_le _) (Nat.zero_le _) (kr _ rfl hR)
noncomputable def FX2_newPoint (x : Nat) (mu : bs_Mm) : Option (Int32 × bs_Mm) :=
  if (nI 30) ≤ (bs_iv (mu (x + 10) 8)) then (
    some (((bs_iv (mu (x + 10) 8)) - (nI 1)), mu)
  ) else (
    fg_wr mu (x + 10) 8 (.int ((bs_iv (mu (x + 10) 8)) + (nI 1))) (fun mu1 => 
    some (((bs_iv (mu1 (x + 10) 8)) - (nI 1)), mu1))
  )
set_option maxHeartbeats 4000000 in
theorem wX2_newPoint {nx : Nat} {sh : bs_Sh} {R : Nat → Nat → Option Nat} {x : Nat} (HX : fg_S (bs_tS x) R x sh) {mu : bs_Mm} (hR : fg_R R mu) {r : Int32 × bs_Mm} (h : FX2_newPoint x mu = some r) : bs_C mX2_newPoint (bs_rm 0 0 0) [.ref (x + 9)] nx sh mu (fg_po R nx sh (some (.int r.1)) r.2) := by
  refine bs_ct (by decide +kernel) (Nat.le_of_ble_eq_true rfl) ?_
  have kr : ∀ q, r = q → fg_R R q.2 → (fg_po R nx sh (some (.int r.1)) r.2) (some (.int q.1)) nx sh q.2 := fun q e hq => by subst e; exact ⟨rfl, rfl, rfl, rfl, hq⟩
  unfold FX2_newPoint at h
  refine bs_aload_n dX2_newPoint_0 rfl ?_
  refine fg_getR (b := (x + 10)) dX2_newPoint_1 fX2_12 (HX.s 9 rfl rfl rfl) hR (HX.r 9 0 rfl rfl rfl) ?_
  refine bs_getI dX2_newPoint_4 fX2_131 (HX.s 10 rfl rfl rfl) ?_
  refine bs_bipush (v := (nI 30)) dX2_newPoint_7 (by decide) ?_
  refine bs_icmp_ge (tgt := 25) dX2_newPoint_9 (by decide) (fun c => ?_) (fun c => ?_)
  · replace h := fg_ip c h
    refine bs_aload_n dX2_newPoint_25 rfl ?_
    refine fg_getR (b := (x + 10)) dX2_newPoint_26 fX2_12 (HX.s 9 rfl rfl rfl) hR (HX.r 9 0 rfl rfl rfl) ?_
    refine bs_getI dX2_newPoint_29 fX2_131 (HX.s 10 rfl rfl rfl) ?_
    refine bs_iconst (v := (nI 1)) dX2_newPoint_32 (by decide) ?_
    refine bs_isub dX2_newPoint_33 ?_
    cases h
    exact bs_iret dX2_newPoint_34 rfl (Nat.zero_le _) (Nat.zero_le _) (kr _ rfl hR)
  · replace h := fg_iN c h
    refine bs_aload_n dX2_newPoint_12 rfl ?_
    refine fg_getR (b := (x + 10)) dX2_newPoint_13 fX2_12 (HX.s 9 rfl rfl rfl) hR (HX.r 9 0 rfl rfl rfl) ?_
    refine bs_dup dX2_newPoint_16 rfl ?_
    refine bs_getI dX2_newPoint_17 fX2_131 (HX.s 10 rfl rfl rfl) ?_
    refine bs_iconst (v := (nI 1)) dX2_newPoint_20 (by decide) ?_
    refine bs_iadd dX2_newPoint_21 ?_
    refine fg_putI dX2_newPoint_22 pX2_131 (HX.s 10 rfl rfl rfl) (HX.n 10 8 rfl rfl rfl) hR h (fun mu1 hR h => ?_)
    refine bs_aload_n dX2_newPoint_25 rfl ?_
    refine fg_getR (b := (x + 10)) dX2_newPoint_26 fX2_12 (HX.s 9 rfl rfl rfl) hR (HX.r 9 0 rfl rfl rfl) ?_
    refine bs_getI dX2_newPoint_29 fX2_131 (HX.s 10 rfl rfl rfl) ?_
    refine bs_iconst (v := (nI 1)) dX2_newPoint_32 (by decide) ?_
    refine bs_isub dX2_newPoint_33 ?_
    cases h
    exact bs_iret dX2_newPoint_34 rfl (Nat.zero_le _) (Nat.zero_le _) (kr _ rfl hR)
noncomputable def FX2_makesBubble (x : Nat) (mu : bs_Mm) : Option (Int32 × bs_Mm) :=
  if (bs_iv (mu (x + 9) 9)) < (nI 1) then (
    some ((nI 0), mu)
  ) else (
    if (bs_iv (mu (x + 9) 9)) ≤ (nI 30) then (
      fg_b2 (FX2_newPoint x mu) (fun v3 mu2 => 
      fg_bd (FX1_makeBubble x (x + 10) mu2 (bs_iv (mu2 (x + 9) 9)) (bs_iv (mu2 (x + 9) 6)) v3) (fun mu5 => 
      fg_wr mu5 (x + 9) 6 (.int v3) (fun mu6 => 
      fg_wr mu6 (x + 9) 10 (.int (nI 0)) (fun mu7 => 
      some ((nI 1), mu7)))))
    ) else (
      some ((nI 0), mu)
    )
  )
set_option maxHeartbeats 4000000 in
theorem wX2_makesBubble {nx : Nat} {sh : bs_Sh} {R : Nat → Nat → Option Nat} {x : Nat} (HX : fg_S (bs_tS x) R x sh) {mu : bs_Mm} (hR : fg_R R mu) {r : Int32 × bs_Mm} (h : FX2_makesBubble x mu = some r) : bs_C mX2_makesBubble (bs_rm 2 0 0) [.ref (x + 9)] nx sh mu (fg_po R nx sh (some (.int r.1)) r.2) := by
  refine bs_ct (by decide +kernel) (Nat.le_of_ble_eq_true rfl) ?_
  have kr : ∀ q, r = q → fg_R R q.2 → (fg_po R nx sh (some (.int r.1)) r.2) (some (.int q.1)) nx sh q.2 := fun q e hq => by subst e; exact ⟨rfl, rfl, rfl, rfl, hq⟩
  unfold FX2_makesBubble at h
  refine bs_aload_n dX2_makesBubble_0 rfl ?_
  refine bs_getI dX2_makesBubble_1 fX2_82 (HX.s 9 rfl rfl rfl) ?_
  refine bs_iconst (v := (nI 1)) dX2_makesBubble_4 (by decide) ?_
  refine bs_icmp_lt (tgt := 17) dX2_makesBubble_5 (by decide) (fun c => ?_) (fun c => ?_)
  · replace h := fg_ip c h
    refine bs_iconst (v := (nI 0)) dX2_makesBubble_17 (by decide) ?_
    cases h
    exact bs_zret dX2_makesBubble_18 rfl (Or.inl rfl) (Nat.zero_le _) (Nat.zero_le _) (kr _ rfl hR)
  · replace h := fg_iN c h
    refine bs_aload_n dX2_makesBubble_8 rfl ?_
    refine bs_getI dX2_makesBubble_9 fX2_82 (HX.s 9 rfl rfl rfl) ?_
    refine bs_bipush (v := (nI 30)) dX2_makesBubble_12 (by decide) ?_
    refine bs_icmp_le (tgt := 19) dX2_makesBubble_14 (by decide) (fun c => ?_) (fun c => ?_)
    · replace h := fg_ip c h
      refine bs_aload_n dX2_makesBubble_19 rfl ?_
      obtain ⟨v3, mu2, k1, h⟩ := fg_b2E h
      refine fg_callV dX2_makesBubble_20 qX2_97 (wX2_newPoint HX hR k1) rfl (HX.s 9 rfl rfl rfl) rfl (Nat.le_of_ble_eq_true rfl) (fg_cr (by first | decide | omega) (by decide)) (fun hR => ?_)
      refine bs_istore_n dX2_makesBubble_23 rfl (by decide) ?_
      refine bs_aload_n dX2_makesBubble_24 rfl ?_
      refine fg_getR (b := (x + 10)) dX2_makesBubble_25 fX2_12 (HX.s 9 rfl rfl rfl) hR (HX.r 9 0 rfl rfl rfl) ?_
      refine bs_aload_n dX2_makesBubble_28 rfl ?_
      refine bs_getI dX2_makesBubble_29 fX2_82 (HX.s 9 rfl rfl rfl) ?_
      refine bs_aload_n dX2_makesBubble_32 rfl ?_
      refine bs_getI dX2_makesBubble_33 fX2_76 (HX.s 9 rfl rfl rfl) ?_
      refine bs_iload_n dX2_makesBubble_36 rfl ?_
      obtain ⟨mu5, k4, h⟩ := fg_bdE h
      refine fg_callVv dX2_makesBubble_37 qX2_108 (wX1_makeBubble HX (fg_Fd HX) hR k4) rfl (HX.s 10 rfl rfl rfl) rfl (Nat.le_of_ble_eq_true rfl) (fg_cr (by first | decide | omega) (by decide)) (fun hR => ?_)
      refine bs_aload_n dX2_makesBubble_40 rfl ?_
      refine bs_iload_n dX2_makesBubble_41 rfl ?_
      refine fg_putI dX2_makesBubble_42 pX2_76 (HX.s 9 rfl rfl rfl) (HX.n 9 6 rfl rfl rfl) hR h (fun mu6 hR h => ?_)
      refine bs_aload_n dX2_makesBubble_45 rfl ?_
      refine bs_iconst (v := (nI 0)) dX2_makesBubble_46 (by decide) ?_
      refine fg_putZ dX2_makesBubble_47 pX2_53 (HX.s 9 rfl rfl rfl) (HX.n 9 10 rfl rfl rfl) (Or.inl rfl) hR h (fun mu7 hR h => ?_)
      refine bs_iconst (v := (nI 1)) dX2_makesBubble_50 (by decide) ?_
      cases h
      exact bs_zret dX2_makesBubble_51 rfl (Or.inr rfl) (Nat.zero_le _) (Nat.zero_le _) (kr _ rfl hR)
    · replace h := fg_iN c h
      refine bs_iconst (v := (nI 0)) dX2_makesBubble_17 (by decide) ?_
      cases h
      exact bs_zret dX2_makesBubble_18 rfl (Or.inl rfl) (Nat.zero_le _) (Nat.zero_le _) (kr _ rfl hR)
noncomputable def FX2_takesDigit_j50 (x : Nat) (mu : bs_Mm) (l2 : Int32) (t1 : Int32) : Option (Int32 × bs_Mm) :=
  fg_wr mu (x + 9) 9 (.int t1) (fun mu1 => 
  fg_wr mu1 (x + 9) 8 (.int ((bs_iv (mu1 (x + 9) 8)) + (nI 1))) (fun mu2 => 
  if (bs_iv (mu2 (x + 9) 8)) = (nI 1) then (
    if l2 = 0 then (
      fg_b2 (FX2_makesBubble x mu2) (fun v9 mu8 => 
      fg_gd (decide (v9 = 0 ∨ v9 = 1)) (
      some (v9, mu8)))
    ) else (
      some ((nI 1), mu2)
    )
  ) else (
    fg_b2 (FX2_makesBubble x mu2) (fun v5 mu4 => 
    fg_gd (decide (v5 = 0 ∨ v5 = 1)) (
    some (v5, mu4)))
  )))
set_option maxHeartbeats 4000000 in
theorem wFX2_takesDigit_j50 {nx : Nat} {sh : bs_Sh} {R : Nat → Nat → Option Nat} {x : Nat} (HX : fg_S (bs_tS x) R x sh) {mu : bs_Mm} {l2 : Int32} {t1 : Int32} {Ph : bs_Po} {r : Int32 × bs_Mm} (kr : ∀ q, r = q → fg_R R q.2 → Ph (some (.int q.1)) nx sh q.2) (hR : fg_R R mu) (h : FX2_takesDigit_j50 x mu l2 t1 = some r) : bs_W Ph mX2_takesDigit (bs_rm 3 0 0) 50 (bs_mk [(0, .ref (x + 9)), (2, .int l2)]) [.int t1, .ref (x + 9)] 0 0 nx sh mu := by
  unfold FX2_takesDigit_j50 at h
  refine fg_putI dX2_takesDigit_50 pX2_82 (HX.s 9 rfl rfl rfl) (HX.n 9 9 rfl rfl rfl) hR h (fun mu1 hR h => ?_)
  refine bs_aload_n dX2_takesDigit_53 rfl ?_
  refine bs_dup dX2_takesDigit_54 rfl ?_
  refine bs_getI dX2_takesDigit_55 fX2_79 (HX.s 9 rfl rfl rfl) ?_
  refine bs_iconst (v := (nI 1)) dX2_takesDigit_58 (by decide) ?_
  refine bs_iadd dX2_takesDigit_59 ?_
  refine fg_putI dX2_takesDigit_60 pX2_79 (HX.s 9 rfl rfl rfl) (HX.n 9 8 rfl rfl rfl) hR h (fun mu2 hR h => ?_)
  refine bs_aload_n dX2_takesDigit_63 rfl ?_
  refine bs_getI dX2_takesDigit_64 fX2_79 (HX.s 9 rfl rfl rfl) ?_
  refine bs_iconst (v := (nI 1)) dX2_takesDigit_67 (by decide) ?_
  refine bs_icmp_ne (tgt := 77) dX2_takesDigit_68 (by decide) (fun c => ?_) (fun c => ?_)
  · replace h := fg_iN c h
    refine bs_aload_n dX2_takesDigit_77 rfl ?_
    obtain ⟨v5, mu4, k3, h⟩ := fg_b2E h
    refine fg_callV dX2_takesDigit_78 qX2_104 (wX2_makesBubble HX hR k3) rfl (HX.s 9 rfl rfl rfl) rfl (Nat.le_of_ble_eq_true rfl) (fg_cr (by first | decide | omega) (by decide)) (fun hR => ?_)
    obtain ⟨g6, h⟩ := fg_gdE h
    cases h
    exact bs_zret dX2_takesDigit_81 rfl (of_decide_eq_true g6) (Nat.zero_le _) (Nat.zero_le _) (kr _ rfl hR)
  · replace h := fg_ip c h
    refine bs_iload_n dX2_takesDigit_71 rfl ?_
    refine bs_if_eq (tgt := 77) dX2_takesDigit_72 (by decide) (fun c => ?_) (fun c => ?_)
    · replace h := fg_ip c h
      refine bs_aload_n dX2_takesDigit_77 rfl ?_
      obtain ⟨v9, mu8, k7, h⟩ := fg_b2E h
      refine fg_callV dX2_takesDigit_78 qX2_104 (wX2_makesBubble HX hR k7) rfl (HX.s 9 rfl rfl rfl) rfl (Nat.le_of_ble_eq_true rfl) (fg_cr (by first | decide | omega) (by decide)) (fun hR => ?_)
      obtain ⟨g10, h⟩ := fg_gdE h
      cases h
      exact bs_zret dX2_takesDigit_81 rfl (of_decide_eq_true g10) (Nat.zero_le _) (Nat.zero_le _) (kr _ rfl hR)
    · replace h := fg_iN c h
      refine bs_iconst (v := (nI 1)) dX2_takesDigit_75 (by decide) ?_
      cases h
      exact bs_zret dX2_takesDigit_76 rfl (Or.inr rfl) (Nat.zero_le _) (Nat.zero_le _) (kr _ rfl hR)
noncomputable def FX2_takesDigit_j29 (x : Nat) (mu : bs_Mm) (l1 : Int32) (l2 : Int32) : Option (Int32 × bs_Mm) :=
  if (bs_iv (mu (x + 9) 8)) = 0 then (
    FX2_takesDigit_j50 x mu l2 l1
  ) else (
    FX2_takesDigit_j50 x mu l2 (((bs_iv (mu (x + 9) 9)) * (nI 10)) + l1)
  )
set_option maxHeartbeats 4000000 in
theorem wFX2_takesDigit_j29 {nx : Nat} {sh : bs_Sh} {R : Nat → Nat → Option Nat} {x : Nat} (HX : fg_S (bs_tS x) R x sh) {mu : bs_Mm} {l1 : Int32} {l2 : Int32} {Ph : bs_Po} {r : Int32 × bs_Mm} (kr : ∀ q, r = q → fg_R R q.2 → Ph (some (.int q.1)) nx sh q.2) (hR : fg_R R mu) (h : FX2_takesDigit_j29 x mu l1 l2 = some r) : bs_W Ph mX2_takesDigit (bs_rm 3 0 0) 29 (bs_mk [(0, .ref (x + 9)), (1, .int l1), (2, .int l2)]) [] 0 0 nx sh mu := by
  unfold FX2_takesDigit_j29 at h
  refine bs_aload_n dX2_takesDigit_29 rfl ?_
  refine bs_aload_n dX2_takesDigit_30 rfl ?_
  refine bs_getI dX2_takesDigit_31 fX2_79 (HX.s 9 rfl rfl rfl) ?_
  refine bs_if_ne (tgt := 41) dX2_takesDigit_34 (by decide) (fun c => ?_) (fun c => ?_)
  · replace h := fg_iN c h
    refine bs_aload_n dX2_takesDigit_41 rfl ?_
    refine bs_getI dX2_takesDigit_42 fX2_82 (HX.s 9 rfl rfl rfl) ?_
    refine bs_bipush (v := (nI 10)) dX2_takesDigit_45 (by decide) ?_
    refine bs_imul dX2_takesDigit_47 ?_
    refine bs_iload_n dX2_takesDigit_48 rfl ?_
    refine bs_iadd dX2_takesDigit_49 ?_
    refine bs_W.mk [(0, .ref (x + 9)), (2, .int l2)] (by intro q hq; simp only [List.mem_cons, List.not_mem_nil, or_false] at hq; rcases hq with rfl | rfl <;> rfl) ?_
    exact wFX2_takesDigit_j50 HX kr hR h
  · replace h := fg_ip c h
    refine bs_iload_n dX2_takesDigit_37 rfl ?_
    refine bs_goto (tgt := 50) dX2_takesDigit_38 (by decide) ?_
    refine bs_W.mk [(0, .ref (x + 9)), (2, .int l2)] (by intro q hq; simp only [List.mem_cons, List.not_mem_nil, or_false] at hq; rcases hq with rfl | rfl <;> rfl) ?_
    exact wFX2_takesDigit_j50 HX kr hR h
noncomputable def FX2_takesDigit (x : Nat) (mu : bs_Mm) (p1 : Int32) (p2 : Int32) : Option (Int32 × bs_Mm) :=
  if (bs_iv (mu (x + 9) 8)) = (nI 2) then (
    some ((nI 0), mu)
  ) else (
    if (bs_iv (mu (x + 9) 8)) = 0 then (
      if (bs_iv (mu (x + 10) 7)) < (nI 24) then (
        FX2_takesDigit_j29 x mu p1 p2
      ) else (
        some ((nI 0), mu)
      )
    ) else (
      FX2_takesDigit_j29 x mu p1 p2
    )
  )
set_option maxHeartbeats 4000000 in
theorem wX2_takesDigit {nx : Nat} {sh : bs_Sh} {R : Nat → Nat → Option Nat} {x : Nat} (HX : fg_S (bs_tS x) R x sh) {mu : bs_Mm} (hR : fg_R R mu) {p1 : Int32} {p2 : Int32} {r : Int32 × bs_Mm} (h : FX2_takesDigit x mu p1 p2 = some r) : bs_C mX2_takesDigit (bs_rm 3 0 0) [.ref (x + 9), .int p1, .int p2] nx sh mu (fg_po R nx sh (some (.int r.1)) r.2) := by
  refine bs_ct (by decide +kernel) (Nat.le_of_ble_eq_true rfl) ?_
  have kr : ∀ q, r = q → fg_R R q.2 → (fg_po R nx sh (some (.int r.1)) r.2) (some (.int q.1)) nx sh q.2 := fun q e hq => by subst e; exact ⟨rfl, rfl, rfl, rfl, hq⟩
  unfold FX2_takesDigit at h
  refine bs_aload_n dX2_takesDigit_0 rfl ?_
  refine bs_getI dX2_takesDigit_1 fX2_79 (HX.s 9 rfl rfl rfl) ?_
  refine bs_iconst (v := (nI 2)) dX2_takesDigit_4 (by decide) ?_
  refine bs_icmp_eq (tgt := 27) dX2_takesDigit_5 (by decide) (fun c => ?_) (fun c => ?_)
  · replace h := fg_ip c h
    refine bs_iconst (v := (nI 0)) dX2_takesDigit_27 (by decide) ?_
    cases h
    exact bs_zret dX2_takesDigit_28 rfl (Or.inl rfl) (Nat.zero_le _) (Nat.zero_le _) (kr _ rfl hR)
  · replace h := fg_iN c h
    refine bs_aload_n dX2_takesDigit_8 rfl ?_
    refine bs_getI dX2_takesDigit_9 fX2_79 (HX.s 9 rfl rfl rfl) ?_
    refine bs_if_ne (tgt := 29) dX2_takesDigit_12 (by decide) (fun c => ?_) (fun c => ?_)
    · replace h := fg_iN c h
      refine bs_W.mk [(0, .ref (x + 9)), (1, .int p1), (2, .int p2)] (by intro q hq; simp only [List.mem_cons, List.not_mem_nil, or_false] at hq; rcases hq with rfl | rfl | rfl <;> rfl) ?_
      exact wFX2_takesDigit_j29 HX kr hR h
    · replace h := fg_ip c h
      refine bs_aload_n dX2_takesDigit_15 rfl ?_
      refine fg_getR (b := (x + 10)) dX2_takesDigit_16 fX2_12 (HX.s 9 rfl rfl rfl) hR (HX.r 9 0 rfl rfl rfl) ?_
      refine bs_getI dX2_takesDigit_19 fX2_101 (HX.s 10 rfl rfl rfl) ?_
      refine bs_bipush (v := (nI 24)) dX2_takesDigit_22 (by decide) ?_
      refine bs_icmp_lt (tgt := 29) dX2_takesDigit_24 (by decide) (fun c => ?_) (fun c => ?_)
      · replace h := fg_ip c h
        refine bs_W.mk [(0, .ref (x + 9)), (1, .int p1), (2, .int p2)] (by intro q hq; simp only [List.mem_cons, List.not_mem_nil, or_false] at hq; rcases hq with rfl | rfl | rfl <;> rfl) ?_
        exact wFX2_takesDigit_j29 HX kr hR h
      · replace h := fg_iN c h
        refine bs_iconst (v := (nI 0)) dX2_takesDigit_27 (by decide) ?_
        cases h
        exact bs_zret dX2_takesDigit_28 rfl (Or.inl rfl) (Nat.zero_le _) (Nat.zero_le _) (kr _ rfl hR)
noncomputable def FX2_takesSort (x : Nat) (mu : bs_Mm) (p1 : Int32) : Option (Int32 × bs_Mm) :=
  if p1 < 0 then (
    some ((nI 0), mu)
  ) else (
    if p1 < (bs_iv (mu (x + 9) 4)) then (
      fg_bd (FX1_startBalloon x (x + 10) mu p1) (fun mu2 => 
      fg_b2 (FX2_newPoint x mu2) (fun v5 mu4 => 
      fg_wr mu4 (x + 9) 6 (.int v5) (fun mu6 => 
      fg_wr mu6 (x + 9) 5 (.int (nI 2)) (fun mu7 => 
      fg_wr mu7 (x + 9) 10 (.int (nI 1)) (fun mu8 => 
      some ((nI 1), mu8))))))
    ) else (
      some ((nI 0), mu)
    )
  )
set_option maxHeartbeats 4000000 in
theorem wX2_takesSort {nx : Nat} {sh : bs_Sh} {R : Nat → Nat → Option Nat} {x : Nat} (HX : fg_S (bs_tS x) R x sh) {mu : bs_Mm} (hR : fg_R R mu) {p1 : Int32} {r : Int32 × bs_Mm} (h : FX2_takesSort x mu p1 = some r) : bs_C mX2_takesSort (bs_rm 1 0 0) [.ref (x + 9), .int p1] nx sh mu (fg_po R nx sh (some (.int r.1)) r.2) := by
  refine bs_ct (by decide +kernel) (Nat.le_of_ble_eq_true rfl) ?_
  have kr : ∀ q, r = q → fg_R R q.2 → (fg_po R nx sh (some (.int r.1)) r.2) (some (.int q.1)) nx sh q.2 := fun q e hq => by subst e; exact ⟨rfl, rfl, rfl, rfl, hq⟩
  unfold FX2_takesSort at h
  refine bs_iload_n dX2_takesSort_0 rfl ?_
  refine bs_if_lt (tgt := 12) dX2_takesSort_1 (by decide) (fun c => ?_) (fun c => ?_)
  · replace h := fg_ip c h
    refine bs_iconst (v := (nI 0)) dX2_takesSort_12 (by decide) ?_
    cases h
    exact bs_zret dX2_takesSort_13 rfl (Or.inl rfl) (Nat.zero_le _) (Nat.zero_le _) (kr _ rfl hR)
  · replace h := fg_iN c h
    refine bs_iload_n dX2_takesSort_4 rfl ?_
    refine bs_aload_n dX2_takesSort_5 rfl ?_
    refine bs_getI dX2_takesSort_6 fX2_73 (HX.s 9 rfl rfl rfl) ?_
    refine bs_icmp_lt (tgt := 14) dX2_takesSort_9 (by decide) (fun c => ?_) (fun c => ?_)
    · replace h := fg_ip c h
      refine bs_aload_n dX2_takesSort_14 rfl ?_
      refine fg_getR (b := (x + 10)) dX2_takesSort_15 fX2_12 (HX.s 9 rfl rfl rfl) hR (HX.r 9 0 rfl rfl rfl) ?_
      refine bs_iload_n dX2_takesSort_18 rfl ?_
      obtain ⟨mu2, k1, h⟩ := fg_bdE h
      refine fg_callVv dX2_takesSort_19 qX2_94 (wX1_startBalloon HX (fg_Fd HX) hR k1) rfl (HX.s 10 rfl rfl rfl) rfl (Nat.le_of_ble_eq_true rfl) (fg_cr (by first | decide | omega) (by decide)) (fun hR => ?_)
      refine bs_aload_n dX2_takesSort_22 rfl ?_
      refine bs_aload_n dX2_takesSort_23 rfl ?_
      obtain ⟨v5, mu4, k3, h⟩ := fg_b2E h
      refine fg_callV dX2_takesSort_24 qX2_97 (wX2_newPoint HX hR k3) rfl (HX.s 9 rfl rfl rfl) rfl (Nat.le_of_ble_eq_true rfl) (fg_cr (by first | decide | omega) (by decide)) (fun hR => ?_)
      refine fg_putI dX2_takesSort_27 pX2_76 (HX.s 9 rfl rfl rfl) (HX.n 9 6 rfl rfl rfl) hR h (fun mu6 hR h => ?_)
      refine bs_aload_n dX2_takesSort_30 rfl ?_
      refine bs_iconst (v := (nI 2)) dX2_takesSort_31 (by decide) ?_
      refine fg_putI dX2_takesSort_32 pX2_50 (HX.s 9 rfl rfl rfl) (HX.n 9 5 rfl rfl rfl) hR h (fun mu7 hR h => ?_)
      refine bs_aload_n dX2_takesSort_35 rfl ?_
      refine bs_iconst (v := (nI 1)) dX2_takesSort_36 (by decide) ?_
      refine fg_putZ dX2_takesSort_37 pX2_53 (HX.s 9 rfl rfl rfl) (HX.n 9 10 rfl rfl rfl) (Or.inr rfl) hR h (fun mu8 hR h => ?_)
      refine bs_iconst (v := (nI 1)) dX2_takesSort_40 (by decide) ?_
      cases h
      exact bs_zret dX2_takesSort_41 rfl (Or.inr rfl) (Nat.zero_le _) (Nat.zero_le _) (kr _ rfl hR)
    · replace h := fg_iN c h
      refine bs_iconst (v := (nI 0)) dX2_takesSort_12 (by decide) ?_
      cases h
      exact bs_zret dX2_takesSort_13 rfl (Or.inl rfl) (Nat.zero_le _) (Nat.zero_le _) (kr _ rfl hR)
noncomputable def FX1_moveEnds_j35_L2 (x : Nat) (f : Nat) (mu : bs_Mm) (l1 : Int32) (l2 : Int32) (l3 : Int32) (t1 : Int32) (t2 : Int32) : Option ((Int32 × bs_Mm) ⊕ (bs_Mm)) :=
  fg_gd (fg_in t1 24) (
  fg_wr mu (f + 3) t1.toNatClampNeg (.int t2) (fun mu4 => 
  fg_gd (fg_in l3 24) (
  if (bs_iv (mu4 (f + 4) l3.toNatClampNeg)) = l1 then (
    fg_gd (fg_in l3 24) (
    fg_wr mu4 (f + 4) l3.toNatClampNeg (.int l2) (fun mu10 => 
    some (.inl ((l3 + (nI 1)), mu10))))
  ) else (
    fg_gd (fg_in l3 24) (
    fg_gd (fg_in l3 24) (
    fg_wr mu4 (f + 4) l3.toNatClampNeg (.int (bs_iv (mu4 (f + 4) l3.toNatClampNeg))) (fun mu8 => 
    some (.inl ((l3 + (nI 1)), mu8)))))
  ))))
set_option maxHeartbeats 4000000 in
theorem wFX1_moveEnds_j35_L2 {nx : Nat} {sh : bs_Sh} {R : Nat → Nat → Option Nat} {x : Nat} (HX : fg_S (bs_tS x) R x sh) {f : Nat} (h_f : fg_F R sh f) {mu : bs_Mm} {l1 : Int32} {l2 : Int32} {l3 : Int32} {t1 : Int32} {t2 : Int32} {Ph : bs_Po} {r : (Int32 × bs_Mm) ⊕ (bs_Mm)} (ka : ∀ s, r = .inl s → fg_R R s.2 → bs_W Ph mX1_moveEnds (bs_rm 0 0 0) 2 (bs_mk [(0, .ref f), (1, .int l1), (2, .int l2), (3, .int s.1)]) [] 0 0 nx sh s.2) (ke : ∀ s, r = .inr s → fg_R R s → bs_W Ph mX1_moveEnds (bs_rm 0 0 0) 68 (bs_mk [(0, .ref f), (1, .int l1), (2, .int l2)]) [] 0 0 nx sh s) (hR : fg_R R mu) (h : FX1_moveEnds_j35_L2 x f mu l1 l2 l3 t1 t2 = some r) : bs_W Ph mX1_moveEnds (bs_rm 0 0 0) 35 (bs_mk [(0, .ref f), (1, .int l1), (2, .int l2), (3, .int l3)]) [.int t2, .int t1, .ref (f + 3)] 0 0 nx sh mu := by
  unfold FX1_moveEnds_j35_L2 at h
  obtain ⟨g3, h⟩ := fg_gdE h
  refine fg_iast dX1_moveEnds_35 (h_f.s3) (h_f.j3) g3 hR h (fun mu4 hR h => ?_)
  refine bs_aload_n dX1_moveEnds_36 rfl ?_
  refine fg_getR (b := (f + 4)) dX1_moveEnds_37 fX1_21 (h_f.s0) hR (h_f.r3) ?_
  refine bs_iload_n dX1_moveEnds_40 rfl ?_
  refine bs_aload_n dX1_moveEnds_41 rfl ?_
  refine fg_getR (b := (f + 4)) dX1_moveEnds_42 fX1_21 (h_f.s0) hR (h_f.r3) ?_
  refine bs_iload_n dX1_moveEnds_45 rfl ?_
  obtain ⟨g5, h⟩ := fg_gdE h
  refine bs_iald dX1_moveEnds_46 (h_f.s4) (fg_in_ix g5) ?_
  refine bs_iload_n dX1_moveEnds_47 rfl ?_
  refine bs_icmp_ne (tgt := 55) dX1_moveEnds_48 (by decide) (fun c => ?_) (fun c => ?_)
  · replace h := fg_iN c h
    refine bs_aload_n dX1_moveEnds_55 rfl ?_
    refine fg_getR (b := (f + 4)) dX1_moveEnds_56 fX1_21 (h_f.s0) hR (h_f.r3) ?_
    refine bs_iload_n dX1_moveEnds_59 rfl ?_
    obtain ⟨g6, h⟩ := fg_gdE h
    refine bs_iald dX1_moveEnds_60 (h_f.s4) (fg_in_ix g6) ?_
    obtain ⟨g7, h⟩ := fg_gdE h
    refine fg_iast dX1_moveEnds_61 (h_f.s4) (h_f.j4) g7 hR h (fun mu8 hR h => ?_)
    refine fg_iinc (m := (nI 1)) dX1_moveEnds_62 rfl rfl (by decide) ?_
    refine bs_goto (tgt := 2) dX1_moveEnds_65 (by decide) ?_
    cases h
    refine bs_W.mk [(0, .ref f), (1, .int l1), (2, .int l2), (3, .int (l3 + (nI 1)))] (by intro q hq; simp only [List.mem_cons, List.not_mem_nil, or_false] at hq; rcases hq with rfl | rfl | rfl | rfl <;> rfl) (by have k := ka _ rfl hR; dsimp only at k; exact k)
  · replace h := fg_ip c h
    refine bs_iload_n dX1_moveEnds_51 rfl ?_
    refine bs_goto (tgt := 61) dX1_moveEnds_52 (by decide) ?_
    obtain ⟨g9, h⟩ := fg_gdE h
    refine fg_iast dX1_moveEnds_61 (h_f.s4) (h_f.j4) g9 hR h (fun mu10 hR h => ?_)
    refine fg_iinc (m := (nI 1)) dX1_moveEnds_62 rfl rfl (by decide) ?_
    refine bs_goto (tgt := 2) dX1_moveEnds_65 (by decide) ?_
    cases h
    refine bs_W.mk [(0, .ref f), (1, .int l1), (2, .int l2), (3, .int (l3 + (nI 1)))] (by intro q hq; simp only [List.mem_cons, List.not_mem_nil, or_false] at hq; rcases hq with rfl | rfl | rfl | rfl <;> rfl) (by have k := ka _ rfl hR; dsimp only at k; exact k)
noncomputable def FX1_moveEnds_b2 (x : Nat) (f : Nat)  (l1 : Int32) (l2 : Int32) (s : Int32 × bs_Mm) : Option ((Int32 × bs_Mm) ⊕ (bs_Mm)) :=
  if (bs_iv (s.2 f 7)) ≤ s.1 then (
    some (.inr s.2)
  ) else (
    fg_gd (fg_in s.1 24) (
    if (bs_iv (s.2 (f + 3) s.1.toNatClampNeg)) = l1 then (
      FX1_moveEnds_j35_L2 x f s.2 l1 l2 s.1 s.1 l2
    ) else (
      fg_gd (fg_in s.1 24) (
      FX1_moveEnds_j35_L2 x f s.2 l1 l2 s.1 s.1 (bs_iv (s.2 (f + 3) s.1.toNatClampNeg)))
    ))
  )
set_option maxHeartbeats 4000000 in
theorem wFX1_moveEnds_b2 {nx : Nat} {sh : bs_Sh} {R : Nat → Nat → Option Nat} {x : Nat} (HX : fg_S (bs_tS x) R x sh) {f : Nat} (h_f : fg_F R sh f) {l1 : Int32} {l2 : Int32} {Ph : bs_Po} {s : Int32 × bs_Mm} {r : (Int32 × bs_Mm) ⊕ (bs_Mm)} (ka : ∀ s, r = .inl s → fg_R R s.2 → bs_W Ph mX1_moveEnds (bs_rm 0 0 0) 2 (bs_mk [(0, .ref f), (1, .int l1), (2, .int l2), (3, .int s.1)]) [] 0 0 nx sh s.2) (ke : ∀ s, r = .inr s → fg_R R s → bs_W Ph mX1_moveEnds (bs_rm 0 0 0) 68 (bs_mk [(0, .ref f), (1, .int l1), (2, .int l2)]) [] 0 0 nx sh s) (hR : fg_R R s.2) (h : FX1_moveEnds_b2 x f l1 l2 s = some r) : bs_W Ph mX1_moveEnds (bs_rm 0 0 0) 2 (bs_mk [(0, .ref f), (1, .int l1), (2, .int l2), (3, .int s.1)]) [] 0 0 nx sh s.2 := by
  unfold FX1_moveEnds_b2 at h
  refine bs_iload_n dX1_moveEnds_2 rfl ?_
  refine bs_aload_n dX1_moveEnds_3 rfl ?_
  refine bs_getI dX1_moveEnds_4 fX1_40 (h_f.s0) ?_
  refine bs_icmp_ge (tgt := 68) dX1_moveEnds_7 (by decide) (fun c => ?_) (fun c => ?_)
  · replace h := fg_ip c h
    cases h
    refine bs_W.mk [(0, .ref f), (1, .int l1), (2, .int l2)] (by intro q hq; simp only [List.mem_cons, List.not_mem_nil, or_false] at hq; rcases hq with rfl | rfl | rfl <;> rfl) (ke _ rfl hR)
  · replace h := fg_iN c h
    refine bs_aload_n dX1_moveEnds_10 rfl ?_
    refine fg_getR (b := (f + 3)) dX1_moveEnds_11 fX1_18 (h_f.s0) hR (h_f.r2) ?_
    refine bs_iload_n dX1_moveEnds_14 rfl ?_
    refine bs_aload_n dX1_moveEnds_15 rfl ?_
    refine fg_getR (b := (f + 3)) dX1_moveEnds_16 fX1_18 (h_f.s0) hR (h_f.r2) ?_
    refine bs_iload_n dX1_moveEnds_19 rfl ?_
    obtain ⟨g1, h⟩ := fg_gdE h
    refine bs_iald dX1_moveEnds_20 (h_f.s3) (fg_in_ix g1) ?_
    refine bs_iload_n dX1_moveEnds_21 rfl ?_
    refine bs_icmp_ne (tgt := 29) dX1_moveEnds_22 (by decide) (fun c => ?_) (fun c => ?_)
    · replace h := fg_iN c h
      refine bs_aload_n dX1_moveEnds_29 rfl ?_
      refine fg_getR (b := (f + 3)) dX1_moveEnds_30 fX1_18 (h_f.s0) hR (h_f.r2) ?_
      refine bs_iload_n dX1_moveEnds_33 rfl ?_
      obtain ⟨g2, h⟩ := fg_gdE h
      refine bs_iald dX1_moveEnds_34 (h_f.s3) (fg_in_ix g2) ?_
      refine bs_W.mk [(0, .ref f), (1, .int l1), (2, .int l2), (3, .int s.1)] (by intro q hq; simp only [List.mem_cons, List.not_mem_nil, or_false] at hq; rcases hq with rfl | rfl | rfl | rfl <;> rfl) ?_
      exact wFX1_moveEnds_j35_L2 HX h_f ka ke hR h
    · replace h := fg_ip c h
      refine bs_iload_n dX1_moveEnds_25 rfl ?_
      refine bs_goto (tgt := 35) dX1_moveEnds_26 (by decide) ?_
      refine bs_W.mk [(0, .ref f), (1, .int l1), (2, .int l2), (3, .int s.1)] (by intro q hq; simp only [List.mem_cons, List.not_mem_nil, or_false] at hq; rcases hq with rfl | rfl | rfl | rfl <;> rfl) ?_
      exact wFX1_moveEnds_j35_L2 HX h_f ka ke hR h
theorem wFX1_moveEnds_l2 {nx : Nat} {sh : bs_Sh} {R : Nat → Nat → Option Nat} {x : Nat} (HX : fg_S (bs_tS x) R x sh) {f : Nat} (h_f : fg_F R sh f) {l1 : Int32} {l2 : Int32} {Ph : bs_Po} {t : bs_Mm} : ∀ n (y0 : Int32) (mu1 : bs_Mm), fg_lp (FX1_moveEnds_b2 x f l1 l2) n (y0, mu1) = some t → fg_R R mu1 → (ke : ∀ s, t = s → fg_R R s → bs_W Ph mX1_moveEnds (bs_rm 0 0 0) 68 (bs_mk [(0, .ref f), (1, .int l1), (2, .int l2)]) [] 0 0 nx sh s) → bs_W Ph mX1_moveEnds (bs_rm 0 0 0) 2 (bs_mk [(0, .ref f), (1, .int l1), (2, .int l2), (3, .int y0)]) [] 0 0 nx sh mu1 := by
  intro n
  induction n with
  | zero => intro y0 mu1 h; exact absurd h (fun z => fg_lp0 z)
  | succ n ih =>
    intro y0 mu1 h hR ke
    obtain ⟨r, hb, h1, h2⟩ := fg_lpE h
    exact wFX1_moveEnds_b2 (s := (y0, mu1)) HX h_f (fun s' e hR' => ih s'.1 s'.2 (h1 s' e) hR' ke) (fun s' e => ke s' (h2 _ e).symm) hR hb
noncomputable def FX1_moveEnds (x : Nat) (f : Nat) (mu : bs_Mm) (p1 : Int32) (p2 : Int32) : Option (bs_Mm) :=
  fg_bd (fg_lp (FX1_moveEnds_b2 x f p1 p2) fg_fu ((nI 0), mu)) (fun t11 => 
    fg_gd (fg_in p2 30) (
    fg_gd (fg_in p1 30) (
    fg_gd (fg_in p2 30) (
    fg_wr t11 (f + 6) p2.toNatClampNeg (.int ((bs_iv (t11 (f + 6) p2.toNatClampNeg)) + (bs_iv (t11 (f + 6) p1.toNatClampNeg)))) (fun mu16 => 
    fg_gd (fg_in p1 30) (
    fg_wr mu16 (f + 6) p1.toNatClampNeg (.int (nI 0)) (fun mu18 => 
    some mu18))))))
  )
set_option maxHeartbeats 4000000 in
theorem wX1_moveEnds {nx : Nat} {sh : bs_Sh} {R : Nat → Nat → Option Nat} {x : Nat} (HX : fg_S (bs_tS x) R x sh) {f : Nat} (h_f : fg_F R sh f) {mu : bs_Mm} (hR : fg_R R mu) {p1 : Int32} {p2 : Int32} {r : bs_Mm} (h : FX1_moveEnds x f mu p1 p2 = some r) : bs_C mX1_moveEnds (bs_rm 0 0 0) [.ref f, .int p1, .int p2] nx sh mu (fg_po R nx sh none r) := by
  refine bs_ct (by decide +kernel) (Nat.le_of_ble_eq_true rfl) ?_
  have kr : ∀ q, r = q → fg_R R q → (fg_po R nx sh none r) none nx sh q := fun q e hq => by subst e; exact ⟨rfl, rfl, rfl, rfl, hq⟩
  unfold FX1_moveEnds at h
  refine bs_iconst (v := (nI 0)) dX1_moveEnds_0 (by decide) ?_
  refine bs_istore_n dX1_moveEnds_1 rfl (by decide) ?_
  obtain ⟨t11, k12, h⟩ := fg_bdE h
  refine bs_W.mk [(0, .ref f), (1, .int p1), (2, .int p2), (3, .int (nI 0))] (by intro q hq; simp only [List.mem_cons, List.not_mem_nil, or_false] at hq; rcases hq with rfl | rfl | rfl | rfl <;> rfl) ?_
  refine wFX1_moveEnds_l2 HX h_f _ _ _ k12 hR ?_
  intro s e hR
  subst e
  refine bs_aload_n dX1_moveEnds_68 rfl ?_
  refine fg_getR (b := (f + 6)) dX1_moveEnds_69 fX1_27 (h_f.s0) hR (h_f.r5) ?_
  refine bs_iload_n dX1_moveEnds_72 rfl ?_
  refine bs_dup2 dX1_moveEnds_73 rfl rfl ?_
  obtain ⟨g13, h⟩ := fg_gdE h
  refine bs_iald dX1_moveEnds_74 (h_f.s6) (fg_in_ix g13) ?_
  refine bs_aload_n dX1_moveEnds_75 rfl ?_
  refine fg_getR (b := (f + 6)) dX1_moveEnds_76 fX1_27 (h_f.s0) hR (h_f.r5) ?_
  refine bs_iload_n dX1_moveEnds_79 rfl ?_
  obtain ⟨g14, h⟩ := fg_gdE h
  refine bs_iald dX1_moveEnds_80 (h_f.s6) (fg_in_ix g14) ?_
  refine bs_iadd dX1_moveEnds_81 ?_
  obtain ⟨g15, h⟩ := fg_gdE h
  refine fg_iast dX1_moveEnds_82 (h_f.s6) (h_f.j6) g15 hR h (fun mu16 hR h => ?_)
  refine bs_aload_n dX1_moveEnds_83 rfl ?_
  refine fg_getR (b := (f + 6)) dX1_moveEnds_84 fX1_27 (h_f.s0) hR (h_f.r5) ?_
  refine bs_iload_n dX1_moveEnds_87 rfl ?_
  refine bs_iconst (v := (nI 0)) dX1_moveEnds_88 (by decide) ?_
  obtain ⟨g17, h⟩ := fg_gdE h
  refine fg_iast dX1_moveEnds_89 (h_f.s6) (h_f.j6) g17 hR h (fun mu18 hR h => ?_)
  cases h
  exact bs_vret dX1_moveEnds_90 rfl (Nat.zero_le _) (Nat.zero_le _) (kr _ rfl hR)
noncomputable def FX2_renameIn_b3 (x : Nat) (n0 : Nat) (p0 : Nat)  (l1 : Int32) (l2 : Int32) (l3 : Int32) (s : Int32 × bs_Mm) : Option ((Int32 × bs_Mm) ⊕ (bs_Mm)) :=
  if l1 ≤ s.1 then (
    some (.inr s.2)
  ) else (
    fg_gd (fg_in s.1 n0) (
    if (bs_iv (s.2 p0 s.1.toNatClampNeg)) = l2 then (
      fg_gd (fg_in s.1 n0) (
      fg_wr s.2 p0 s.1.toNatClampNeg (.int l3) (fun mu6 => 
      some (.inl ((s.1 + (nI 1)), mu6))))
    ) else (
      fg_gd (fg_in s.1 n0) (
      fg_gd (fg_in s.1 n0) (
      fg_wr s.2 p0 s.1.toNatClampNeg (.int (bs_iv (s.2 p0 s.1.toNatClampNeg))) (fun mu4 => 
      some (.inl ((s.1 + (nI 1)), mu4)))))
    ))
  )
set_option maxHeartbeats 4000000 in
theorem wFX2_renameIn_b3 {nx : Nat} {sh : bs_Sh} {R : Nat → Nat → Option Nat} {x : Nat} (HX : fg_S (bs_tS x) R x sh) {n0 : Nat} {p0 : Nat} (h_p0 : fg_A R sh p0 n0) {l1 : Int32} {l2 : Int32} {l3 : Int32} {Ph : bs_Po} {s : Int32 × bs_Mm} {r : (Int32 × bs_Mm) ⊕ (bs_Mm)} (ka : ∀ s, r = .inl s → fg_R R s.2 → bs_W Ph mX2_renameIn (bs_rm 0 0 0) 3 (bs_mk [(0, .ref p0), (1, .int l1), (2, .int l2), (3, .int l3), (4, .int s.1)]) [] 0 0 nx sh s.2) (ke : ∀ s, r = .inr s → fg_R R s → bs_W Ph mX2_renameIn (bs_rm 0 0 0) 35 (bs_mk [(0, .ref p0), (1, .int l1), (2, .int l2), (3, .int l3)]) [] 0 0 nx sh s) (hR : fg_R R s.2) (h : FX2_renameIn_b3 x n0 p0 l1 l2 l3 s = some r) : bs_W Ph mX2_renameIn (bs_rm 0 0 0) 3 (bs_mk [(0, .ref p0), (1, .int l1), (2, .int l2), (3, .int l3), (4, .int s.1)]) [] 0 0 nx sh s.2 := by
  unfold FX2_renameIn_b3 at h
  refine bs_iload dX2_renameIn_3 rfl ?_
  refine bs_iload_n dX2_renameIn_5 rfl ?_
  refine bs_icmp_ge (tgt := 35) dX2_renameIn_6 (by decide) (fun c => ?_) (fun c => ?_)
  · replace h := fg_ip c h
    cases h
    refine bs_W.mk [(0, .ref p0), (1, .int l1), (2, .int l2), (3, .int l3)] (by intro q hq; simp only [List.mem_cons, List.not_mem_nil, or_false] at hq; rcases hq with rfl | rfl | rfl | rfl <;> rfl) (ke _ rfl hR)
  · replace h := fg_iN c h
    refine bs_aload_n dX2_renameIn_9 rfl ?_
    refine bs_iload dX2_renameIn_10 rfl ?_
    refine bs_aload_n dX2_renameIn_12 rfl ?_
    refine bs_iload dX2_renameIn_13 rfl ?_
    obtain ⟨g1, h⟩ := fg_gdE h
    refine bs_iald dX2_renameIn_15 (h_p0.1) (fg_in_ix g1) ?_
    refine bs_iload_n dX2_renameIn_16 rfl ?_
    refine bs_icmp_ne (tgt := 24) dX2_renameIn_17 (by decide) (fun c => ?_) (fun c => ?_)
    · replace h := fg_iN c h
      refine bs_aload_n dX2_renameIn_24 rfl ?_
      refine bs_iload dX2_renameIn_25 rfl ?_
      obtain ⟨g2, h⟩ := fg_gdE h
      refine bs_iald dX2_renameIn_27 (h_p0.1) (fg_in_ix g2) ?_
      obtain ⟨g3, h⟩ := fg_gdE h
      refine fg_iast dX2_renameIn_28 (h_p0.1) (h_p0.2.1) g3 hR h (fun mu4 hR h => ?_)
      refine fg_iinc (m := (nI 1)) dX2_renameIn_29 rfl rfl (by decide) ?_
      refine bs_goto (tgt := 3) dX2_renameIn_32 (by decide) ?_
      cases h
      refine bs_W.mk [(0, .ref p0), (1, .int l1), (2, .int l2), (3, .int l3), (4, .int (s.1 + (nI 1)))] (by intro q hq; simp only [List.mem_cons, List.not_mem_nil, or_false] at hq; rcases hq with rfl | rfl | rfl | rfl | rfl <;> rfl) (by have k := ka _ rfl hR; dsimp only at k; exact k)
    · replace h := fg_ip c h
      refine bs_iload_n dX2_renameIn_20 rfl ?_
      refine bs_goto (tgt := 28) dX2_renameIn_21 (by decide) ?_
      obtain ⟨g5, h⟩ := fg_gdE h
      refine fg_iast dX2_renameIn_28 (h_p0.1) (h_p0.2.1) g5 hR h (fun mu6 hR h => ?_)
      refine fg_iinc (m := (nI 1)) dX2_renameIn_29 rfl rfl (by decide) ?_
      refine bs_goto (tgt := 3) dX2_renameIn_32 (by decide) ?_
      cases h
      refine bs_W.mk [(0, .ref p0), (1, .int l1), (2, .int l2), (3, .int l3), (4, .int (s.1 + (nI 1)))] (by intro q hq; simp only [List.mem_cons, List.not_mem_nil, or_false] at hq; rcases hq with rfl | rfl | rfl | rfl | rfl <;> rfl) (by have k := ka _ rfl hR; dsimp only at k; exact k)
theorem wFX2_renameIn_l3 {nx : Nat} {sh : bs_Sh} {R : Nat → Nat → Option Nat} {x : Nat} (HX : fg_S (bs_tS x) R x sh) {n0 : Nat} {p0 : Nat} (h_p0 : fg_A R sh p0 n0) {l1 : Int32} {l2 : Int32} {l3 : Int32} {Ph : bs_Po} {t : bs_Mm} : ∀ n (y0 : Int32) (mu1 : bs_Mm), fg_lp (FX2_renameIn_b3 x n0 p0 l1 l2 l3) n (y0, mu1) = some t → fg_R R mu1 → (ke : ∀ s, t = s → fg_R R s → bs_W Ph mX2_renameIn (bs_rm 0 0 0) 35 (bs_mk [(0, .ref p0), (1, .int l1), (2, .int l2), (3, .int l3)]) [] 0 0 nx sh s) → bs_W Ph mX2_renameIn (bs_rm 0 0 0) 3 (bs_mk [(0, .ref p0), (1, .int l1), (2, .int l2), (3, .int l3), (4, .int y0)]) [] 0 0 nx sh mu1 := by
  intro n
  induction n with
  | zero => intro y0 mu1 h; exact absurd h (fun z => fg_lp0 z)
  | succ n ih =>
    intro y0 mu1 h hR ke
    obtain ⟨r, hb, h1, h2⟩ := fg_lpE h
    exact wFX2_renameIn_b3 (s := (y0, mu1)) HX h_p0 (fun s' e hR' => ih s'.1 s'.2 (h1 s' e) hR' ke) (fun s' e => ke s' (h2 _ e).symm) hR hb
noncomputable def FX2_renameIn (x : Nat) (mu : bs_Mm) (p0 : Nat) (n0 : Nat) (p1 : Int32) (p2 : Int32) (p3 : Int32) : Option (bs_Mm) :=
  fg_bd (fg_lp (FX2_renameIn_b3 x n0 p0 p1 p2 p3) fg_fu ((nI 0), mu)) (fun t7 => 
    some t7
  )
set_option maxHeartbeats 4000000 in
theorem wX2_renameIn {nx : Nat} {sh : bs_Sh} {R : Nat → Nat → Option Nat} {x : Nat} (HX : fg_S (bs_tS x) R x sh) {n0 : Nat} {p0 : Nat} (h_p0 : fg_A R sh p0 n0) {mu : bs_Mm} (hR : fg_R R mu) {p1 : Int32} {p2 : Int32} {p3 : Int32} {r : bs_Mm} (h : FX2_renameIn x mu p0 n0 p1 p2 p3 = some r) : bs_C mX2_renameIn (bs_rm 0 0 0) [.ref p0, .int p1, .int p2, .int p3] nx sh mu (fg_po R nx sh none r) := by
  refine bs_ct (by decide +kernel) (Nat.le_of_ble_eq_true rfl) ?_
  have kr : ∀ q, r = q → fg_R R q → (fg_po R nx sh none r) none nx sh q := fun q e hq => by subst e; exact ⟨rfl, rfl, rfl, rfl, hq⟩
  unfold FX2_renameIn at h
  refine bs_iconst (v := (nI 0)) dX2_renameIn_0 (by decide) ?_
  refine bs_istore dX2_renameIn_1 rfl (by decide) ?_
  obtain ⟨t7, k8, h⟩ := fg_bdE h
  refine bs_W.mk [(0, .ref p0), (1, .int p1), (2, .int p2), (3, .int p3), (4, .int (nI 0))] (by intro q hq; simp only [List.mem_cons, List.not_mem_nil, or_false] at hq; rcases hq with rfl | rfl | rfl | rfl | rfl <;> rfl) ?_
  refine wFX2_renameIn_l3 HX h_p0 _ _ _ k8 hR ?_
  intro s e hR
  subst e
  cases h
  exact bs_vret dX2_renameIn_35 rfl (Nat.zero_le _) (Nat.zero_le _) (kr _ rfl hR)
noncomputable def FX2_join (x : Nat) (mu : bs_Mm) (p1 : Int32) (p2 : Int32) : Option (bs_Mm) :=
  if p1 = p2 then (
    some mu
  ) else (
    fg_bd (FX1_moveEnds x (x + 10) mu (if p1 < p2 then p2 else p1) (if p2 < p1 then p2 else p1)) (fun mu2 => 
    fg_gd (fg_in (if p1 < p2 then p2 else p1) 30) (
    fg_wr mu2 (x + 17) (if p1 < p2 then p2 else p1).toNatClampNeg (.int (-1)) (fun mu4 => 
    fg_bd (FX2_renameIn x mu4 (x + 18) 8 (nI 8) (if p1 < p2 then p2 else p1) (if p2 < p1 then p2 else p1)) (fun mu6 => 
    fg_bd (FX2_renameIn x mu6 (x + 19) 6 (bs_iv (mu6 (x + 9) 7)) (if p1 < p2 then p2 else p1) (if p2 < p1 then p2 else p1)) (fun mu8 => 
    if (bs_iv (mu8 (x + 9) 6)) = (if p1 < p2 then p2 else p1) then (
      fg_wr mu8 (x + 9) 6 (.int (if p2 < p1 then p2 else p1)) (fun mu10 => 
      some mu10)
    ) else (
      fg_wr mu8 (x + 9) 6 (.int (bs_iv (mu8 (x + 9) 6))) (fun mu9 => 
      some mu9)
    ))))))
  )
set_option maxHeartbeats 4000000 in
theorem wX2_join {nx : Nat} {sh : bs_Sh} {R : Nat → Nat → Option Nat} {x : Nat} (HX : fg_S (bs_tS x) R x sh) {mu : bs_Mm} (hR : fg_R R mu) {p1 : Int32} {p2 : Int32} {r : bs_Mm} (h : FX2_join x mu p1 p2 = some r) : bs_C mX2_join (bs_rm 1 0 0) [.ref (x + 9), .int p1, .int p2] nx sh mu (fg_po R nx sh none r) := by
  refine bs_ct (by decide +kernel) (Nat.le_of_ble_eq_true rfl) ?_
  have kr : ∀ q, r = q → fg_R R q → (fg_po R nx sh none r) none nx sh q := fun q e hq => by subst e; exact ⟨rfl, rfl, rfl, rfl, hq⟩
  unfold FX2_join at h
  refine bs_iload_n dX2_join_0 rfl ?_
  refine bs_iload_n dX2_join_1 rfl ?_
  refine bs_icmp_ne (tgt := 6) dX2_join_2 (by decide) (fun c => ?_) (fun c => ?_)
  · replace h := fg_iN c h
    refine bs_iload_n dX2_join_6 rfl ?_
    refine bs_iload_n dX2_join_7 rfl ?_
    refine bs_mmin dX2_join_8 xX2_134 (by first | decide | (simp only [bs_rm]; omega)) (by first | exact Nat.le_of_ble_eq_true rfl | (simp only [bs_rm, List.map, List.sum_cons, List.sum_nil, Value.category]; omega)) (Nat.zero_le _) (Nat.zero_le _) ?_
    refine bs_istore_n dX2_join_11 rfl (by decide) ?_
    refine bs_iload_n dX2_join_12 rfl ?_
    refine bs_iload_n dX2_join_13 rfl ?_
    refine bs_mmax dX2_join_14 xX2_140 (by first | decide | (simp only [bs_rm]; omega)) (by first | exact Nat.le_of_ble_eq_true rfl | (simp only [bs_rm, List.map, List.sum_cons, List.sum_nil, Value.category]; omega)) (Nat.zero_le _) (Nat.zero_le _) ?_
    refine bs_istore dX2_join_17 rfl (by decide) ?_
    refine bs_aload_n dX2_join_19 rfl ?_
    refine fg_getR (b := (x + 10)) dX2_join_20 fX2_12 (HX.s 9 rfl rfl rfl) hR (HX.r 9 0 rfl rfl rfl) ?_
    refine bs_iload dX2_join_23 rfl ?_
    refine bs_iload_n dX2_join_25 rfl ?_
    obtain ⟨mu2, k1, h⟩ := fg_bdE h
    refine fg_callVv dX2_join_26 qX2_143 (wX1_moveEnds HX (fg_Fd HX) hR k1) rfl (HX.s 10 rfl rfl rfl) rfl (Nat.le_of_ble_eq_true rfl) (fg_cr (by first | decide | omega) (by decide)) (fun hR => ?_)
    refine bs_aload_n dX2_join_29 rfl ?_
    refine fg_getR (b := (x + 17)) dX2_join_30 fX2_18 (HX.s 9 rfl rfl rfl) hR (HX.r 9 1 rfl rfl rfl) ?_
    refine bs_iload dX2_join_33 rfl ?_
    refine bs_iconst (v := (-1)) dX2_join_35 (by decide) ?_
    obtain ⟨g3, h⟩ := fg_gdE h
    refine fg_iast dX2_join_36 (HX.ss 17 rfl rfl) (fun j => HX.n 17 j rfl rfl rfl) g3 hR h (fun mu4 hR h => ?_)
    refine bs_aload_n dX2_join_37 rfl ?_
    refine fg_getR (b := (x + 18)) dX2_join_38 fX2_22 (HX.s 9 rfl rfl rfl) hR (HX.r 9 2 rfl rfl rfl) ?_
    refine bs_bipush (v := (nI 8)) dX2_join_41 (by decide) ?_
    refine bs_iload dX2_join_43 rfl ?_
    refine bs_iload_n dX2_join_45 rfl ?_
    obtain ⟨mu6, k5, h⟩ := fg_bdE h
    refine fg_callSv dX2_join_46 qX2_146 (wX2_renameIn HX ⟨(HX.ss 18 rfl rfl), (fun j => HX.n 18 j rfl rfl rfl), by decide⟩ hR k5) rfl rfl (Nat.le_of_ble_eq_true rfl) (fg_cr (by first | decide | omega) (by decide)) (fun hR => ?_)
    refine bs_aload_n dX2_join_49 rfl ?_
    refine fg_getR (b := (x + 19)) dX2_join_50 fX2_25 (HX.s 9 rfl rfl rfl) hR (HX.r 9 3 rfl rfl rfl) ?_
    refine bs_aload_n dX2_join_53 rfl ?_
    refine bs_getI dX2_join_54 fX2_57 (HX.s 9 rfl rfl rfl) ?_
    refine bs_iload dX2_join_57 rfl ?_
    refine bs_iload_n dX2_join_59 rfl ?_
    obtain ⟨mu8, k7, h⟩ := fg_bdE h
    refine fg_callSv dX2_join_60 qX2_146 (wX2_renameIn HX ⟨(HX.ss 19 rfl rfl), (fun j => HX.n 19 j rfl rfl rfl), by decide⟩ hR k7) rfl rfl (Nat.le_of_ble_eq_true rfl) (fg_cr (by first | decide | omega) (by decide)) (fun hR => ?_)
    refine bs_aload_n dX2_join_63 rfl ?_
    refine bs_aload_n dX2_join_64 rfl ?_
    refine bs_getI dX2_join_65 fX2_76 (HX.s 9 rfl rfl rfl) ?_
    refine bs_iload dX2_join_68 rfl ?_
    refine bs_icmp_ne (tgt := 77) dX2_join_70 (by decide) (fun c => ?_) (fun c => ?_)
    · replace h := fg_iN c h
      refine bs_aload_n dX2_join_77 rfl ?_
      refine bs_getI dX2_join_78 fX2_76 (HX.s 9 rfl rfl rfl) ?_
      refine fg_putI dX2_join_81 pX2_76 (HX.s 9 rfl rfl rfl) (HX.n 9 6 rfl rfl rfl) hR h (fun mu9 hR h => ?_)
      cases h
      exact bs_vret dX2_join_84 rfl (Nat.zero_le _) (Nat.zero_le _) (kr _ rfl hR)
    · replace h := fg_ip c h
      refine bs_iload_n dX2_join_73 rfl ?_
      refine bs_goto (tgt := 81) dX2_join_74 (by decide) ?_
      refine fg_putI dX2_join_81 pX2_76 (HX.s 9 rfl rfl rfl) (HX.n 9 6 rfl rfl rfl) hR h (fun mu10 hR h => ?_)
      cases h
      exact bs_vret dX2_join_84 rfl (Nat.zero_le _) (Nat.zero_le _) (kr _ rfl hR)
  · replace h := fg_ip c h
    cases h
    exact bs_vret dX2_join_5 rfl (Nat.zero_le _) (Nat.zero_le _) (kr _ rfl hR)
noncomputable def FX2_nameHere (x : Nat) (mu : bs_Mm) (p1 : Int32) : Option (bs_Mm) :=
  fg_wr mu (x + 9) 10 (.int (nI 0)) (fun mu1 => 
  fg_gd (fg_in p1 8) (
  if (bs_iv (mu1 (x + 18) p1.toNatClampNeg)) = (-1) then (
    fg_gd (fg_in p1 8) (
    fg_wr mu1 (x + 18) p1.toNatClampNeg (.int (bs_iv (mu1 (x + 9) 6))) (fun mu7 => 
    some mu7))
  ) else (
    fg_gd (fg_in p1 8) (
    fg_bd (FX2_join x mu1 (bs_iv (mu1 (x + 18) p1.toNatClampNeg)) (bs_iv (mu1 (x + 9) 6))) (fun mu5 => 
    some mu5))
  )))
set_option maxHeartbeats 4000000 in
theorem wX2_nameHere {nx : Nat} {sh : bs_Sh} {R : Nat → Nat → Option Nat} {x : Nat} (HX : fg_S (bs_tS x) R x sh) {mu : bs_Mm} (hR : fg_R R mu) {p1 : Int32} {r : bs_Mm} (h : FX2_nameHere x mu p1 = some r) : bs_C mX2_nameHere (bs_rm 2 0 0) [.ref (x + 9), .int p1] nx sh mu (fg_po R nx sh none r) := by
  refine bs_ct (by decide +kernel) (Nat.le_of_ble_eq_true rfl) ?_
  have kr : ∀ q, r = q → fg_R R q → (fg_po R nx sh none r) none nx sh q := fun q e hq => by subst e; exact ⟨rfl, rfl, rfl, rfl, hq⟩
  unfold FX2_nameHere at h
  refine bs_aload_n dX2_nameHere_0 rfl ?_
  refine bs_iconst (v := (nI 0)) dX2_nameHere_1 (by decide) ?_
  refine fg_putZ dX2_nameHere_2 pX2_53 (HX.s 9 rfl rfl rfl) (HX.n 9 10 rfl rfl rfl) (Or.inl rfl) hR h (fun mu1 hR h => ?_)
  refine bs_aload_n dX2_nameHere_5 rfl ?_
  refine fg_getR (b := (x + 18)) dX2_nameHere_6 fX2_22 (HX.s 9 rfl rfl rfl) hR (HX.r 9 2 rfl rfl rfl) ?_
  refine bs_iload_n dX2_nameHere_9 rfl ?_
  obtain ⟨g2, h⟩ := fg_gdE h
  refine bs_iald dX2_nameHere_10 (HX.ss 18 rfl rfl) (fg_in_ix g2) ?_
  refine bs_iconst (v := (-1)) dX2_nameHere_11 (by decide) ?_
  refine bs_icmp_ne (tgt := 28) dX2_nameHere_12 (by decide) (fun c => ?_) (fun c => ?_)
  · replace h := fg_iN c h
    refine bs_aload_n dX2_nameHere_28 rfl ?_
    refine bs_aload_n dX2_nameHere_29 rfl ?_
    refine fg_getR (b := (x + 18)) dX2_nameHere_30 fX2_22 (HX.s 9 rfl rfl rfl) hR (HX.r 9 2 rfl rfl rfl) ?_
    refine bs_iload_n dX2_nameHere_33 rfl ?_
    obtain ⟨g3, h⟩ := fg_gdE h
    refine bs_iald dX2_nameHere_34 (HX.ss 18 rfl rfl) (fg_in_ix g3) ?_
    refine bs_aload_n dX2_nameHere_35 rfl ?_
    refine bs_getI dX2_nameHere_36 fX2_76 (HX.s 9 rfl rfl rfl) ?_
    obtain ⟨mu5, k4, h⟩ := fg_bdE h
    refine fg_callVv dX2_nameHere_39 qX2_124 (wX2_join HX hR k4) rfl (HX.s 9 rfl rfl rfl) rfl (Nat.le_of_ble_eq_true rfl) (fg_cr (by first | decide | omega) (by decide)) (fun hR => ?_)
    cases h
    exact bs_vret dX2_nameHere_42 rfl (Nat.zero_le _) (Nat.zero_le _) (kr _ rfl hR)
  · replace h := fg_ip c h
    refine bs_aload_n dX2_nameHere_15 rfl ?_
    refine fg_getR (b := (x + 18)) dX2_nameHere_16 fX2_22 (HX.s 9 rfl rfl rfl) hR (HX.r 9 2 rfl rfl rfl) ?_
    refine bs_iload_n dX2_nameHere_19 rfl ?_
    refine bs_aload_n dX2_nameHere_20 rfl ?_
    refine bs_getI dX2_nameHere_21 fX2_76 (HX.s 9 rfl rfl rfl) ?_
    obtain ⟨g6, h⟩ := fg_gdE h
    refine fg_iast dX2_nameHere_24 (HX.ss 18 rfl rfl) (fun j => HX.n 18 j rfl rfl rfl) g6 hR h (fun mu7 hR h => ?_)
    refine bs_goto (tgt := 42) dX2_nameHere_25 (by decide) ?_
    cases h
    exact bs_vret dX2_nameHere_42 rfl (Nat.zero_le _) (Nat.zero_le _) (kr _ rfl hR)
noncomputable def FX2_opens (x : Nat) (mu : bs_Mm) : Option (Int32 × bs_Mm) :=
  if (bs_iv (mu (x + 9) 7)) < (nI 6) then (
    fg_gd (fg_in (bs_iv (mu (x + 9) 7)) 6) (
    fg_wr mu (x + 19) (bs_iv (mu (x + 9) 7)).toNatClampNeg (.int (bs_iv (mu (x + 9) 6))) (fun mu2 => 
    fg_wr mu2 (x + 9) 7 (.int ((bs_iv (mu2 (x + 9) 7)) + (nI 1))) (fun mu3 => 
    fg_wr mu3 (x + 9) 10 (.int (nI 1)) (fun mu4 => 
    some ((nI 1), mu4)))))
  ) else (
    some ((nI 0), mu)
  )
set_option maxHeartbeats 4000000 in
theorem wX2_opens {nx : Nat} {sh : bs_Sh} {R : Nat → Nat → Option Nat} {x : Nat} (HX : fg_S (bs_tS x) R x sh) {mu : bs_Mm} (hR : fg_R R mu) {r : Int32 × bs_Mm} (h : FX2_opens x mu = some r) : bs_C mX2_opens (bs_rm 0 0 0) [.ref (x + 9)] nx sh mu (fg_po R nx sh (some (.int r.1)) r.2) := by
  refine bs_ct (by decide +kernel) (Nat.le_of_ble_eq_true rfl) ?_
  have kr : ∀ q, r = q → fg_R R q.2 → (fg_po R nx sh (some (.int r.1)) r.2) (some (.int q.1)) nx sh q.2 := fun q e hq => by subst e; exact ⟨rfl, rfl, rfl, rfl, hq⟩
  unfold FX2_opens at h
  refine bs_aload_n dX2_opens_0 rfl ?_
  refine bs_getI dX2_opens_1 fX2_57 (HX.s 9 rfl rfl rfl) ?_
  refine bs_bipush (v := (nI 6)) dX2_opens_4 (by decide) ?_
  refine bs_icmp_lt (tgt := 11) dX2_opens_6 (by decide) (fun c => ?_) (fun c => ?_)
  · replace h := fg_ip c h
    refine bs_aload_n dX2_opens_11 rfl ?_
    refine fg_getR (b := (x + 19)) dX2_opens_12 fX2_25 (HX.s 9 rfl rfl rfl) hR (HX.r 9 3 rfl rfl rfl) ?_
    refine bs_aload_n dX2_opens_15 rfl ?_
    refine bs_getI dX2_opens_16 fX2_57 (HX.s 9 rfl rfl rfl) ?_
    refine bs_aload_n dX2_opens_19 rfl ?_
    refine bs_getI dX2_opens_20 fX2_76 (HX.s 9 rfl rfl rfl) ?_
    obtain ⟨g1, h⟩ := fg_gdE h
    refine fg_iast dX2_opens_23 (HX.ss 19 rfl rfl) (fun j => HX.n 19 j rfl rfl rfl) g1 hR h (fun mu2 hR h => ?_)
    refine bs_aload_n dX2_opens_24 rfl ?_
    refine bs_dup dX2_opens_25 rfl ?_
    refine bs_getI dX2_opens_26 fX2_57 (HX.s 9 rfl rfl rfl) ?_
    refine bs_iconst (v := (nI 1)) dX2_opens_29 (by decide) ?_
    refine bs_iadd dX2_opens_30 ?_
    refine fg_putI dX2_opens_31 pX2_57 (HX.s 9 rfl rfl rfl) (HX.n 9 7 rfl rfl rfl) hR h (fun mu3 hR h => ?_)
    refine bs_aload_n dX2_opens_34 rfl ?_
    refine bs_iconst (v := (nI 1)) dX2_opens_35 (by decide) ?_
    refine fg_putZ dX2_opens_36 pX2_53 (HX.s 9 rfl rfl rfl) (HX.n 9 10 rfl rfl rfl) (Or.inr rfl) hR h (fun mu4 hR h => ?_)
    refine bs_iconst (v := (nI 1)) dX2_opens_39 (by decide) ?_
    cases h
    exact bs_zret dX2_opens_40 rfl (Or.inr rfl) (Nat.zero_le _) (Nat.zero_le _) (kr _ rfl hR)
  · replace h := fg_iN c h
    refine bs_iconst (v := (nI 0)) dX2_opens_9 (by decide) ?_
    cases h
    exact bs_zret dX2_opens_10 rfl (Or.inl rfl) (Nat.zero_le _) (Nat.zero_le _) (kr _ rfl hR)
noncomputable def FX2_closes (x : Nat) (mu : bs_Mm) : Option (Int32 × bs_Mm) :=
  if (bs_iv (mu (x + 9) 10)) = 0 then (
    if 0 < (bs_iv (mu (x + 9) 7)) then (
      fg_wr mu (x + 9) 7 (.int ((bs_iv (mu (x + 9) 7)) - (nI 1))) (fun mu1 => 
      fg_gd (fg_in (bs_iv (mu1 (x + 9) 7)) 6) (
      fg_bd (FX2_join x mu1 (bs_iv (mu1 (x + 19) (bs_iv (mu1 (x + 9) 7)).toNatClampNeg)) (bs_iv (mu1 (x + 9) 6))) (fun mu4 => 
      some ((nI 1), mu4))))
    ) else (
      some ((nI 0), mu)
    )
  ) else (
    some ((nI 0), mu)
  )
set_option maxHeartbeats 4000000 in
theorem wX2_closes {nx : Nat} {sh : bs_Sh} {R : Nat → Nat → Option Nat} {x : Nat} (HX : fg_S (bs_tS x) R x sh) {mu : bs_Mm} (hR : fg_R R mu) {r : Int32 × bs_Mm} (h : FX2_closes x mu = some r) : bs_C mX2_closes (bs_rm 2 0 0) [.ref (x + 9)] nx sh mu (fg_po R nx sh (some (.int r.1)) r.2) := by
  refine bs_ct (by decide +kernel) (Nat.le_of_ble_eq_true rfl) ?_
  have kr : ∀ q, r = q → fg_R R q.2 → (fg_po R nx sh (some (.int r.1)) r.2) (some (.int q.1)) nx sh q.2 := fun q e hq => by subst e; exact ⟨rfl, rfl, rfl, rfl, hq⟩
  unfold FX2_closes at h
  refine bs_aload_n dX2_closes_0 rfl ?_
  refine bs_getI dX2_closes_1 fX2_53 (HX.s 9 rfl rfl rfl) ?_
  refine bs_if_ne (tgt := 14) dX2_closes_4 (by decide) (fun c => ?_) (fun c => ?_)
  · replace h := fg_iN c h
    refine bs_iconst (v := (nI 0)) dX2_closes_14 (by decide) ?_
    cases h
    exact bs_zret dX2_closes_15 rfl (Or.inl rfl) (Nat.zero_le _) (Nat.zero_le _) (kr _ rfl hR)
  · replace h := fg_ip c h
    refine bs_aload_n dX2_closes_7 rfl ?_
    refine bs_getI dX2_closes_8 fX2_57 (HX.s 9 rfl rfl rfl) ?_
    refine bs_if_gt (tgt := 16) dX2_closes_11 (by decide) (fun c => ?_) (fun c => ?_)
    · replace h := fg_ip c h
      refine bs_aload_n dX2_closes_16 rfl ?_
      refine bs_dup dX2_closes_17 rfl ?_
      refine bs_getI dX2_closes_18 fX2_57 (HX.s 9 rfl rfl rfl) ?_
      refine bs_iconst (v := (nI 1)) dX2_closes_21 (by decide) ?_
      refine bs_isub dX2_closes_22 ?_
      refine fg_putI dX2_closes_23 pX2_57 (HX.s 9 rfl rfl rfl) (HX.n 9 7 rfl rfl rfl) hR h (fun mu1 hR h => ?_)
      refine bs_aload_n dX2_closes_26 rfl ?_
      refine bs_aload_n dX2_closes_27 rfl ?_
      refine fg_getR (b := (x + 19)) dX2_closes_28 fX2_25 (HX.s 9 rfl rfl rfl) hR (HX.r 9 3 rfl rfl rfl) ?_
      refine bs_aload_n dX2_closes_31 rfl ?_
      refine bs_getI dX2_closes_32 fX2_57 (HX.s 9 rfl rfl rfl) ?_
      obtain ⟨g2, h⟩ := fg_gdE h
      refine bs_iald dX2_closes_35 (HX.ss 19 rfl rfl) (fg_in_ix g2) ?_
      refine bs_aload_n dX2_closes_36 rfl ?_
      refine bs_getI dX2_closes_37 fX2_76 (HX.s 9 rfl rfl rfl) ?_
      obtain ⟨mu4, k3, h⟩ := fg_bdE h
      refine fg_callVv dX2_closes_40 qX2_124 (wX2_join HX hR k3) rfl (HX.s 9 rfl rfl rfl) rfl (Nat.le_of_ble_eq_true rfl) (fg_cr (by first | decide | omega) (by decide)) (fun hR => ?_)
      refine bs_iconst (v := (nI 1)) dX2_closes_43 (by decide) ?_
      cases h
      exact bs_zret dX2_closes_44 rfl (Or.inr rfl) (Nat.zero_le _) (Nat.zero_le _) (kr _ rfl hR)
    · replace h := fg_iN c h
      refine bs_iconst (v := (nI 0)) dX2_closes_14 (by decide) ?_
      cases h
      exact bs_zret dX2_closes_15 rfl (Or.inl rfl) (Nat.zero_le _) (Nat.zero_le _) (kr _ rfl hR)
noncomputable def FX2_endsBalloon (x : Nat) (mu : bs_Mm) : Option (Int32 × bs_Mm) :=
  if (bs_iv (mu (x + 9) 10)) = 0 then (
    if 0 < (bs_iv (mu (x + 9) 7)) then (
      some ((nI 0), mu)
    ) else (
      if (bs_iv (mu (x + 10) 6)) < (nI 6) then (
        fg_wr mu (x + 9) 5 (.int (nI 0)) (fun mu1 => 
        some ((nI 1), mu1))
      ) else (
        some ((nI 0), mu)
      )
    )
  ) else (
    some ((nI 0), mu)
  )
set_option maxHeartbeats 4000000 in
theorem wX2_endsBalloon {nx : Nat} {sh : bs_Sh} {R : Nat → Nat → Option Nat} {x : Nat} (HX : fg_S (bs_tS x) R x sh) {mu : bs_Mm} (hR : fg_R R mu) {r : Int32 × bs_Mm} (h : FX2_endsBalloon x mu = some r) : bs_C mX2_endsBalloon (bs_rm 0 0 0) [.ref (x + 9)] nx sh mu (fg_po R nx sh (some (.int r.1)) r.2) := by
  refine bs_ct (by decide +kernel) (Nat.le_of_ble_eq_true rfl) ?_
  have kr : ∀ q, r = q → fg_R R q.2 → (fg_po R nx sh (some (.int r.1)) r.2) (some (.int q.1)) nx sh q.2 := fun q e hq => by subst e; exact ⟨rfl, rfl, rfl, rfl, hq⟩
  unfold FX2_endsBalloon at h
  refine bs_aload_n dX2_endsBalloon_0 rfl ?_
  refine bs_getI dX2_endsBalloon_1 fX2_53 (HX.s 9 rfl rfl rfl) ?_
  refine bs_if_ne (tgt := 26) dX2_endsBalloon_4 (by decide) (fun c => ?_) (fun c => ?_)
  · replace h := fg_iN c h
    refine bs_iconst (v := (nI 0)) dX2_endsBalloon_26 (by decide) ?_
    cases h
    exact bs_zret dX2_endsBalloon_27 rfl (Or.inl rfl) (Nat.zero_le _) (Nat.zero_le _) (kr _ rfl hR)
  · replace h := fg_ip c h
    refine bs_aload_n dX2_endsBalloon_7 rfl ?_
    refine bs_getI dX2_endsBalloon_8 fX2_57 (HX.s 9 rfl rfl rfl) ?_
    refine bs_if_gt (tgt := 26) dX2_endsBalloon_11 (by decide) (fun c => ?_) (fun c => ?_)
    · replace h := fg_ip c h
      refine bs_iconst (v := (nI 0)) dX2_endsBalloon_26 (by decide) ?_
      cases h
      exact bs_zret dX2_endsBalloon_27 rfl (Or.inl rfl) (Nat.zero_le _) (Nat.zero_le _) (kr _ rfl hR)
    · replace h := fg_iN c h
      refine bs_aload_n dX2_endsBalloon_14 rfl ?_
      refine fg_getR (b := (x + 10)) dX2_endsBalloon_15 fX2_12 (HX.s 9 rfl rfl rfl) hR (HX.r 9 0 rfl rfl rfl) ?_
      refine bs_getI dX2_endsBalloon_18 fX2_128 (HX.s 10 rfl rfl rfl) ?_
      refine bs_bipush (v := (nI 6)) dX2_endsBalloon_21 (by decide) ?_
      refine bs_icmp_lt (tgt := 28) dX2_endsBalloon_23 (by decide) (fun c => ?_) (fun c => ?_)
      · replace h := fg_ip c h
        refine bs_aload_n dX2_endsBalloon_28 rfl ?_
        refine bs_iconst (v := (nI 0)) dX2_endsBalloon_29 (by decide) ?_
        refine fg_putI dX2_endsBalloon_30 pX2_50 (HX.s 9 rfl rfl rfl) (HX.n 9 5 rfl rfl rfl) hR h (fun mu1 hR h => ?_)
        refine bs_iconst (v := (nI 1)) dX2_endsBalloon_33 (by decide) ?_
        cases h
        exact bs_zret dX2_endsBalloon_34 rfl (Or.inr rfl) (Nat.zero_le _) (Nat.zero_le _) (kr _ rfl hR)
      · replace h := fg_iN c h
        refine bs_iconst (v := (nI 0)) dX2_endsBalloon_26 (by decide) ?_
        cases h
        exact bs_zret dX2_endsBalloon_27 rfl (Or.inl rfl) (Nat.zero_le _) (Nat.zero_le _) (kr _ rfl hR)
noncomputable def FX2_takesMove_j22 (x : Nat) (mu : bs_Mm) (l1 : Int32) : Option (Int32 × bs_Mm) :=
  if l1 = (nI 40) then (
    fg_b2 (FX2_opens x mu) (fun v4 mu3 => 
    fg_gd (decide (v4 = 0 ∨ v4 = 1)) (
    some (v4, mu3)))
  ) else (
  if l1 = (nI 41) then (
    fg_b2 (FX2_closes x mu) (fun v9 mu8 => 
    fg_gd (decide (v9 = 0 ∨ v9 = 1)) (
    some (v9, mu8)))
  ) else (
  if l1 = (nI 47) then (
    fg_b2 (FX2_endsBalloon x mu) (fun v14 mu13 => 
    fg_gd (decide (v14 = 0 ∨ v14 = 1)) (
    some (v14, mu13)))
  ) else (
  some ((nI 0), mu)
  )))
set_option maxHeartbeats 4000000 in
theorem wFX2_takesMove_j22 {nx : Nat} {sh : bs_Sh} {R : Nat → Nat → Option Nat} {x : Nat} (HX : fg_S (bs_tS x) R x sh) {mu : bs_Mm} {l1 : Int32} {Ph : bs_Po} {r : Int32 × bs_Mm} (kr : ∀ q, r = q → fg_R R q.2 → Ph (some (.int q.1)) nx sh q.2) (hR : fg_R R mu) (h : FX2_takesMove_j22 x mu l1 = some r) : bs_W Ph mX2_takesMove (bs_rm 3 0 0) 22 (bs_mk [(0, .ref (x + 9)), (1, .int l1)]) [] 0 0 nx sh mu := by
  unfold FX2_takesMove_j22 at h
  refine bs_iload_n dX2_takesMove_22 rfl ?_
  by_cases e1 : l1 = (nI 40)
  · replace h := fg_ip e1 h
    refine bs_lookup (off := 33) (tgt := 56) dX2_takesMove_23 (by decide) (by rw [e1]; decide) (by decide) ?_
    refine bs_aload_n dX2_takesMove_56 rfl ?_
    obtain ⟨v4, mu3, k2, h⟩ := fg_b2E h
    refine fg_callV dX2_takesMove_57 qX2_115 (wX2_opens HX hR k2) rfl (HX.s 9 rfl rfl rfl) rfl (Nat.le_of_ble_eq_true rfl) (fg_cr (by first | decide | omega) (by decide)) (fun hR => ?_)
    obtain ⟨g5, h⟩ := fg_gdE h
    cases h
    exact bs_zret dX2_takesMove_60 rfl (of_decide_eq_true g5) (Nat.zero_le _) (Nat.zero_le _) (kr _ rfl hR)
  · replace h := fg_iN e1 h
    by_cases e6 : l1 = (nI 41)
    · replace h := fg_ip e6 h
      refine bs_lookup (off := 38) (tgt := 61) dX2_takesMove_23 (by decide) (by rw [e6]; decide) (by decide) ?_
      refine bs_aload_n dX2_takesMove_61 rfl ?_
      obtain ⟨v9, mu8, k7, h⟩ := fg_b2E h
      refine fg_callV dX2_takesMove_62 qX2_118 (wX2_closes HX hR k7) rfl (HX.s 9 rfl rfl rfl) rfl (Nat.le_of_ble_eq_true rfl) (fg_cr (by first | decide | omega) (by decide)) (fun hR => ?_)
      obtain ⟨g10, h⟩ := fg_gdE h
      cases h
      exact bs_zret dX2_takesMove_65 rfl (of_decide_eq_true g10) (Nat.zero_le _) (Nat.zero_le _) (kr _ rfl hR)
    · replace h := fg_iN e6 h
      by_cases e11 : l1 = (nI 47)
      · replace h := fg_ip e11 h
        refine bs_lookup (off := 43) (tgt := 66) dX2_takesMove_23 (by decide) (by rw [e11]; decide) (by decide) ?_
        refine bs_aload_n dX2_takesMove_66 rfl ?_
        obtain ⟨v14, mu13, k12, h⟩ := fg_b2E h
        refine fg_callV dX2_takesMove_67 qX2_121 (wX2_endsBalloon HX hR k12) rfl (HX.s 9 rfl rfl rfl) rfl (Nat.le_of_ble_eq_true rfl) (fg_cr (by first | decide | omega) (by decide)) (fun hR => ?_)
        obtain ⟨g15, h⟩ := fg_gdE h
        cases h
        exact bs_zret dX2_takesMove_70 rfl (of_decide_eq_true g15) (Nat.zero_le _) (Nat.zero_le _) (kr _ rfl hR)
      · replace h := fg_iN e11 h
        refine bs_lookup (off := 48) (tgt := 71) dX2_takesMove_23 (by decide) ?_ (by decide) ?_
        · show Op.lookupswitch.offset [((40 : Int), (33 : Int)), ((41 : Int), (38 : Int)), ((47 : Int), (43 : Int))] (48) _ = _; rw [lv_osw e1 (by decide), lv_osw e6 (by decide), lv_osw e11 (by decide)]; rfl
        · refine bs_iconst (v := (nI 0)) dX2_takesMove_71 (by decide) ?_
          cases h
          exact bs_zret dX2_takesMove_72 rfl (Or.inl rfl) (Nat.zero_le _) (Nat.zero_le _) (kr _ rfl hR)
noncomputable def FX2_takesMove (x : Nat) (mu : bs_Mm) (p1 : Int32) : Option (Int32 × bs_Mm) :=
  if p1 < (nI 97) then (
    FX2_takesMove_j22 x mu p1
  ) else (
    if (nI 105) ≤ p1 then (
      FX2_takesMove_j22 x mu p1
    ) else (
      fg_bd (FX2_nameHere x mu (p1 - (nI 97))) (fun mu17 => 
      some ((nI 1), mu17))
    )
  )
set_option maxHeartbeats 4000000 in
theorem wX2_takesMove {nx : Nat} {sh : bs_Sh} {R : Nat → Nat → Option Nat} {x : Nat} (HX : fg_S (bs_tS x) R x sh) {mu : bs_Mm} (hR : fg_R R mu) {p1 : Int32} {r : Int32 × bs_Mm} (h : FX2_takesMove x mu p1 = some r) : bs_C mX2_takesMove (bs_rm 3 0 0) [.ref (x + 9), .int p1] nx sh mu (fg_po R nx sh (some (.int r.1)) r.2) := by
  refine bs_ct (by decide +kernel) (Nat.le_of_ble_eq_true rfl) ?_
  have kr : ∀ q, r = q → fg_R R q.2 → (fg_po R nx sh (some (.int r.1)) r.2) (some (.int q.1)) nx sh q.2 := fun q e hq => by subst e; exact ⟨rfl, rfl, rfl, rfl, hq⟩
  unfold FX2_takesMove at h
  refine bs_iload_n dX2_takesMove_0 rfl ?_
  refine bs_bipush (v := (nI 97)) dX2_takesMove_1 (by decide) ?_
  refine bs_icmp_lt (tgt := 22) dX2_takesMove_3 (by decide) (fun c => ?_) (fun c => ?_)
  · replace h := fg_ip c h
    refine bs_W.mk [(0, .ref (x + 9)), (1, .int p1)] (by intro q hq; simp only [List.mem_cons, List.not_mem_nil, or_false] at hq; rcases hq with rfl | rfl <;> rfl) ?_
    exact wFX2_takesMove_j22 HX kr hR h
  · replace h := fg_iN c h
    refine bs_iload_n dX2_takesMove_6 rfl ?_
    refine bs_bipush (v := (nI 105)) dX2_takesMove_7 (by decide) ?_
    refine bs_icmp_ge (tgt := 22) dX2_takesMove_9 (by decide) (fun c => ?_) (fun c => ?_)
    · replace h := fg_ip c h
      refine bs_W.mk [(0, .ref (x + 9)), (1, .int p1)] (by intro q hq; simp only [List.mem_cons, List.not_mem_nil, or_false] at hq; rcases hq with rfl | rfl <;> rfl) ?_
      exact wFX2_takesMove_j22 HX kr hR h
    · replace h := fg_iN c h
      refine bs_aload_n dX2_takesMove_12 rfl ?_
      refine bs_iload_n dX2_takesMove_13 rfl ?_
      refine bs_bipush (v := (nI 97)) dX2_takesMove_14 (by decide) ?_
      refine bs_isub dX2_takesMove_16 ?_
      obtain ⟨mu17, k16, h⟩ := fg_bdE h
      refine fg_callVv dX2_takesMove_17 qX2_112 (wX2_nameHere HX hR k16) rfl (HX.s 9 rfl rfl rfl) rfl (Nat.le_of_ble_eq_true rfl) (fg_cr (by first | decide | omega) (by decide)) (fun hR => ?_)
      refine bs_iconst (v := (nI 1)) dX2_takesMove_20 (by decide) ?_
      cases h
      exact bs_zret dX2_takesMove_21 rfl (Or.inr rfl) (Nat.zero_le _) (Nat.zero_le _) (kr _ rfl hR)
noncomputable def FX2_takes_j25 (x : Nat) (mu : bs_Mm) (l1 : Int32) : Option (Int32 × bs_Mm) :=
  fg_wr mu (x + 9) 8 (.int (nI 0)) (fun mu1 => 
  if l1 = (nI 32) then (
    some ((nI 1), mu1)
  ) else (
    if (bs_iv (mu1 (x + 9) 5)) = 0 then (
      fg_wr mu1 (x + 9) 5 (.int (nI 1)) (fun mu10 => 
      if l1 = (nI 35) then (
        some ((nI 1), mu10)
      ) else (
        some ((nI 0), mu10)
      ))
    ) else (
      if (bs_iv (mu1 (x + 9) 5)) = (nI 1) then (
        fg_b2 (FX2_takesSort x mu1 (l1 - (nI 48))) (fun v8 mu7 => 
        fg_gd (decide (v8 = 0 ∨ v8 = 1)) (
        some (v8, mu7)))
      ) else (
        fg_b2 (FX2_takesMove x mu1 l1) (fun v4 mu3 => 
        fg_gd (decide (v4 = 0 ∨ v4 = 1)) (
        some (v4, mu3)))
      )
    )
  ))
set_option maxHeartbeats 4000000 in
theorem wFX2_takes_j25 {nx : Nat} {sh : bs_Sh} {R : Nat → Nat → Option Nat} {x : Nat} (HX : fg_S (bs_tS x) R x sh) {mu : bs_Mm} {l1 : Int32} {Ph : bs_Po} {r : Int32 × bs_Mm} (kr : ∀ q, r = q → fg_R R q.2 → Ph (some (.int q.1)) nx sh q.2) (hR : fg_R R mu) (h : FX2_takes_j25 x mu l1 = some r) : bs_W Ph mX2_takes (bs_rm 4 0 0) 25 (bs_mk [(0, .ref (x + 9)), (1, .int l1)]) [] 0 0 nx sh mu := by
  unfold FX2_takes_j25 at h
  refine bs_aload_n dX2_takes_25 rfl ?_
  refine bs_iconst (v := (nI 0)) dX2_takes_26 (by decide) ?_
  refine fg_putI dX2_takes_27 pX2_79 (HX.s 9 rfl rfl rfl) (HX.n 9 8 rfl rfl rfl) hR h (fun mu1 hR h => ?_)
  refine bs_iload_n dX2_takes_30 rfl ?_
  refine bs_bipush (v := (nI 32)) dX2_takes_31 (by decide) ?_
  refine bs_icmp_ne (tgt := 38) dX2_takes_33 (by decide) (fun c => ?_) (fun c => ?_)
  · replace h := fg_iN c h
    refine bs_aload_n dX2_takes_38 rfl ?_
    refine bs_getI dX2_takes_39 fX2_50 (HX.s 9 rfl rfl rfl) ?_
    refine bs_if_ne (tgt := 62) dX2_takes_42 (by decide) (fun c => ?_) (fun c => ?_)
    · replace h := fg_iN c h
      refine bs_aload_n dX2_takes_62 rfl ?_
      refine bs_getI dX2_takes_63 fX2_50 (HX.s 9 rfl rfl rfl) ?_
      refine bs_iconst (v := (nI 1)) dX2_takes_66 (by decide) ?_
      refine bs_icmp_ne (tgt := 79) dX2_takes_67 (by decide) (fun c => ?_) (fun c => ?_)
      · replace h := fg_iN c h
        refine bs_aload_n dX2_takes_79 rfl ?_
        refine bs_iload_n dX2_takes_80 rfl ?_
        obtain ⟨v4, mu3, k2, h⟩ := fg_b2E h
        refine fg_callV dX2_takes_81 qX2_91 (wX2_takesMove HX hR k2) rfl (HX.s 9 rfl rfl rfl) rfl (Nat.le_of_ble_eq_true rfl) (fg_cr (by first | decide | omega) (by decide)) (fun hR => ?_)
        obtain ⟨g5, h⟩ := fg_gdE h
        cases h
        exact bs_zret dX2_takes_84 rfl (of_decide_eq_true g5) (Nat.zero_le _) (Nat.zero_le _) (kr _ rfl hR)
      · replace h := fg_ip c h
        refine bs_aload_n dX2_takes_70 rfl ?_
        refine bs_iload_n dX2_takes_71 rfl ?_
        refine bs_bipush (v := (nI 48)) dX2_takes_72 (by decide) ?_
        refine bs_isub dX2_takes_74 ?_
        obtain ⟨v8, mu7, k6, h⟩ := fg_b2E h
        refine fg_callV dX2_takes_75 qX2_88 (wX2_takesSort HX hR k6) rfl (HX.s 9 rfl rfl rfl) rfl (Nat.le_of_ble_eq_true rfl) (fg_cr (by first | decide | omega) (by decide)) (fun hR => ?_)
        obtain ⟨g9, h⟩ := fg_gdE h
        cases h
        exact bs_zret dX2_takes_78 rfl (of_decide_eq_true g9) (Nat.zero_le _) (Nat.zero_le _) (kr _ rfl hR)
    · replace h := fg_ip c h
      refine bs_aload_n dX2_takes_45 rfl ?_
      refine bs_iconst (v := (nI 1)) dX2_takes_46 (by decide) ?_
      refine fg_putI dX2_takes_47 pX2_50 (HX.s 9 rfl rfl rfl) (HX.n 9 5 rfl rfl rfl) hR h (fun mu10 hR h => ?_)
      refine bs_iload_n dX2_takes_50 rfl ?_
      refine bs_bipush (v := (nI 35)) dX2_takes_51 (by decide) ?_
      refine bs_icmp_ne (tgt := 60) dX2_takes_53 (by decide) (fun c => ?_) (fun c => ?_)
      · replace h := fg_iN c h
        refine bs_iconst (v := (nI 0)) dX2_takes_60 (by decide) ?_
        cases h
        exact bs_zret dX2_takes_61 rfl (Or.inl rfl) (Nat.zero_le _) (Nat.zero_le _) (kr _ rfl hR)
      · replace h := fg_ip c h
        refine bs_iconst (v := (nI 1)) dX2_takes_56 (by decide) ?_
        refine bs_goto (tgt := 61) dX2_takes_57 (by decide) ?_
        cases h
        exact bs_zret dX2_takes_61 rfl (Or.inr rfl) (Nat.zero_le _) (Nat.zero_le _) (kr _ rfl hR)
  · replace h := fg_ip c h
    refine bs_iconst (v := (nI 1)) dX2_takes_36 (by decide) ?_
    cases h
    exact bs_zret dX2_takes_37 rfl (Or.inr rfl) (Nat.zero_le _) (Nat.zero_le _) (kr _ rfl hR)
noncomputable def FX2_takes (x : Nat) (mu : bs_Mm) (p1 : Int32) (p2 : Int32) : Option (Int32 × bs_Mm) :=
  if (bs_iv (mu (x + 9) 5)) = (nI 2) then (
    fg_bd (FX11_isDigit x mu p1) (fun v12 => 
    if v12 = 0 then (
      FX2_takes_j25 x mu p1
    ) else (
      fg_b2 (FX2_takesDigit x mu (p1 - (nI 48)) p2) (fun v15 mu14 => 
      fg_gd (decide (v15 = 0 ∨ v15 = 1)) (
      some (v15, mu14)))
    ))
  ) else (
    FX2_takes_j25 x mu p1
  )
set_option maxHeartbeats 4000000 in
theorem wX2_takes {nx : Nat} {sh : bs_Sh} {R : Nat → Nat → Option Nat} {x : Nat} (HX : fg_S (bs_tS x) R x sh) {mu : bs_Mm} (hR : fg_R R mu) {p1 : Int32} {p2 : Int32} {r : Int32 × bs_Mm} (h : FX2_takes x mu p1 p2 = some r) : bs_C mX2_takes (bs_rm 4 0 0) [.ref (x + 9), .int p1, .int p2] nx sh mu (fg_po R nx sh (some (.int r.1)) r.2) := by
  refine bs_ct (by decide +kernel) (Nat.le_of_ble_eq_true rfl) ?_
  have kr : ∀ q, r = q → fg_R R q.2 → (fg_po R nx sh (some (.int r.1)) r.2) (some (.int q.1)) nx sh q.2 := fun q e hq => by subst e; exact ⟨rfl, rfl, rfl, rfl, hq⟩
  unfold FX2_takes at h
  refine bs_aload_n dX2_takes_0 rfl ?_
  refine bs_getI dX2_takes_1 fX2_50 (HX.s 9 rfl rfl rfl) ?_
  refine bs_iconst (v := (nI 2)) dX2_takes_4 (by decide) ?_
  refine bs_icmp_ne (tgt := 25) dX2_takes_5 (by decide) (fun c => ?_) (fun c => ?_)
  · replace h := fg_iN c h
    refine bs_W.mk [(0, .ref (x + 9)), (1, .int p1)] (by intro q hq; simp only [List.mem_cons, List.not_mem_nil, or_false] at hq; rcases hq with rfl | rfl <;> rfl) ?_
    exact wFX2_takes_j25 HX kr hR h
  · replace h := fg_ip c h
    refine bs_iload_n dX2_takes_8 rfl ?_
    obtain ⟨v12, k11, h⟩ := fg_bdE h
    refine fg_callSN dX2_takes_9 qX2_42 (wX11_isDigit HX hR k11) rfl rfl (Nat.le_of_ble_eq_true rfl) (fg_cr (by first | decide | omega) (by decide)) (fun hR => ?_)
    refine bs_if_eq (tgt := 25) dX2_takes_12 (by decide) (fun c => ?_) (fun c => ?_)
    · replace h := fg_ip c h
      refine bs_W.mk [(0, .ref (x + 9)), (1, .int p1)] (by intro q hq; simp only [List.mem_cons, List.not_mem_nil, or_false] at hq; rcases hq with rfl | rfl <;> rfl) ?_
      exact wFX2_takes_j25 HX kr hR h
    · replace h := fg_iN c h
      refine bs_aload_n dX2_takes_15 rfl ?_
      refine bs_iload_n dX2_takes_16 rfl ?_
      refine bs_bipush (v := (nI 48)) dX2_takes_17 (by decide) ?_
      refine bs_isub dX2_takes_19 ?_
      refine bs_iload_n dX2_takes_20 rfl ?_
      obtain ⟨v15, mu14, k13, h⟩ := fg_b2E h
      refine fg_callV dX2_takes_21 qX2_85 (wX2_takesDigit HX hR k13) rfl (HX.s 9 rfl rfl rfl) rfl (Nat.le_of_ble_eq_true rfl) (fg_cr (by first | decide | omega) (by decide)) (fun hR => ?_)
      obtain ⟨g16, h⟩ := fg_gdE h
      cases h
      exact bs_zret dX2_takes_24 rfl (of_decide_eq_true g16) (Nat.zero_le _) (Nat.zero_le _) (kr _ rfl hR)
