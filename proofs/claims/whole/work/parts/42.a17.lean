noncomputable def FX12_findFewest_b59_L16 (m : Nat)  (l1 : Int32) (l2 : Int32) (l3 : Int32) (l4 : Int32) (l5 : Int32) (s : Int32 × bs_Mm) : Option ((Int32 × bs_Mm) ⊕ (bs_Mm)) :=
  if s.1 ≤ 0 then (
    some (.inr s.2)
  ) else (
    if (s.1 &&& l5) = 0 then (
      some (.inl (((s.1 - (nI 1)) &&& l4), s.2))
    ) else (
      fg_gd (fg_in s.1 1024) (
      if (bs_iv (s.2 (m + 26) s.1.toNatClampNeg)) = 0 then (
        some (.inl (((s.1 - (nI 1)) &&& l4), s.2))
      ) else (
        fg_gd (fg_in l4 1024) (
        fg_gd (fg_in (l4 &&& (s.1 ^^^ (-1))) 1024) (
        fg_gd (fg_in l4 1024) (
        fg_wr s.2 (m + 25) l4.toNatClampNeg (.int (if ((nI 1) + (bs_iv (s.2 (m + 25) (l4 &&& (s.1 ^^^ (-1))).toNatClampNeg))) < (bs_iv (s.2 (m + 25) l4.toNatClampNeg)) then ((nI 1) + (bs_iv (s.2 (m + 25) (l4 &&& (s.1 ^^^ (-1))).toNatClampNeg))) else (bs_iv (s.2 (m + 25) l4.toNatClampNeg)))) (fun mu16 => 
        some (.inl (((s.1 - (nI 1)) &&& l4), mu16))))))
      ))
    )
  )
set_option maxHeartbeats 4000000 in
theorem wFX12_findFewest_b59_L16 {nx : Nat} {sh : bs_Sh} {R : Nat → Nat → Option Nat} {m : Nat} (HM : fg_S (bs_tM m) R m sh) {l1 : Int32} {l2 : Int32} {l3 : Int32} {l4 : Int32} {l5 : Int32} {Ph : bs_Po} {s : Int32 × bs_Mm} {r : (Int32 × bs_Mm) ⊕ (bs_Mm)} (ka : ∀ s, r = .inl s → fg_R R s.2 → bs_W Ph mX12_findFewest (bs_rm 3 0 0) 59 (bs_mk [(0, .ref m), (1, .int l1), (2, .int l2), (3, .int l3), (4, .int l4), (5, .int l5), (6, .int s.1)]) [] 0 0 nx sh s.2) (ke : ∀ s, r = .inr s → fg_R R s → bs_W Ph mX12_findFewest (bs_rm 3 0 0) 125 (bs_mk [(0, .ref m), (1, .int l1), (2, .int l2), (3, .int l3), (4, .int l4), (5, .int l5)]) [] 0 0 nx sh s) (hR : fg_R R s.2) (h : FX12_findFewest_b59_L16 m l1 l2 l3 l4 l5 s = some r) : bs_W Ph mX12_findFewest (bs_rm 3 0 0) 59 (bs_mk [(0, .ref m), (1, .int l1), (2, .int l2), (3, .int l3), (4, .int l4), (5, .int l5), (6, .int s.1)]) [] 0 0 nx sh s.2 := by
  unfold FX12_findFewest_b59_L16 at h
  refine bs_iload dX12_findFewest_59 rfl ?_
  refine bs_if_le (tgt := 125) dX12_findFewest_61 (by decide) (fun c => ?_) (fun c => ?_)
  · replace h := fg_ip c h
    cases h
    refine bs_W.mk [(0, .ref m), (1, .int l1), (2, .int l2), (3, .int l3), (4, .int l4), (5, .int l5)] (by intro q hq; simp only [List.mem_cons, List.not_mem_nil, or_false] at hq; rcases hq with rfl | rfl | rfl | rfl | rfl | rfl <;> rfl) (ke _ rfl hR)
  · replace h := fg_iN c h
    refine bs_iload dX12_findFewest_64 rfl ?_
    refine bs_iload dX12_findFewest_66 rfl ?_
    refine bs_iand dX12_findFewest_68 ?_
    refine bs_if_eq (tgt := 113) dX12_findFewest_69 (by decide) (fun c => ?_) (fun c => ?_)
    · replace h := fg_ip c h
      refine bs_iload dX12_findFewest_113 rfl ?_
      refine bs_iconst (v := (nI 1)) dX12_findFewest_115 (by decide) ?_
      refine bs_isub dX12_findFewest_116 ?_
      refine bs_iload dX12_findFewest_117 rfl ?_
      refine bs_iand dX12_findFewest_119 ?_
      refine bs_istore dX12_findFewest_120 rfl (by decide) ?_
      refine bs_goto (tgt := 59) dX12_findFewest_122 (by decide) ?_
      cases h
      refine bs_W.mk [(0, .ref m), (1, .int l1), (2, .int l2), (3, .int l3), (4, .int l4), (5, .int l5), (6, .int ((s.1 - (nI 1)) &&& l4))] (by intro q hq; simp only [List.mem_cons, List.not_mem_nil, or_false] at hq; rcases hq with rfl | rfl | rfl | rfl | rfl | rfl | rfl <;> rfl) (by have k := ka _ rfl hR; dsimp only at k; exact k)
    · replace h := fg_iN c h
      refine bs_aload_n dX12_findFewest_72 rfl ?_
      refine fg_getR (b := (m + 26)) dX12_findFewest_73 fX12_86 (HM.s 0 rfl rfl rfl) hR (HM.r 0 38 rfl rfl rfl) ?_
      refine bs_iload dX12_findFewest_76 rfl ?_
      obtain ⟨g12, h⟩ := fg_gdE h
      refine bs_zald dX12_findFewest_78 (HM.ss 26 rfl rfl) (fg_in_ix g12) ?_
      refine bs_if_eq (tgt := 113) dX12_findFewest_79 (by decide) (fun c => ?_) (fun c => ?_)
      · replace h := fg_ip c h
        refine bs_iload dX12_findFewest_113 rfl ?_
        refine bs_iconst (v := (nI 1)) dX12_findFewest_115 (by decide) ?_
        refine bs_isub dX12_findFewest_116 ?_
        refine bs_iload dX12_findFewest_117 rfl ?_
        refine bs_iand dX12_findFewest_119 ?_
        refine bs_istore dX12_findFewest_120 rfl (by decide) ?_
        refine bs_goto (tgt := 59) dX12_findFewest_122 (by decide) ?_
        cases h
        refine bs_W.mk [(0, .ref m), (1, .int l1), (2, .int l2), (3, .int l3), (4, .int l4), (5, .int l5), (6, .int ((s.1 - (nI 1)) &&& l4))] (by intro q hq; simp only [List.mem_cons, List.not_mem_nil, or_false] at hq; rcases hq with rfl | rfl | rfl | rfl | rfl | rfl | rfl <;> rfl) (by have k := ka _ rfl hR; dsimp only at k; exact k)
      · replace h := fg_iN c h
        refine bs_aload_n dX12_findFewest_82 rfl ?_
        refine fg_getR (b := (m + 25)) dX12_findFewest_83 fX12_83 (HM.s 0 rfl rfl rfl) hR (HM.r 0 37 rfl rfl rfl) ?_
        refine bs_iload dX12_findFewest_86 rfl ?_
        refine bs_aload_n dX12_findFewest_88 rfl ?_
        refine fg_getR (b := (m + 25)) dX12_findFewest_89 fX12_83 (HM.s 0 rfl rfl rfl) hR (HM.r 0 37 rfl rfl rfl) ?_
        refine bs_iload dX12_findFewest_92 rfl ?_
        obtain ⟨g13, h⟩ := fg_gdE h
        refine bs_iald dX12_findFewest_94 (HM.ss 25 rfl rfl) (fg_in_ix g13) ?_
        refine bs_iconst (v := (nI 1)) dX12_findFewest_95 (by decide) ?_
        refine bs_aload_n dX12_findFewest_96 rfl ?_
        refine fg_getR (b := (m + 25)) dX12_findFewest_97 fX12_83 (HM.s 0 rfl rfl rfl) hR (HM.r 0 37 rfl rfl rfl) ?_
        refine bs_iload dX12_findFewest_100 rfl ?_
        refine bs_iload dX12_findFewest_102 rfl ?_
        refine bs_iconst (v := (-1)) dX12_findFewest_104 (by decide) ?_
        refine bs_ixor dX12_findFewest_105 ?_
        refine bs_iand dX12_findFewest_106 ?_
        obtain ⟨g14, h⟩ := fg_gdE h
        refine bs_iald dX12_findFewest_107 (HM.ss 25 rfl rfl) (fg_in_ix g14) ?_
        refine bs_iadd dX12_findFewest_108 ?_
        refine bs_mmin dX12_findFewest_109 xX12_155 (by first | decide | (simp only [bs_rm]; omega)) (by first | exact Nat.le_of_ble_eq_true rfl | (simp only [bs_rm, List.map, List.sum_cons, List.sum_nil, Value.category]; omega)) (Nat.zero_le _) (Nat.zero_le _) ?_
        obtain ⟨g15, h⟩ := fg_gdE h
        refine fg_iast dX12_findFewest_112 (HM.ss 25 rfl rfl) (fun j => HM.n 25 j rfl rfl rfl) g15 hR h (fun mu16 hR h => ?_)
        refine bs_iload dX12_findFewest_113 rfl ?_
        refine bs_iconst (v := (nI 1)) dX12_findFewest_115 (by decide) ?_
        refine bs_isub dX12_findFewest_116 ?_
        refine bs_iload dX12_findFewest_117 rfl ?_
        refine bs_iand dX12_findFewest_119 ?_
        refine bs_istore dX12_findFewest_120 rfl (by decide) ?_
        refine bs_goto (tgt := 59) dX12_findFewest_122 (by decide) ?_
        cases h
        refine bs_W.mk [(0, .ref m), (1, .int l1), (2, .int l2), (3, .int l3), (4, .int l4), (5, .int l5), (6, .int ((s.1 - (nI 1)) &&& l4))] (by intro q hq; simp only [List.mem_cons, List.not_mem_nil, or_false] at hq; rcases hq with rfl | rfl | rfl | rfl | rfl | rfl | rfl <;> rfl) (by have k := ka _ rfl hR; dsimp only at k; exact k)
theorem wFX12_findFewest_l59_L16 {nx : Nat} {sh : bs_Sh} {R : Nat → Nat → Option Nat} {m : Nat} (HM : fg_S (bs_tM m) R m sh) {l1 : Int32} {l2 : Int32} {l3 : Int32} {l4 : Int32} {l5 : Int32} {Ph : bs_Po} {t : bs_Mm} : ∀ n (y0 : Int32) (mu1 : bs_Mm), fg_lp (FX12_findFewest_b59_L16 m l1 l2 l3 l4 l5) n (y0, mu1) = some t → fg_R R mu1 → (ke : ∀ s, t = s → fg_R R s → bs_W Ph mX12_findFewest (bs_rm 3 0 0) 125 (bs_mk [(0, .ref m), (1, .int l1), (2, .int l2), (3, .int l3), (4, .int l4), (5, .int l5)]) [] 0 0 nx sh s) → bs_W Ph mX12_findFewest (bs_rm 3 0 0) 59 (bs_mk [(0, .ref m), (1, .int l1), (2, .int l2), (3, .int l3), (4, .int l4), (5, .int l5), (6, .int y0)]) [] 0 0 nx sh mu1 := by
  intro n
  induction n with
  | zero => intro y0 mu1 h; exact absurd h (fun z => fg_lp0 z)
  | succ n ih =>
    intro y0 mu1 h hR ke
    obtain ⟨r, hb, h1, h2⟩ := fg_lpE h
    exact wFX12_findFewest_b59_L16 (s := (y0, mu1)) HM (fun s' e hR' => ih s'.1 s'.2 (h1 s' e) hR' ke) (fun s' e => ke s' (h2 _ e).symm) hR hb
noncomputable def FX12_findFewest_b16 (m : Nat)  (l1 : Int32) (l2 : Int32) (l3 : Int32) (s : Int32 × bs_Mm) : Option ((Int32 × bs_Mm) ⊕ (bs_Mm)) :=
  if l3 < s.1 then (
    some (.inr s.2)
  ) else (
    fg_bd (FX12_isOneWay m s.2 l1 l2 s.1) (fun v6 => 
    fg_gd (fg_in s.1 1024) (
    fg_gd (decide (v6 = 0 ∨ v6 = 1)) (
    fg_wr s.2 (m + 26) s.1.toNatClampNeg (.int v6) (fun mu8 => 
    fg_gd (fg_in s.1 1024) (
    fg_wr mu8 (m + 25) s.1.toNatClampNeg (.int (1000000 : Int32)) (fun mu11 => 
    fg_bd (fg_lp (FX12_findFewest_b59_L16 m l1 l2 l3 s.1 (s.1 &&& (-s.1))) fg_fu (s.1, mu11)) (fun t17 => 
      some (.inl ((s.1 + (nI 1)), t17))
    )))))))
  )
set_option maxHeartbeats 4000000 in
theorem wFX12_findFewest_b16 {nx : Nat} {sh : bs_Sh} {R : Nat → Nat → Option Nat} {m : Nat} (HM : fg_S (bs_tM m) R m sh) {l1 : Int32} {l2 : Int32} {l3 : Int32} {Ph : bs_Po} {s : Int32 × bs_Mm} {r : (Int32 × bs_Mm) ⊕ (bs_Mm)} (ka : ∀ s, r = .inl s → fg_R R s.2 → bs_W Ph mX12_findFewest (bs_rm 3 0 0) 16 (bs_mk [(0, .ref m), (1, .int l1), (2, .int l2), (3, .int l3), (4, .int s.1)]) [] 0 0 nx sh s.2) (ke : ∀ s, r = .inr s → fg_R R s → bs_W Ph mX12_findFewest (bs_rm 3 0 0) 131 (bs_mk [(0, .ref m), (1, .int l1), (2, .int l2), (3, .int l3)]) [] 0 0 nx sh s) (hR : fg_R R s.2) (h : FX12_findFewest_b16 m l1 l2 l3 s = some r) : bs_W Ph mX12_findFewest (bs_rm 3 0 0) 16 (bs_mk [(0, .ref m), (1, .int l1), (2, .int l2), (3, .int l3), (4, .int s.1)]) [] 0 0 nx sh s.2 := by
  unfold FX12_findFewest_b16 at h
  refine bs_iload dX12_findFewest_16 rfl ?_
  refine bs_iload_n dX12_findFewest_18 rfl ?_
  refine bs_icmp_gt (tgt := 131) dX12_findFewest_19 (by decide) (fun c => ?_) (fun c => ?_)
  · replace h := fg_ip c h
    cases h
    refine bs_W.mk [(0, .ref m), (1, .int l1), (2, .int l2), (3, .int l3)] (by intro q hq; simp only [List.mem_cons, List.not_mem_nil, or_false] at hq; rcases hq with rfl | rfl | rfl | rfl <;> rfl) (ke _ rfl hR)
  · replace h := fg_iN c h
    refine bs_aload_n dX12_findFewest_22 rfl ?_
    refine fg_getR (b := (m + 26)) dX12_findFewest_23 fX12_86 (HM.s 0 rfl rfl rfl) hR (HM.r 0 38 rfl rfl rfl) ?_
    refine bs_iload dX12_findFewest_26 rfl ?_
    refine bs_aload_n dX12_findFewest_28 rfl ?_
    refine bs_iload_n dX12_findFewest_29 rfl ?_
    refine bs_iload_n dX12_findFewest_30 rfl ?_
    refine bs_iload dX12_findFewest_31 rfl ?_
    obtain ⟨v6, k5, h⟩ := fg_bdE h
    refine fg_callV dX12_findFewest_33 qX12_372 (wX12_isOneWay HM hR k5) rfl (HM.s 0 rfl rfl rfl) rfl (Nat.le_of_ble_eq_true rfl) (fg_cr (by first | decide | omega) (by decide)) (fun hR => ?_)
    obtain ⟨g7, h⟩ := fg_gdE h
    obtain ⟨g9, h⟩ := fg_gdE h
    refine fg_zast dX12_findFewest_36 (HM.ss 26 rfl rfl) (fun j => HM.n 26 j rfl rfl rfl) g7 (of_decide_eq_true g9) hR h (fun mu8 hR h => ?_)
    refine bs_aload_n dX12_findFewest_37 rfl ?_
    refine fg_getR (b := (m + 25)) dX12_findFewest_38 fX12_83 (HM.s 0 rfl rfl rfl) hR (HM.r 0 37 rfl rfl rfl) ?_
    refine bs_iload dX12_findFewest_41 rfl ?_
    refine bs_ldcw (v := (1000000)) dX12_findFewest_43 cX12_365 ?_
    obtain ⟨g10, h⟩ := fg_gdE h
    refine fg_iast dX12_findFewest_46 (HM.ss 25 rfl rfl) (fun j => HM.n 25 j rfl rfl rfl) g10 hR h (fun mu11 hR h => ?_)
    refine bs_iload dX12_findFewest_47 rfl ?_
    refine bs_iload dX12_findFewest_49 rfl ?_
    refine bs_ineg dX12_findFewest_51 ?_
    refine bs_iand dX12_findFewest_52 ?_
    refine bs_istore dX12_findFewest_53 rfl (by decide) ?_
    refine bs_iload dX12_findFewest_55 rfl ?_
    refine bs_istore dX12_findFewest_57 rfl (by decide) ?_
    obtain ⟨t17, k18, h⟩ := fg_bdE h
    refine bs_W.mk [(0, .ref m), (1, .int l1), (2, .int l2), (3, .int l3), (4, .int s.1), (5, .int (s.1 &&& (-s.1))), (6, .int s.1)] (by intro q hq; simp only [List.mem_cons, List.not_mem_nil, or_false] at hq; rcases hq with rfl | rfl | rfl | rfl | rfl | rfl | rfl <;> rfl) ?_
    refine wFX12_findFewest_l59_L16 HM _ _ _ k18 hR ?_
    intro s e hR
    subst e
    refine fg_iinc (m := (nI 1)) dX12_findFewest_125 rfl rfl (by decide) ?_
    refine bs_goto (tgt := 16) dX12_findFewest_128 (by decide) ?_
    cases h
    refine bs_W.mk [(0, .ref m), (1, .int l1), (2, .int l2), (3, .int l3), (4, .int (s.1 + (nI 1)))] (by intro q hq; simp only [List.mem_cons, List.not_mem_nil, or_false] at hq; rcases hq with rfl | rfl | rfl | rfl | rfl <;> rfl) (by have k := ka _ rfl hR; dsimp only at k; exact k)
theorem wFX12_findFewest_l16 {nx : Nat} {sh : bs_Sh} {R : Nat → Nat → Option Nat} {m : Nat} (HM : fg_S (bs_tM m) R m sh) {l1 : Int32} {l2 : Int32} {l3 : Int32} {Ph : bs_Po} {t : bs_Mm} : ∀ n (y0 : Int32) (mu1 : bs_Mm), fg_lp (FX12_findFewest_b16 m l1 l2 l3) n (y0, mu1) = some t → fg_R R mu1 → (ke : ∀ s, t = s → fg_R R s → bs_W Ph mX12_findFewest (bs_rm 3 0 0) 131 (bs_mk [(0, .ref m), (1, .int l1), (2, .int l2), (3, .int l3)]) [] 0 0 nx sh s) → bs_W Ph mX12_findFewest (bs_rm 3 0 0) 16 (bs_mk [(0, .ref m), (1, .int l1), (2, .int l2), (3, .int l3), (4, .int y0)]) [] 0 0 nx sh mu1 := by
  intro n
  induction n with
  | zero => intro y0 mu1 h; exact absurd h (fun z => fg_lp0 z)
  | succ n ih =>
    intro y0 mu1 h hR ke
    obtain ⟨r, hb, h1, h2⟩ := fg_lpE h
    exact wFX12_findFewest_b16 (s := (y0, mu1)) HM (fun s' e hR' => ih s'.1 s'.2 (h1 s' e) hR' ke) (fun s' e => ke s' (h2 _ e).symm) hR hb
noncomputable def FX12_findFewest (m : Nat) (mu : bs_Mm) (p1 : Int32) (p2 : Int32) : Option (bs_Mm) :=
  fg_bd (FX12_all m mu p1) (fun v2 => 
  fg_gd (fg_in (nI 0) 1024) (
  fg_wr mu (m + 25) (nI 0).toNatClampNeg (.int (nI 0)) (fun mu4 => 
  fg_bd (fg_lp (FX12_findFewest_b16 m p1 p2 v2) fg_fu ((nI 1), mu4)) (fun t19 => 
    some t19
  ))))
set_option maxHeartbeats 4000000 in
theorem wX12_findFewest {nx : Nat} {sh : bs_Sh} {R : Nat → Nat → Option Nat} {m : Nat} (HM : fg_S (bs_tM m) R m sh) {mu : bs_Mm} (hR : fg_R R mu) {p1 : Int32} {p2 : Int32} {r : bs_Mm} (h : FX12_findFewest m mu p1 p2 = some r) : bs_C mX12_findFewest (bs_rm 3 0 0) [.ref m, .int p1, .int p2] nx sh mu (fg_po R nx sh none r) := by
  refine bs_ct (by decide +kernel) (Nat.le_of_ble_eq_true rfl) ?_
  have kr : ∀ q, r = q → fg_R R q → (fg_po R nx sh none r) none nx sh q := fun q e hq => by subst e; exact ⟨rfl, rfl, rfl, rfl, hq⟩
  unfold FX12_findFewest at h
  refine bs_aload_n dX12_findFewest_0 rfl ?_
  refine bs_iload_n dX12_findFewest_1 rfl ?_
  obtain ⟨v2, k1, h⟩ := fg_bdE h
  refine fg_callV dX12_findFewest_2 qX12_287 (wX12_all HM hR k1) rfl (HM.s 0 rfl rfl rfl) rfl (Nat.le_of_ble_eq_true rfl) (fg_cr (by first | decide | omega) (by decide)) (fun hR => ?_)
  refine bs_istore_n dX12_findFewest_5 rfl (by decide) ?_
  refine bs_aload_n dX12_findFewest_6 rfl ?_
  refine fg_getR (b := (m + 25)) dX12_findFewest_7 fX12_83 (HM.s 0 rfl rfl rfl) hR (HM.r 0 37 rfl rfl rfl) ?_
  refine bs_iconst (v := (nI 0)) dX12_findFewest_10 (by decide) ?_
  refine bs_iconst (v := (nI 0)) dX12_findFewest_11 (by decide) ?_
  obtain ⟨g3, h⟩ := fg_gdE h
  refine fg_iast dX12_findFewest_12 (HM.ss 25 rfl rfl) (fun j => HM.n 25 j rfl rfl rfl) g3 hR h (fun mu4 hR h => ?_)
  refine bs_iconst (v := (nI 1)) dX12_findFewest_13 (by decide) ?_
  refine bs_istore dX12_findFewest_14 rfl (by decide) ?_
  obtain ⟨t19, k20, h⟩ := fg_bdE h
  refine bs_W.mk [(0, .ref m), (1, .int p1), (2, .int p2), (3, .int v2), (4, .int (nI 1))] (by intro q hq; simp only [List.mem_cons, List.not_mem_nil, or_false] at hq; rcases hq with rfl | rfl | rfl | rfl | rfl <;> rfl) ?_
  refine wFX12_findFewest_l16 HM _ _ _ k20 hR ?_
  intro s e hR
  subst e
  cases h
  exact bs_vret dX12_findFewest_131 rfl (Nat.zero_le _) (Nat.zero_le _) (kr _ rfl hR)
noncomputable def FX12_guest_j29 (m : Nat) (mu : bs_Mm) (l1 : Int32) (l2 : Int32) (t1 : Int32) : Option (Int32 × bs_Mm) :=
  fg_wr mu m 0 (.int t1) (fun mu3 => 
  if (bs_iv (mu3 m 0)) = (nI 1) then (
    some ((nI 0), mu3)
  ) else (
    fg_gd (fg_in (((nI 4) * l1) + l2) 120) (
    some ((bs_iv (mu3 (m + 31) (((nI 4) * l1) + l2).toNatClampNeg)), mu3))
  ))
set_option maxHeartbeats 4000000 in
theorem wFX12_guest_j29 {nx : Nat} {sh : bs_Sh} {R : Nat → Nat → Option Nat} {m : Nat} (HM : fg_S (bs_tM m) R m sh) {mu : bs_Mm} {l1 : Int32} {l2 : Int32} {t1 : Int32} {Ph : bs_Po} {r : Int32 × bs_Mm} (kr : ∀ q, r = q → fg_R R q.2 → Ph (some (.int q.1)) nx sh q.2) (hR : fg_R R mu) (h : FX12_guest_j29 m mu l1 l2 t1 = some r) : bs_W Ph mX12_guest (bs_rm 1 0 0) 29 (bs_mk [(0, .ref m), (1, .int l1), (2, .int l2)]) [.int t1, .ref m] 0 0 nx sh mu := by
  unfold FX12_guest_j29 at h
  refine fg_putI dX12_guest_29 pX12_118 (HM.s 0 rfl rfl rfl) (HM.n 0 0 rfl rfl rfl) hR h (fun mu3 hR h => ?_)
  refine bs_aload_n dX12_guest_32 rfl ?_
  refine bs_getI dX12_guest_33 fX12_118 (HM.s 0 rfl rfl rfl) ?_
  refine bs_iconst (v := (nI 1)) dX12_guest_36 (by decide) ?_
  refine bs_icmp_ne (tgt := 44) dX12_guest_37 (by decide) (fun c => ?_) (fun c => ?_)
  · replace h := fg_iN c h
    refine bs_aload_n dX12_guest_44 rfl ?_
    refine fg_getR (b := (m + 31)) dX12_guest_45 fX12_102 (HM.s 0 rfl rfl rfl) hR (HM.r 0 43 rfl rfl rfl) ?_
    refine bs_iconst (v := (nI 4)) dX12_guest_48 (by decide) ?_
    refine bs_iload_n dX12_guest_49 rfl ?_
    refine bs_imul dX12_guest_50 ?_
    refine bs_iload_n dX12_guest_51 rfl ?_
    refine bs_iadd dX12_guest_52 ?_
    obtain ⟨g4, h⟩ := fg_gdE h
    refine bs_iald dX12_guest_53 (HM.ss 31 rfl rfl) (fg_in_ix g4) ?_
    cases h
    exact bs_iret dX12_guest_54 rfl (Nat.zero_le _) (Nat.zero_le _) (kr _ rfl hR)
  · replace h := fg_ip c h
    refine bs_iconst (v := (nI 0)) dX12_guest_40 (by decide) ?_
    refine bs_goto (tgt := 54) dX12_guest_41 (by decide) ?_
    cases h
    exact bs_iret dX12_guest_54 rfl (Nat.zero_le _) (Nat.zero_le _) (kr _ rfl hR)
noncomputable def FX12_guest_j28 (m : Nat) (mu : bs_Mm) (l1 : Int32) (l2 : Int32) : Option (Int32 × bs_Mm) :=
  FX12_guest_j29 m mu l1 l2 (nI 1)
set_option maxHeartbeats 4000000 in
theorem wFX12_guest_j28 {nx : Nat} {sh : bs_Sh} {R : Nat → Nat → Option Nat} {m : Nat} (HM : fg_S (bs_tM m) R m sh) {mu : bs_Mm} {l1 : Int32} {l2 : Int32} {Ph : bs_Po} {r : Int32 × bs_Mm} (kr : ∀ q, r = q → fg_R R q.2 → Ph (some (.int q.1)) nx sh q.2) (hR : fg_R R mu) (h : FX12_guest_j28 m mu l1 l2 = some r) : bs_W Ph mX12_guest (bs_rm 1 0 0) 28 (bs_mk [(0, .ref m), (1, .int l1), (2, .int l2)]) [.ref m] 0 0 nx sh mu := by
  unfold FX12_guest_j28 at h
  refine bs_iconst (v := (nI 1)) dX12_guest_28 (by decide) ?_
  refine bs_W.mk [(0, .ref m), (1, .int l1), (2, .int l2)] (by intro q hq; simp only [List.mem_cons, List.not_mem_nil, or_false] at hq; rcases hq with rfl | rfl | rfl <;> rfl) ?_
  exact wFX12_guest_j29 HM kr hR h
noncomputable def FX12_guest (m : Nat) (mu : bs_Mm) (p1 : Int32) (p2 : Int32) : Option (Int32 × bs_Mm) :=
  fg_bd (FX12_in m mu p1 (nI 0) ((bs_iv (mu m 46)) - (nI 1))) (fun v2 => 
  if v2 = 0 then (
    FX12_guest_j28 m mu p1 p2
  ) else (
    fg_bd (FX12_in m mu p2 (nI 0) (nI 3)) (fun v6 => 
    if v6 = 0 then (
      FX12_guest_j28 m mu p1 p2
    ) else (
      FX12_guest_j29 m mu p1 p2 (nI 0)
    ))
  ))
set_option maxHeartbeats 4000000 in
theorem wX12_guest {nx : Nat} {sh : bs_Sh} {R : Nat → Nat → Option Nat} {m : Nat} (HM : fg_S (bs_tM m) R m sh) {mu : bs_Mm} (hR : fg_R R mu) {p1 : Int32} {p2 : Int32} {r : Int32 × bs_Mm} (h : FX12_guest m mu p1 p2 = some r) : bs_C mX12_guest (bs_rm 1 0 0) [.ref m, .int p1, .int p2] nx sh mu (fg_po R nx sh (some (.int r.1)) r.2) := by
  refine bs_ct (by decide +kernel) (Nat.le_of_ble_eq_true rfl) ?_
  have kr : ∀ q, r = q → fg_R R q.2 → (fg_po R nx sh (some (.int r.1)) r.2) (some (.int q.1)) nx sh q.2 := fun q e hq => by subst e; exact ⟨rfl, rfl, rfl, rfl, hq⟩
  unfold FX12_guest at h
  refine bs_aload_n dX12_guest_0 rfl ?_
  refine bs_iload_n dX12_guest_1 rfl ?_
  refine bs_iconst (v := (nI 0)) dX12_guest_2 (by decide) ?_
  refine bs_aload_n dX12_guest_3 rfl ?_
  refine bs_getI dX12_guest_4 fX12_396 (HM.s 0 rfl rfl rfl) ?_
  refine bs_iconst (v := (nI 1)) dX12_guest_7 (by decide) ?_
  refine bs_isub dX12_guest_8 ?_
  obtain ⟨v2, k1, h⟩ := fg_bdE h
  refine fg_callS dX12_guest_9 qX12_121 (wX12_in HM hR k1) rfl rfl (Nat.le_of_ble_eq_true rfl) (fg_cr (by first | decide | omega) (by decide)) (fun hR => ?_)
  refine bs_if_eq (tgt := 28) dX12_guest_12 (by decide) (fun c => ?_) (fun c => ?_)
  · replace h := fg_ip c h
    refine bs_W.mk [(0, .ref m), (1, .int p1), (2, .int p2)] (by intro q hq; simp only [List.mem_cons, List.not_mem_nil, or_false] at hq; rcases hq with rfl | rfl | rfl <;> rfl) ?_
    exact wFX12_guest_j28 HM kr hR h
  · replace h := fg_iN c h
    refine bs_iload_n dX12_guest_15 rfl ?_
    refine bs_iconst (v := (nI 0)) dX12_guest_16 (by decide) ?_
    refine bs_iconst (v := (nI 3)) dX12_guest_17 (by decide) ?_
    obtain ⟨v6, k5, h⟩ := fg_bdE h
    refine fg_callS dX12_guest_18 qX12_121 (wX12_in HM hR k5) rfl rfl (Nat.le_of_ble_eq_true rfl) (fg_cr (by first | decide | omega) (by decide)) (fun hR => ?_)
    refine bs_if_eq (tgt := 28) dX12_guest_21 (by decide) (fun c => ?_) (fun c => ?_)
    · replace h := fg_ip c h
      refine bs_W.mk [(0, .ref m), (1, .int p1), (2, .int p2)] (by intro q hq; simp only [List.mem_cons, List.not_mem_nil, or_false] at hq; rcases hq with rfl | rfl | rfl <;> rfl) ?_
      exact wFX12_guest_j28 HM kr hR h
    · replace h := fg_iN c h
      refine bs_iconst (v := (nI 0)) dX12_guest_24 (by decide) ?_
      refine bs_goto (tgt := 29) dX12_guest_25 (by decide) ?_
      refine bs_W.mk [(0, .ref m), (1, .int p1), (2, .int p2)] (by intro q hq; simp only [List.mem_cons, List.not_mem_nil, or_false] at hq; rcases hq with rfl | rfl | rfl <;> rfl) ?_
      exact wFX12_guest_j29 HM kr hR h
noncomputable def FX12_hands (m : Nat) (mu : bs_Mm) (p1 : Int32) : Option (Int32) :=
  fg_bd (FX12_isFigure m mu p1) (fun v2 => 
  if v2 = 0 then (
    some ((-1))
  ) else (
    fg_gd (fg_in p1 13) (
    some ((bs_iv (mu (m + 14) p1.toNatClampNeg))))
  ))
set_option maxHeartbeats 4000000 in
theorem wX12_hands {nx : Nat} {sh : bs_Sh} {R : Nat → Nat → Option Nat} {m : Nat} (HM : fg_S (bs_tM m) R m sh) {mu : bs_Mm} (hR : fg_R R mu) {p1 : Int32} {r : Int32} (h : FX12_hands m mu p1 = some r) : bs_C mX12_hands (bs_rm 2 0 0) [.ref m, .int p1] nx sh mu (fg_po R nx sh (some (.int r)) mu) := by
  refine bs_ct (by decide +kernel) (Nat.le_of_ble_eq_true rfl) ?_
  have kr : ∀ q, r = q → fg_R R mu → (fg_po R nx sh (some (.int r)) mu) (some (.int q)) nx sh mu := fun q e hq => by subst e; exact ⟨rfl, rfl, rfl, rfl, hq⟩
  unfold FX12_hands at h
  refine bs_aload_n dX12_hands_0 rfl ?_
  refine bs_iload_n dX12_hands_1 rfl ?_
  obtain ⟨v2, k1, h⟩ := fg_bdE h
  refine fg_callV dX12_hands_2 qX12_284 (wX12_isFigure HM hR k1) rfl (HM.s 0 rfl rfl rfl) rfl (Nat.le_of_ble_eq_true rfl) (fg_cr (by first | decide | omega) (by decide)) (fun hR => ?_)
  refine bs_if_eq (tgt := 17) dX12_hands_5 (by decide) (fun c => ?_) (fun c => ?_)
  · replace h := fg_ip c h
    refine bs_iconst (v := (-1)) dX12_hands_17 (by decide) ?_
    cases h
    exact bs_iret dX12_hands_18 rfl (Nat.zero_le _) (Nat.zero_le _) (kr _ rfl hR)
  · replace h := fg_iN c h
    refine bs_aload_n dX12_hands_8 rfl ?_
    refine fg_getR (b := (m + 14)) dX12_hands_9 fX12_49 (HM.s 0 rfl rfl rfl) hR (HM.r 0 19 rfl rfl rfl) ?_
    refine bs_iload_n dX12_hands_12 rfl ?_
    obtain ⟨g3, h⟩ := fg_gdE h
    refine bs_iald dX12_hands_13 (HM.ss 14 rfl rfl) (fg_in_ix g3) ?_
    refine bs_goto (tgt := 18) dX12_hands_14 (by decide) ?_
    cases h
    exact bs_iret dX12_hands_18 rfl (Nat.zero_le _) (Nat.zero_le _) (kr _ rfl hR)
noncomputable def FX12_isSlack (m : Nat) (mu : bs_Mm) (p1 : Int32) (p2 : Int32) : Option (Int32) :=
  fg_gd (fg_in (((nI 24) * p1) + p2) 312) (
  fg_bd (FX12_all m mu p1) (fun v3 => 
  fg_bd (FX12_endsIn m mu p1 (bs_iv (mu (m + 12) (((nI 24) * p1) + p2).toNatClampNeg)) v3) (fun v5 => 
  if (nI 3) ≤ v5 then (
    some ((nI 0))
  ) else (
    some ((nI 1))
  ))))
set_option maxHeartbeats 4000000 in
theorem wX12_isSlack {nx : Nat} {sh : bs_Sh} {R : Nat → Nat → Option Nat} {m : Nat} (HM : fg_S (bs_tM m) R m sh) {mu : bs_Mm} (hR : fg_R R mu) {p1 : Int32} {p2 : Int32} {r : Int32} (h : FX12_isSlack m mu p1 p2 = some r) : bs_C mX12_isSlack (bs_rm 1 0 0) [.ref m, .int p1, .int p2] nx sh mu (fg_po R nx sh (some (.int r)) mu) := by
  refine bs_ct (by decide +kernel) (Nat.le_of_ble_eq_true rfl) ?_
  have kr : ∀ q, r = q → fg_R R mu → (fg_po R nx sh (some (.int r)) mu) (some (.int q)) nx sh mu := fun q e hq => by subst e; exact ⟨rfl, rfl, rfl, rfl, hq⟩
  unfold FX12_isSlack at h
  refine bs_aload_n dX12_isSlack_0 rfl ?_
  refine bs_iload_n dX12_isSlack_1 rfl ?_
  refine bs_aload_n dX12_isSlack_2 rfl ?_
  refine fg_getR (b := (m + 12)) dX12_isSlack_3 fX12_43 (HM.s 0 rfl rfl rfl) hR (HM.r 0 17 rfl rfl rfl) ?_
  refine bs_bipush (v := (nI 24)) dX12_isSlack_6 (by decide) ?_
  refine bs_iload_n dX12_isSlack_8 rfl ?_
  refine bs_imul dX12_isSlack_9 ?_
  refine bs_iload_n dX12_isSlack_10 rfl ?_
  refine bs_iadd dX12_isSlack_11 ?_
  obtain ⟨g1, h⟩ := fg_gdE h
  refine bs_iald dX12_isSlack_12 (HM.ss 12 rfl rfl) (fg_in_ix g1) ?_
  refine bs_aload_n dX12_isSlack_13 rfl ?_
  refine bs_iload_n dX12_isSlack_14 rfl ?_
  obtain ⟨v3, k2, h⟩ := fg_bdE h
  refine fg_callV dX12_isSlack_15 qX12_287 (wX12_all HM hR k2) rfl (HM.s 0 rfl rfl rfl) rfl (Nat.le_of_ble_eq_true rfl) (fg_cr (by first | decide | omega) (by decide)) (fun hR => ?_)
  obtain ⟨v5, k4, h⟩ := fg_bdE h
  refine fg_callV dX12_isSlack_18 qX12_290 (wX12_endsIn HM hR k4) rfl (HM.s 0 rfl rfl rfl) rfl (Nat.le_of_ble_eq_true rfl) (fg_cr (by first | decide | omega) (by decide)) (fun hR => ?_)
  refine bs_iconst (v := (nI 3)) dX12_isSlack_21 (by decide) ?_
  refine bs_icmp_ge (tgt := 29) dX12_isSlack_22 (by decide) (fun c => ?_) (fun c => ?_)
  · replace h := fg_ip c h
    refine bs_iconst (v := (nI 0)) dX12_isSlack_29 (by decide) ?_
    cases h
    exact bs_zret dX12_isSlack_30 rfl (Or.inl rfl) (Nat.zero_le _) (Nat.zero_le _) (kr _ rfl hR)
  · replace h := fg_iN c h
    refine bs_iconst (v := (nI 1)) dX12_isSlack_25 (by decide) ?_
    refine bs_goto (tgt := 30) dX12_isSlack_26 (by decide) ?_
    cases h
    exact bs_zret dX12_isSlack_30 rfl (Or.inr rfl) (Nat.zero_le _) (Nat.zero_le _) (kr _ rfl hR)
noncomputable def FX12_holds (m : Nat) (mu : bs_Mm) (p1 : Int32) (p2 : Int32) : Option (Int32) :=
  fg_bd (FX12_isBubble m mu p1 p2) (fun v2 => 
  if v2 = 0 then (
    some ((-1))
  ) else (
    fg_bd (FX12_isTwist m mu p1 p2) (fun v4 => 
    if v4 = 0 then (
      some ((-1))
    ) else (
      fg_bd (FX12_isSlack m mu p1 p2) (fun v6 => 
      if v6 = 0 then (
        some ((nI 1))
      ) else (
        some ((nI 0))
      ))
    ))
  ))
set_option maxHeartbeats 4000000 in
theorem wX12_holds {nx : Nat} {sh : bs_Sh} {R : Nat → Nat → Option Nat} {m : Nat} (HM : fg_S (bs_tM m) R m sh) {mu : bs_Mm} (hR : fg_R R mu) {p1 : Int32} {p2 : Int32} {r : Int32} (h : FX12_holds m mu p1 p2 = some r) : bs_C mX12_holds (bs_rm 3 0 0) [.ref m, .int p1, .int p2] nx sh mu (fg_po R nx sh (some (.int r)) mu) := by
  refine bs_ct (by decide +kernel) (Nat.le_of_ble_eq_true rfl) ?_
  have kr : ∀ q, r = q → fg_R R mu → (fg_po R nx sh (some (.int r)) mu) (some (.int q)) nx sh mu := fun q e hq => by subst e; exact ⟨rfl, rfl, rfl, rfl, hq⟩
  unfold FX12_holds at h
  refine bs_aload_n dX12_holds_0 rfl ?_
  refine bs_iload_n dX12_holds_1 rfl ?_
  refine bs_iload_n dX12_holds_2 rfl ?_
  obtain ⟨v2, k1, h⟩ := fg_bdE h
  refine fg_callV dX12_holds_3 qX12_304 (wX12_isBubble HM hR k1) rfl (HM.s 0 rfl rfl rfl) rfl (Nat.le_of_ble_eq_true rfl) (fg_cr (by first | decide | omega) (by decide)) (fun hR => ?_)
  refine bs_if_eq (tgt := 35) dX12_holds_6 (by decide) (fun c => ?_) (fun c => ?_)
  · replace h := fg_ip c h
    refine bs_iconst (v := (-1)) dX12_holds_35 (by decide) ?_
    cases h
    exact bs_iret dX12_holds_36 rfl (Nat.zero_le _) (Nat.zero_le _) (kr _ rfl hR)
  · replace h := fg_iN c h
    refine bs_aload_n dX12_holds_9 rfl ?_
    refine bs_iload_n dX12_holds_10 rfl ?_
    refine bs_iload_n dX12_holds_11 rfl ?_
    obtain ⟨v4, k3, h⟩ := fg_bdE h
    refine fg_callV dX12_holds_12 qX12_294 (wX12_isTwist HM hR k3) rfl (HM.s 0 rfl rfl rfl) rfl (Nat.le_of_ble_eq_true rfl) (fg_cr (by first | decide | omega) (by decide)) (fun hR => ?_)
    refine bs_if_eq (tgt := 35) dX12_holds_15 (by decide) (fun c => ?_) (fun c => ?_)
    · replace h := fg_ip c h
      refine bs_iconst (v := (-1)) dX12_holds_35 (by decide) ?_
      cases h
      exact bs_iret dX12_holds_36 rfl (Nat.zero_le _) (Nat.zero_le _) (kr _ rfl hR)
    · replace h := fg_iN c h
      refine bs_aload_n dX12_holds_18 rfl ?_
      refine bs_iload_n dX12_holds_19 rfl ?_
      refine bs_iload_n dX12_holds_20 rfl ?_
      obtain ⟨v6, k5, h⟩ := fg_bdE h
      refine fg_callV dX12_holds_21 qX12_298 (wX12_isSlack HM hR k5) rfl (HM.s 0 rfl rfl rfl) rfl (Nat.le_of_ble_eq_true rfl) (fg_cr (by first | decide | omega) (by decide)) (fun hR => ?_)
      refine bs_if_eq (tgt := 31) dX12_holds_24 (by decide) (fun c => ?_) (fun c => ?_)
      · replace h := fg_ip c h
        refine bs_iconst (v := (nI 1)) dX12_holds_31 (by decide) ?_
        refine bs_goto (tgt := 36) dX12_holds_32 (by decide) ?_
        cases h
        exact bs_iret dX12_holds_36 rfl (Nat.zero_le _) (Nat.zero_le _) (kr _ rfl hR)
      · replace h := fg_iN c h
        refine bs_iconst (v := (nI 0)) dX12_holds_27 (by decide) ?_
        refine bs_goto (tgt := 36) dX12_holds_28 (by decide) ?_
        cases h
        exact bs_iret dX12_holds_36 rfl (Nat.zero_le _) (Nat.zero_le _) (kr _ rfl hR)
noncomputable def FX12_inBalloon_b5 (m : Nat) (mu : bs_Mm) (l1 : Int32) (l2 : Int32) (s : Int32 × Int32) : Option ((Int32 × Int32) ⊕ (Int32)) :=
  fg_gd (fg_in l1 13) (
  if (bs_iv (mu (m + 8) l1.toNatClampNeg)) ≤ s.2 then (
    some (.inr s.1)
  ) else (
    fg_gd (fg_in (((nI 24) * l1) + s.2) 312) (
    if (bs_iv (mu (m + 13) (((nI 24) * l1) + s.2).toNatClampNeg)) = l2 then (
      some (.inl ((s.1 + (nI 1)), (s.2 + (nI 1))))
    ) else (
      some (.inl ((s.1 + (nI 0)), (s.2 + (nI 1))))
    ))
  ))
set_option maxHeartbeats 4000000 in
theorem wFX12_inBalloon_b5 {nx : Nat} {sh : bs_Sh} {R : Nat → Nat → Option Nat} {m : Nat} (HM : fg_S (bs_tM m) R m sh) {mu : bs_Mm} {l1 : Int32} {l2 : Int32} {Ph : bs_Po} {s : Int32 × Int32} {r : (Int32 × Int32) ⊕ (Int32)} (ka : ∀ s, r = .inl s → bs_W Ph mX12_inBalloon (bs_rm 0 0 0) 5 (bs_mk [(0, .ref m), (1, .int l1), (2, .int l2), (3, .int s.1), (4, .int s.2)]) [] 0 0 nx sh mu) (ke : ∀ s, r = .inr s → bs_W Ph mX12_inBalloon (bs_rm 0 0 0) 46 (bs_mk [(0, .ref m), (1, .int l1), (2, .int l2), (3, .int s)]) [] 0 0 nx sh mu) (hR : fg_R R mu) (h : FX12_inBalloon_b5 m mu l1 l2 s = some r) : bs_W Ph mX12_inBalloon (bs_rm 0 0 0) 5 (bs_mk [(0, .ref m), (1, .int l1), (2, .int l2), (3, .int s.1), (4, .int s.2)]) [] 0 0 nx sh mu := by
  unfold FX12_inBalloon_b5 at h
  refine bs_iload dX12_inBalloon_5 rfl ?_
  refine bs_aload_n dX12_inBalloon_7 rfl ?_
  refine fg_getR (b := (m + 8)) dX12_inBalloon_8 fX12_31 (HM.s 0 rfl rfl rfl) hR (HM.r 0 13 rfl rfl rfl) ?_
  refine bs_iload_n dX12_inBalloon_11 rfl ?_
  obtain ⟨g1, h⟩ := fg_gdE h
  refine bs_iald dX12_inBalloon_12 (HM.ss 8 rfl rfl) (fg_in_ix g1) ?_
  refine bs_icmp_ge (tgt := 46) dX12_inBalloon_13 (by decide) (fun c => ?_) (fun c => ?_)
  · replace h := fg_ip c h
    cases h
    refine bs_W.mk [(0, .ref m), (1, .int l1), (2, .int l2), (3, .int s.1)] (by intro q hq; simp only [List.mem_cons, List.not_mem_nil, or_false] at hq; rcases hq with rfl | rfl | rfl | rfl <;> rfl) (ke _ rfl)
  · replace h := fg_iN c h
    refine bs_iload_n dX12_inBalloon_16 rfl ?_
    refine bs_aload_n dX12_inBalloon_17 rfl ?_
    refine fg_getR (b := (m + 13)) dX12_inBalloon_18 fX12_46 (HM.s 0 rfl rfl rfl) hR (HM.r 0 18 rfl rfl rfl) ?_
    refine bs_bipush (v := (nI 24)) dX12_inBalloon_21 (by decide) ?_
    refine bs_iload_n dX12_inBalloon_23 rfl ?_
    refine bs_imul dX12_inBalloon_24 ?_
    refine bs_iload dX12_inBalloon_25 rfl ?_
    refine bs_iadd dX12_inBalloon_27 ?_
    obtain ⟨g2, h⟩ := fg_gdE h
    refine bs_iald dX12_inBalloon_28 (HM.ss 13 rfl rfl) (fg_in_ix g2) ?_
    refine bs_iload_n dX12_inBalloon_29 rfl ?_
    refine bs_icmp_ne (tgt := 37) dX12_inBalloon_30 (by decide) (fun c => ?_) (fun c => ?_)
    · replace h := fg_iN c h
      refine bs_iconst (v := (nI 0)) dX12_inBalloon_37 (by decide) ?_
      refine bs_iadd dX12_inBalloon_38 ?_
      refine bs_istore_n dX12_inBalloon_39 rfl (by decide) ?_
      refine fg_iinc (m := (nI 1)) dX12_inBalloon_40 rfl rfl (by decide) ?_
      refine bs_goto (tgt := 5) dX12_inBalloon_43 (by decide) ?_
      cases h
      refine bs_W.mk [(0, .ref m), (1, .int l1), (2, .int l2), (3, .int (s.1 + (nI 0))), (4, .int (s.2 + (nI 1)))] (by intro q hq; simp only [List.mem_cons, List.not_mem_nil, or_false] at hq; rcases hq with rfl | rfl | rfl | rfl | rfl <;> rfl) (by have k := ka _ rfl; dsimp only at k; exact k)
    · replace h := fg_ip c h
      refine bs_iconst (v := (nI 1)) dX12_inBalloon_33 (by decide) ?_
      refine bs_goto (tgt := 38) dX12_inBalloon_34 (by decide) ?_
      refine bs_iadd dX12_inBalloon_38 ?_
      refine bs_istore_n dX12_inBalloon_39 rfl (by decide) ?_
      refine fg_iinc (m := (nI 1)) dX12_inBalloon_40 rfl rfl (by decide) ?_
      refine bs_goto (tgt := 5) dX12_inBalloon_43 (by decide) ?_
      cases h
      refine bs_W.mk [(0, .ref m), (1, .int l1), (2, .int l2), (3, .int (s.1 + (nI 1))), (4, .int (s.2 + (nI 1)))] (by intro q hq; simp only [List.mem_cons, List.not_mem_nil, or_false] at hq; rcases hq with rfl | rfl | rfl | rfl | rfl <;> rfl) (by have k := ka _ rfl; dsimp only at k; exact k)
theorem wFX12_inBalloon_l5 {nx : Nat} {sh : bs_Sh} {R : Nat → Nat → Option Nat} {m : Nat} (HM : fg_S (bs_tM m) R m sh) {mu : bs_Mm} {l1 : Int32} {l2 : Int32} {Ph : bs_Po} {t : Int32} : ∀ n (y0 : Int32) (y1 : Int32), fg_lp (FX12_inBalloon_b5 m mu l1 l2) n (y0, y1) = some t → fg_R R mu → (ke : ∀ s, t = s → bs_W Ph mX12_inBalloon (bs_rm 0 0 0) 46 (bs_mk [(0, .ref m), (1, .int l1), (2, .int l2), (3, .int s)]) [] 0 0 nx sh mu) → bs_W Ph mX12_inBalloon (bs_rm 0 0 0) 5 (bs_mk [(0, .ref m), (1, .int l1), (2, .int l2), (3, .int y0), (4, .int y1)]) [] 0 0 nx sh mu := by
  intro n
  induction n with
  | zero => intro y0 y1 h; exact absurd h (fun z => fg_lp0 z)
  | succ n ih =>
    intro y0 y1 h hR ke
    obtain ⟨r, hb, h1, h2⟩ := fg_lpE h
    exact wFX12_inBalloon_b5 (s := (y0, y1)) HM (fun s' e => ih s'.1 s'.2 (h1 s' e) hR ke) (fun s' e => ke s' (h2 _ e).symm) hR hb
noncomputable def FX12_inBalloon (m : Nat) (mu : bs_Mm) (p1 : Int32) (p2 : Int32) : Option (Int32) :=
  fg_bd (fg_lp (FX12_inBalloon_b5 m mu p1 p2) fg_fu ((nI 0), (nI 0))) (fun t3 => 
    some (t3)
  )
set_option maxHeartbeats 4000000 in
theorem wX12_inBalloon {nx : Nat} {sh : bs_Sh} {R : Nat → Nat → Option Nat} {m : Nat} (HM : fg_S (bs_tM m) R m sh) {mu : bs_Mm} (hR : fg_R R mu) {p1 : Int32} {p2 : Int32} {r : Int32} (h : FX12_inBalloon m mu p1 p2 = some r) : bs_C mX12_inBalloon (bs_rm 0 0 0) [.ref m, .int p1, .int p2] nx sh mu (fg_po R nx sh (some (.int r)) mu) := by
  refine bs_ct (by decide +kernel) (Nat.le_of_ble_eq_true rfl) ?_
  have kr : ∀ q, r = q → fg_R R mu → (fg_po R nx sh (some (.int r)) mu) (some (.int q)) nx sh mu := fun q e hq => by subst e; exact ⟨rfl, rfl, rfl, rfl, hq⟩
  unfold FX12_inBalloon at h
  refine bs_iconst (v := (nI 0)) dX12_inBalloon_0 (by decide) ?_
  refine bs_istore_n dX12_inBalloon_1 rfl (by decide) ?_
  refine bs_iconst (v := (nI 0)) dX12_inBalloon_2 (by decide) ?_
  refine bs_istore dX12_inBalloon_3 rfl (by decide) ?_
  obtain ⟨t3, k4, h⟩ := fg_bdE h
  refine bs_W.mk [(0, .ref m), (1, .int p1), (2, .int p2), (3, .int (nI 0)), (4, .int (nI 0))] (by intro q hq; simp only [List.mem_cons, List.not_mem_nil, or_false] at hq; rcases hq with rfl | rfl | rfl | rfl | rfl <;> rfl) ?_
  refine wFX12_inBalloon_l5 HM _ _ _ k4 hR ?_
  intro s e
  subst e
  refine bs_iload_n dX12_inBalloon_46 rfl ?_
  cases h
  exact bs_iret dX12_inBalloon_47 rfl (Nat.zero_le _) (Nat.zero_le _) (kr _ rfl hR)
noncomputable def FX12_isSort (m : Nat) (mu : bs_Mm) (p1 : Int32) : Option (Int32) :=
  fg_bd (FX12_in m mu p1 (nI 0) ((bs_iv (mu m 5)) - (nI 1))) (fun v2 => 
  fg_gd (decide (v2 = 0 ∨ v2 = 1)) (
  some (v2)))
set_option maxHeartbeats 4000000 in
theorem wX12_isSort {nx : Nat} {sh : bs_Sh} {R : Nat → Nat → Option Nat} {m : Nat} (HM : fg_S (bs_tM m) R m sh) {mu : bs_Mm} (hR : fg_R R mu) {p1 : Int32} {r : Int32} (h : FX12_isSort m mu p1 = some r) : bs_C mX12_isSort (bs_rm 1 0 0) [.ref m, .int p1] nx sh mu (fg_po R nx sh (some (.int r)) mu) := by
  refine bs_ct (by decide +kernel) (Nat.le_of_ble_eq_true rfl) ?_
  have kr : ∀ q, r = q → fg_R R mu → (fg_po R nx sh (some (.int r)) mu) (some (.int q)) nx sh mu := fun q e hq => by subst e; exact ⟨rfl, rfl, rfl, rfl, hq⟩
  unfold FX12_isSort at h
  refine bs_iload_n dX12_isSort_0 rfl ?_
  refine bs_iconst (v := (nI 0)) dX12_isSort_1 (by decide) ?_
  refine bs_aload_n dX12_isSort_2 rfl ?_
  refine bs_getI dX12_isSort_3 fX12_125 (HM.s 0 rfl rfl rfl) ?_
  refine bs_iconst (v := (nI 1)) dX12_isSort_6 (by decide) ?_
  refine bs_isub dX12_isSort_7 ?_
  obtain ⟨v2, k1, h⟩ := fg_bdE h
  refine fg_callS dX12_isSort_8 qX12_121 (wX12_in HM hR k1) rfl rfl (Nat.le_of_ble_eq_true rfl) (fg_cr (by first | decide | omega) (by decide)) (fun hR => ?_)
  obtain ⟨g3, h⟩ := fg_gdE h
  cases h
  exact bs_zret dX12_isSort_11 rfl (of_decide_eq_true g3) (Nat.zero_le _) (Nat.zero_le _) (kr _ rfl hR)
noncomputable def FX12_isThere_b15_L2 (m : Nat) (mu : bs_Mm) (l1 : Int32) (l2 : Int32) (s : Int32 × Int32) : Option ((Int32 × Int32) ⊕ (Int32)) :=
  fg_gd (fg_in l1 13) (
  if (bs_iv (mu (m + 6) l1.toNatClampNeg)) ≤ s.2 then (
    some (.inr s.1)
  ) else (
    fg_gd (fg_in (((nI 6) * l1) + s.2) 78) (
    if (bs_iv (mu (m + 7) (((nI 6) * l1) + s.2).toNatClampNeg)) = l2 then (
      some (.inl ((s.1 + (nI 1)), (s.2 + (nI 1))))
    ) else (
      some (.inl ((s.1 + (nI 0)), (s.2 + (nI 1))))
    ))
  ))
set_option maxHeartbeats 4000000 in
theorem wFX12_isThere_b15_L2 {nx : Nat} {sh : bs_Sh} {R : Nat → Nat → Option Nat} {m : Nat} (HM : fg_S (bs_tM m) R m sh) {mu : bs_Mm} {l1 : Int32} {l2 : Int32} {Ph : bs_Po} {s : Int32 × Int32} {r : (Int32 × Int32) ⊕ (Int32)} (ka : ∀ s, r = .inl s → bs_W Ph mX12_isThere (bs_rm 0 0 0) 15 (bs_mk [(0, .ref m), (1, .int l1), (2, .int l2), (3, .int s.1), (4, .int s.2)]) [] 0 0 nx sh mu) (ke : ∀ s, r = .inr s → bs_W Ph mX12_isThere (bs_rm 0 0 0) 56 (bs_mk [(0, .ref m), (1, .int l1), (2, .int l2), (3, .int s)]) [] 0 0 nx sh mu) (hR : fg_R R mu) (h : FX12_isThere_b15_L2 m mu l1 l2 s = some r) : bs_W Ph mX12_isThere (bs_rm 0 0 0) 15 (bs_mk [(0, .ref m), (1, .int l1), (2, .int l2), (3, .int s.1), (4, .int s.2)]) [] 0 0 nx sh mu := by
  unfold FX12_isThere_b15_L2 at h
  refine bs_iload dX12_isThere_15 rfl ?_
  refine bs_aload_n dX12_isThere_17 rfl ?_
  refine fg_getR (b := (m + 6)) dX12_isThere_18 fX12_25 (HM.s 0 rfl rfl rfl) hR (HM.r 0 11 rfl rfl rfl) ?_
  refine bs_iload_n dX12_isThere_21 rfl ?_
  obtain ⟨g1, h⟩ := fg_gdE h
  refine bs_iald dX12_isThere_22 (HM.ss 6 rfl rfl) (fg_in_ix g1) ?_
  refine bs_icmp_ge (tgt := 56) dX12_isThere_23 (by decide) (fun c => ?_) (fun c => ?_)
  · replace h := fg_ip c h
    cases h
    refine bs_W.mk [(0, .ref m), (1, .int l1), (2, .int l2), (3, .int s.1)] (by intro q hq; simp only [List.mem_cons, List.not_mem_nil, or_false] at hq; rcases hq with rfl | rfl | rfl | rfl <;> rfl) (ke _ rfl)
  · replace h := fg_iN c h
    refine bs_iload_n dX12_isThere_26 rfl ?_
    refine bs_aload_n dX12_isThere_27 rfl ?_
    refine fg_getR (b := (m + 7)) dX12_isThere_28 fX12_28 (HM.s 0 rfl rfl rfl) hR (HM.r 0 12 rfl rfl rfl) ?_
    refine bs_bipush (v := (nI 6)) dX12_isThere_31 (by decide) ?_
    refine bs_iload_n dX12_isThere_33 rfl ?_
    refine bs_imul dX12_isThere_34 ?_
    refine bs_iload dX12_isThere_35 rfl ?_
    refine bs_iadd dX12_isThere_37 ?_
    obtain ⟨g2, h⟩ := fg_gdE h
    refine bs_iald dX12_isThere_38 (HM.ss 7 rfl rfl) (fg_in_ix g2) ?_
    refine bs_iload_n dX12_isThere_39 rfl ?_
    refine bs_icmp_ne (tgt := 47) dX12_isThere_40 (by decide) (fun c => ?_) (fun c => ?_)
    · replace h := fg_iN c h
      refine bs_iconst (v := (nI 0)) dX12_isThere_47 (by decide) ?_
      refine bs_iadd dX12_isThere_48 ?_
      refine bs_istore_n dX12_isThere_49 rfl (by decide) ?_
      refine fg_iinc (m := (nI 1)) dX12_isThere_50 rfl rfl (by decide) ?_
      refine bs_goto (tgt := 15) dX12_isThere_53 (by decide) ?_
      cases h
      refine bs_W.mk [(0, .ref m), (1, .int l1), (2, .int l2), (3, .int (s.1 + (nI 0))), (4, .int (s.2 + (nI 1)))] (by intro q hq; simp only [List.mem_cons, List.not_mem_nil, or_false] at hq; rcases hq with rfl | rfl | rfl | rfl | rfl <;> rfl) (by have k := ka _ rfl; dsimp only at k; exact k)
    · replace h := fg_ip c h
      refine bs_iconst (v := (nI 1)) dX12_isThere_43 (by decide) ?_
      refine bs_goto (tgt := 48) dX12_isThere_44 (by decide) ?_
      refine bs_iadd dX12_isThere_48 ?_
      refine bs_istore_n dX12_isThere_49 rfl (by decide) ?_
      refine fg_iinc (m := (nI 1)) dX12_isThere_50 rfl rfl (by decide) ?_
      refine bs_goto (tgt := 15) dX12_isThere_53 (by decide) ?_
      cases h
      refine bs_W.mk [(0, .ref m), (1, .int l1), (2, .int l2), (3, .int (s.1 + (nI 1))), (4, .int (s.2 + (nI 1)))] (by intro q hq; simp only [List.mem_cons, List.not_mem_nil, or_false] at hq; rcases hq with rfl | rfl | rfl | rfl | rfl <;> rfl) (by have k := ka _ rfl; dsimp only at k; exact k)
theorem wFX12_isThere_l15_L2 {nx : Nat} {sh : bs_Sh} {R : Nat → Nat → Option Nat} {m : Nat} (HM : fg_S (bs_tM m) R m sh) {mu : bs_Mm} {l1 : Int32} {l2 : Int32} {Ph : bs_Po} {t : Int32} : ∀ n (y0 : Int32) (y1 : Int32), fg_lp (FX12_isThere_b15_L2 m mu l1 l2) n (y0, y1) = some t → fg_R R mu → (ke : ∀ s, t = s → bs_W Ph mX12_isThere (bs_rm 0 0 0) 56 (bs_mk [(0, .ref m), (1, .int l1), (2, .int l2), (3, .int s)]) [] 0 0 nx sh mu) → bs_W Ph mX12_isThere (bs_rm 0 0 0) 15 (bs_mk [(0, .ref m), (1, .int l1), (2, .int l2), (3, .int y0), (4, .int y1)]) [] 0 0 nx sh mu := by
  intro n
  induction n with
  | zero => intro y0 y1 h; exact absurd h (fun z => fg_lp0 z)
  | succ n ih =>
    intro y0 y1 h hR ke
    obtain ⟨r, hb, h1, h2⟩ := fg_lpE h
    exact wFX12_isThere_b15_L2 (s := (y0, y1)) HM (fun s' e => ih s'.1 s'.2 (h1 s' e) hR ke) (fun s' e => ke s' (h2 _ e).symm) hR hb
noncomputable def FX12_isThere_b2 (m : Nat) (mu : bs_Mm) (l1 : Int32) (s : Int32) : Option ((Int32) ⊕ ((Unit) ⊕ (Int32))) :=
  if (bs_iv (mu m 5)) ≤ s then (
    some (.inr (.inl ()))
  ) else (
    fg_bd (fg_lp (FX12_isThere_b15_L2 m mu l1 s) fg_fu ((nI 0), (nI 0))) (fun t3 => 
      fg_gd (fg_in s 6) (
      if t3 ≤ (bs_iv (mu (m + 32) s.toNatClampNeg)) then (
        some (.inl (s + (nI 1)))
      ) else (
        some (.inr (.inr ((nI 0))))
      ))
    )
  )
set_option maxHeartbeats 4000000 in
theorem wFX12_isThere_b2 {nx : Nat} {sh : bs_Sh} {R : Nat → Nat → Option Nat} {m : Nat} (HM : fg_S (bs_tM m) R m sh) {mu : bs_Mm} {l1 : Int32} {Ph : bs_Po} {s : Int32} {r : (Int32) ⊕ ((Unit) ⊕ (Int32))} (ka : ∀ s, r = .inl s → bs_W Ph mX12_isThere (bs_rm 0 0 0) 2 (bs_mk [(0, .ref m), (1, .int l1), (2, .int s)]) [] 0 0 nx sh mu) (ke : ∀ s, r = .inr (.inl s) → bs_W Ph mX12_isThere (bs_rm 0 0 0) 74 (bs_mk [(0, .ref m), (1, .int l1)]) [] 0 0 nx sh mu) (kr : ∀ q, r = .inr (.inr q) → fg_R R mu → Ph (some (.int q)) nx sh mu) (hR : fg_R R mu) (h : FX12_isThere_b2 m mu l1 s = some r) : bs_W Ph mX12_isThere (bs_rm 0 0 0) 2 (bs_mk [(0, .ref m), (1, .int l1), (2, .int s)]) [] 0 0 nx sh mu := by
  unfold FX12_isThere_b2 at h
  refine bs_iload_n dX12_isThere_2 rfl ?_
  refine bs_aload_n dX12_isThere_3 rfl ?_
  refine bs_getI dX12_isThere_4 fX12_125 (HM.s 0 rfl rfl rfl) ?_
  refine bs_icmp_ge (tgt := 74) dX12_isThere_7 (by decide) (fun c => ?_) (fun c => ?_)
  · replace h := fg_ip c h
    cases h
    refine bs_W.mk [(0, .ref m), (1, .int l1)] (by intro q hq; simp only [List.mem_cons, List.not_mem_nil, or_false] at hq; rcases hq with rfl | rfl <;> rfl) (ke _ rfl)
  · replace h := fg_iN c h
    refine bs_iconst (v := (nI 0)) dX12_isThere_10 (by decide) ?_
    refine bs_istore_n dX12_isThere_11 rfl (by decide) ?_
    refine bs_iconst (v := (nI 0)) dX12_isThere_12 (by decide) ?_
    refine bs_istore dX12_isThere_13 rfl (by decide) ?_
    obtain ⟨t3, k4, h⟩ := fg_bdE h
    refine bs_W.mk [(0, .ref m), (1, .int l1), (2, .int s), (3, .int (nI 0)), (4, .int (nI 0))] (by intro q hq; simp only [List.mem_cons, List.not_mem_nil, or_false] at hq; rcases hq with rfl | rfl | rfl | rfl | rfl <;> rfl) ?_
    refine wFX12_isThere_l15_L2 HM _ _ _ k4 hR ?_
    intro s e
    subst e
    refine bs_aload_n dX12_isThere_56 rfl ?_
    refine fg_getR (b := (m + 32)) dX12_isThere_57 fX12_105 (HM.s 0 rfl rfl rfl) hR (HM.r 0 44 rfl rfl rfl) ?_
    refine bs_iload_n dX12_isThere_60 rfl ?_
    obtain ⟨g5, h⟩ := fg_gdE h
    refine bs_iald dX12_isThere_61 (HM.ss 32 rfl rfl) (fg_in_ix g5) ?_
    refine bs_iload_n dX12_isThere_62 rfl ?_
    refine bs_icmp_ge (tgt := 68) dX12_isThere_63 (by decide) (fun c => ?_) (fun c => ?_)
    · replace h := fg_ip c h
      refine fg_iinc (m := (nI 1)) dX12_isThere_68 rfl rfl (by decide) ?_
      refine bs_goto (tgt := 2) dX12_isThere_71 (by decide) ?_
      cases h
      refine bs_W.mk [(0, .ref m), (1, .int l1), (2, .int (s + (nI 1)))] (by intro q hq; simp only [List.mem_cons, List.not_mem_nil, or_false] at hq; rcases hq with rfl | rfl | rfl <;> rfl) (ka _ rfl)
    · replace h := fg_iN c h
      refine bs_iconst (v := (nI 0)) dX12_isThere_66 (by decide) ?_
      cases h
      exact bs_zret dX12_isThere_67 rfl (Or.inl rfl) (Nat.zero_le _) (Nat.zero_le _) (kr _ rfl hR)
theorem wFX12_isThere_l2 {nx : Nat} {sh : bs_Sh} {R : Nat → Nat → Option Nat} {m : Nat} (HM : fg_S (bs_tM m) R m sh) {mu : bs_Mm} {l1 : Int32} {Ph : bs_Po} {t : (Unit) ⊕ (Int32)} : ∀ n (y0 : Int32), fg_lp (FX12_isThere_b2 m mu l1) n y0 = some t → fg_R R mu → (ke : ∀ s, t = .inl s → bs_W Ph mX12_isThere (bs_rm 0 0 0) 74 (bs_mk [(0, .ref m), (1, .int l1)]) [] 0 0 nx sh mu) → (kr : ∀ q, t = .inr q → fg_R R mu → Ph (some (.int q)) nx sh mu) → bs_W Ph mX12_isThere (bs_rm 0 0 0) 2 (bs_mk [(0, .ref m), (1, .int l1), (2, .int y0)]) [] 0 0 nx sh mu := by
  intro n
  induction n with
  | zero => intro y0 h; exact absurd h (fun z => fg_lp0 z)
  | succ n ih =>
    intro y0 h hR ke kr
    obtain ⟨r, hb, h1, h2⟩ := fg_lpE h
    exact wFX12_isThere_b2 (s := y0) HM (fun s' e => ih s' (h1 s' e) hR ke kr) (fun s' e => ke s' (h2 _ e).symm) (fun q e => kr q (h2 _ e).symm) hR hb
noncomputable def FX12_isThere (m : Nat) (mu : bs_Mm) (p1 : Int32) : Option (Int32) :=
  fg_l3 (fg_lp (FX12_isThere_b2 m mu p1) fg_fu (nI 0)) (fun t6 => 
    some ((nI 1))
  ) (fun q8 => some q8)
set_option maxHeartbeats 4000000 in
theorem wX12_isThere {nx : Nat} {sh : bs_Sh} {R : Nat → Nat → Option Nat} {m : Nat} (HM : fg_S (bs_tM m) R m sh) {mu : bs_Mm} (hR : fg_R R mu) {p1 : Int32} {r : Int32} (h : FX12_isThere m mu p1 = some r) : bs_C mX12_isThere (bs_rm 0 0 0) [.ref m, .int p1] nx sh mu (fg_po R nx sh (some (.int r)) mu) := by
  refine bs_ct (by decide +kernel) (Nat.le_of_ble_eq_true rfl) ?_
  have kr : ∀ q, r = q → fg_R R mu → (fg_po R nx sh (some (.int r)) mu) (some (.int q)) nx sh mu := fun q e hq => by subst e; exact ⟨rfl, rfl, rfl, rfl, hq⟩
  unfold FX12_isThere at h
  refine bs_iconst (v := (nI 0)) dX12_isThere_0 (by decide) ?_
  refine bs_istore_n dX12_isThere_1 rfl (by decide) ?_
  obtain ⟨t60, k7, h1, h2⟩ := fg_l3E h
  refine bs_W.mk [(0, .ref m), (1, .int p1), (2, .int (nI 0))] (by intro q hq; simp only [List.mem_cons, List.not_mem_nil, or_false] at hq; rcases hq with rfl | rfl | rfl <;> rfl) ?_
  refine wFX12_isThere_l2 HM _ _ k7 hR ?_ ?_
  · intro t6 e
    replace h := h1 t6 e
    refine bs_iconst (v := (nI 1)) dX12_isThere_74 (by decide) ?_
    cases h
    exact bs_zret dX12_isThere_75 rfl (Or.inr rfl) (Nat.zero_le _) (Nat.zero_le _) (kr _ rfl hR)
  · intro q8 e hR
    replace h := h2 q8 e
    cases h
    exact kr _ rfl hR
noncomputable def FX12_mayBeMade (m : Nat) (mu : bs_Mm) (p1 : Int32) (p2 : Int32) : Option (Int32 × bs_Mm) :=
  fg_bd (FX12_isFigure m mu p1) (fun v2 => 
  if v2 = 0 then (
    some ((nI 0), mu)
  ) else (
    fg_bd (FX12_isSort m mu p2) (fun v4 => 
    if v4 = 0 then (
      some ((nI 0), mu)
    ) else (
      fg_gd (fg_in p1 13) (
      if (bs_iv (mu (m + 8) p1.toNatClampNeg)) ≤ (nI 10) then (
        fg_bd (FX12_findFewest m mu p1 p2) (fun mu7 => 
        fg_bd (FX12_all m mu7 p1) (fun v9 => 
        fg_gd (fg_in v9 1024) (
        if (1000000 : Int32) ≤ (bs_iv (mu7 (m + 25) v9.toNatClampNeg)) then (
          some ((nI 0), mu7)
        ) else (
          some ((nI 1), mu7)
        ))))
      ) else (
        some ((nI 0), mu)
      ))
    ))
  ))
set_option maxHeartbeats 4000000 in
theorem wX12_mayBeMade {nx : Nat} {sh : bs_Sh} {R : Nat → Nat → Option Nat} {m : Nat} (HM : fg_S (bs_tM m) R m sh) {mu : bs_Mm} (hR : fg_R R mu) {p1 : Int32} {p2 : Int32} {r : Int32 × bs_Mm} (h : FX12_mayBeMade m mu p1 p2 = some r) : bs_C mX12_mayBeMade (bs_rm 4 0 0) [.ref m, .int p1, .int p2] nx sh mu (fg_po R nx sh (some (.int r.1)) r.2) := by
  refine bs_ct (by decide +kernel) (Nat.le_of_ble_eq_true rfl) ?_
  have kr : ∀ q, r = q → fg_R R q.2 → (fg_po R nx sh (some (.int r.1)) r.2) (some (.int q.1)) nx sh q.2 := fun q e hq => by subst e; exact ⟨rfl, rfl, rfl, rfl, hq⟩
  unfold FX12_mayBeMade at h
  refine bs_aload_n dX12_mayBeMade_0 rfl ?_
  refine bs_iload_n dX12_mayBeMade_1 rfl ?_
  obtain ⟨v2, k1, h⟩ := fg_bdE h
  refine fg_callV dX12_mayBeMade_2 qX12_284 (wX12_isFigure HM hR k1) rfl (HM.s 0 rfl rfl rfl) rfl (Nat.le_of_ble_eq_true rfl) (fg_cr (by first | decide | omega) (by decide)) (fun hR => ?_)
  refine bs_if_eq (tgt := 27) dX12_mayBeMade_5 (by decide) (fun c => ?_) (fun c => ?_)
  · replace h := fg_ip c h
    refine bs_iconst (v := (nI 0)) dX12_mayBeMade_27 (by decide) ?_
    cases h
    exact bs_zret dX12_mayBeMade_28 rfl (Or.inl rfl) (Nat.zero_le _) (Nat.zero_le _) (kr _ rfl hR)
  · replace h := fg_iN c h
    refine bs_aload_n dX12_mayBeMade_8 rfl ?_
    refine bs_iload_n dX12_mayBeMade_9 rfl ?_
    obtain ⟨v4, k3, h⟩ := fg_bdE h
    refine fg_callV dX12_mayBeMade_10 qX12_375 (wX12_isSort HM hR k3) rfl (HM.s 0 rfl rfl rfl) rfl (Nat.le_of_ble_eq_true rfl) (fg_cr (by first | decide | omega) (by decide)) (fun hR => ?_)
    refine bs_if_eq (tgt := 27) dX12_mayBeMade_13 (by decide) (fun c => ?_) (fun c => ?_)
    · replace h := fg_ip c h
      refine bs_iconst (v := (nI 0)) dX12_mayBeMade_27 (by decide) ?_
      cases h
      exact bs_zret dX12_mayBeMade_28 rfl (Or.inl rfl) (Nat.zero_le _) (Nat.zero_le _) (kr _ rfl hR)
    · replace h := fg_iN c h
      refine bs_aload_n dX12_mayBeMade_16 rfl ?_
      refine fg_getR (b := (m + 8)) dX12_mayBeMade_17 fX12_31 (HM.s 0 rfl rfl rfl) hR (HM.r 0 13 rfl rfl rfl) ?_
      refine bs_iload_n dX12_mayBeMade_20 rfl ?_
      obtain ⟨g5, h⟩ := fg_gdE h
      refine bs_iald dX12_mayBeMade_21 (HM.ss 8 rfl rfl) (fg_in_ix g5) ?_
      refine bs_bipush (v := (nI 10)) dX12_mayBeMade_22 (by decide) ?_
      refine bs_icmp_le (tgt := 29) dX12_mayBeMade_24 (by decide) (fun c => ?_) (fun c => ?_)
      · replace h := fg_ip c h
        refine bs_aload_n dX12_mayBeMade_29 rfl ?_
        refine bs_iload_n dX12_mayBeMade_30 rfl ?_
        refine bs_iload_n dX12_mayBeMade_31 rfl ?_
        obtain ⟨mu7, k6, h⟩ := fg_bdE h
        refine fg_callVv dX12_mayBeMade_32 qX12_378 (wX12_findFewest HM hR k6) rfl (HM.s 0 rfl rfl rfl) rfl (Nat.le_of_ble_eq_true rfl) (fg_cr (by first | decide | omega) (by decide)) (fun hR => ?_)
        refine bs_aload_n dX12_mayBeMade_35 rfl ?_
        refine fg_getR (b := (m + 25)) dX12_mayBeMade_36 fX12_83 (HM.s 0 rfl rfl rfl) hR (HM.r 0 37 rfl rfl rfl) ?_
        refine bs_aload_n dX12_mayBeMade_39 rfl ?_
        refine bs_iload_n dX12_mayBeMade_40 rfl ?_
        obtain ⟨v9, k8, h⟩ := fg_bdE h
        refine fg_callV dX12_mayBeMade_41 qX12_287 (wX12_all HM hR k8) rfl (HM.s 0 rfl rfl rfl) rfl (Nat.le_of_ble_eq_true rfl) (fg_cr (by first | decide | omega) (by decide)) (fun hR => ?_)
        obtain ⟨g10, h⟩ := fg_gdE h
        refine bs_iald dX12_mayBeMade_44 (HM.ss 25 rfl rfl) (fg_in_ix g10) ?_
        refine bs_ldcw (v := (1000000)) dX12_mayBeMade_45 cX12_365 ?_
        refine bs_icmp_ge (tgt := 55) dX12_mayBeMade_48 (by decide) (fun c => ?_) (fun c => ?_)
        · replace h := fg_ip c h
          refine bs_iconst (v := (nI 0)) dX12_mayBeMade_55 (by decide) ?_
          cases h
          exact bs_zret dX12_mayBeMade_56 rfl (Or.inl rfl) (Nat.zero_le _) (Nat.zero_le _) (kr _ rfl hR)
        · replace h := fg_iN c h
          refine bs_iconst (v := (nI 1)) dX12_mayBeMade_51 (by decide) ?_
          refine bs_goto (tgt := 56) dX12_mayBeMade_52 (by decide) ?_
          cases h
          exact bs_zret dX12_mayBeMade_56 rfl (Or.inr rfl) (Nat.zero_le _) (Nat.zero_le _) (kr _ rfl hR)
      · replace h := fg_iN c h
        refine bs_iconst (v := (nI 0)) dX12_mayBeMade_27 (by decide) ?_
        cases h
        exact bs_zret dX12_mayBeMade_28 rfl (Or.inl rfl) (Nat.zero_le _) (Nat.zero_le _) (kr _ rfl hR)
noncomputable def FX12_made (m : Nat) (mu : bs_Mm) (p1 : Int32) (p2 : Int32) : Option (Int32 × bs_Mm) :=
  fg_b2 (FX12_mayBeMade m mu p1 p2) (fun v3 mu2 => 
  if v3 = 0 then (
    some ((-1), mu2)
  ) else (
    fg_bd (FX12_all m mu2 p1) (fun v5 => 
    fg_gd (fg_in v5 1024) (
    some ((bs_iv (mu2 (m + 25) v5.toNatClampNeg)), mu2)))
  ))
set_option maxHeartbeats 4000000 in
theorem wX12_made {nx : Nat} {sh : bs_Sh} {R : Nat → Nat → Option Nat} {m : Nat} (HM : fg_S (bs_tM m) R m sh) {mu : bs_Mm} (hR : fg_R R mu) {p1 : Int32} {p2 : Int32} {r : Int32 × bs_Mm} (h : FX12_made m mu p1 p2 = some r) : bs_C mX12_made (bs_rm 5 0 0) [.ref m, .int p1, .int p2] nx sh mu (fg_po R nx sh (some (.int r.1)) r.2) := by
  refine bs_ct (by decide +kernel) (Nat.le_of_ble_eq_true rfl) ?_
  have kr : ∀ q, r = q → fg_R R q.2 → (fg_po R nx sh (some (.int r.1)) r.2) (some (.int q.1)) nx sh q.2 := fun q e hq => by subst e; exact ⟨rfl, rfl, rfl, rfl, hq⟩
  unfold FX12_made at h
  refine bs_aload_n dX12_made_0 rfl ?_
  refine bs_iload_n dX12_made_1 rfl ?_
  refine bs_iload_n dX12_made_2 rfl ?_
  obtain ⟨v3, mu2, k1, h⟩ := fg_b2E h
  refine fg_callV dX12_made_3 qX12_381 (wX12_mayBeMade HM hR k1) rfl (HM.s 0 rfl rfl rfl) rfl (Nat.le_of_ble_eq_true rfl) (fg_cr (by first | decide | omega) (by decide)) (fun hR => ?_)
  refine bs_if_eq (tgt := 22) dX12_made_6 (by decide) (fun c => ?_) (fun c => ?_)
  · replace h := fg_ip c h
    refine bs_iconst (v := (-1)) dX12_made_22 (by decide) ?_
    cases h
    exact bs_iret dX12_made_23 rfl (Nat.zero_le _) (Nat.zero_le _) (kr _ rfl hR)
  · replace h := fg_iN c h
    refine bs_aload_n dX12_made_9 rfl ?_
    refine fg_getR (b := (m + 25)) dX12_made_10 fX12_83 (HM.s 0 rfl rfl rfl) hR (HM.r 0 37 rfl rfl rfl) ?_
    refine bs_aload_n dX12_made_13 rfl ?_
    refine bs_iload_n dX12_made_14 rfl ?_
    obtain ⟨v5, k4, h⟩ := fg_bdE h
    refine fg_callV dX12_made_15 qX12_287 (wX12_all HM hR k4) rfl (HM.s 0 rfl rfl rfl) rfl (Nat.le_of_ble_eq_true rfl) (fg_cr (by first | decide | omega) (by decide)) (fun hR => ?_)
    obtain ⟨g6, h⟩ := fg_gdE h
    refine bs_iald dX12_made_18 (HM.ss 25 rfl rfl) (fg_in_ix g6) ?_
    refine bs_goto (tgt := 23) dX12_made_19 (by decide) ?_
    cases h
    exact bs_iret dX12_made_23 rfl (Nat.zero_le _) (Nat.zero_le _) (kr _ rfl hR)
noncomputable def FX12_many_j54_L27 (m : Nat) (mu : bs_Mm) (l1 : Int32) (l2 : Int32) (l4 : Int32) (l5 : Int32) (t0 : Int32) (t1 : Int32) : Option ((Int32 × Int32 × Int32) ⊕ (Int32 × Int32)) :=
  fg_bd (FX12_isTwist m mu l1 l5) (fun v9 => 
  if v9 = 0 then (
    some (.inl ((t0 + t1), (l4 + (nI 0)), (l5 + (nI 1))))
  ) else (
    fg_bd (FX12_isSlack m mu l1 l5) (fun v11 => 
    if v11 = 0 then (
      some (.inl ((t0 + t1), (l4 + (nI 0)), (l5 + (nI 1))))
    ) else (
      some (.inl ((t0 + t1), (l4 + (nI 1)), (l5 + (nI 1))))
    ))
  ))
set_option maxHeartbeats 4000000 in
theorem wFX12_many_j54_L27 {nx : Nat} {sh : bs_Sh} {R : Nat → Nat → Option Nat} {m : Nat} (HM : fg_S (bs_tM m) R m sh) {mu : bs_Mm} {l1 : Int32} {l2 : Int32} {l4 : Int32} {l5 : Int32} {t0 : Int32} {t1 : Int32} {Ph : bs_Po} {r : (Int32 × Int32 × Int32) ⊕ (Int32 × Int32)} (ka : ∀ s, r = .inl s → bs_W Ph mX12_many (bs_rm 2 0 0) 27 (bs_mk [(0, .ref m), (1, .int l1), (2, .int l2), (3, .int s.1), (4, .int s.2.1), (5, .int s.2.2)]) [] 0 0 nx sh mu) (ke : ∀ s, r = .inr s → bs_W Ph mX12_many (bs_rm 2 0 0) 92 (bs_mk [(0, .ref m), (1, .int l1), (2, .int l2), (3, .int s.1), (4, .int s.2)]) [] 0 0 nx sh mu) (hR : fg_R R mu) (h : FX12_many_j54_L27 m mu l1 l2 l4 l5 t0 t1 = some r) : bs_W Ph mX12_many (bs_rm 2 0 0) 54 (bs_mk [(0, .ref m), (1, .int l1), (2, .int l2), (4, .int l4), (5, .int l5)]) [.int t1, .int t0] 0 0 nx sh mu := by
  unfold FX12_many_j54_L27 at h
  refine bs_iadd dX12_many_54 ?_
  refine bs_istore_n dX12_many_55 rfl (by decide) ?_
  refine bs_iload dX12_many_56 rfl ?_
  refine bs_aload_n dX12_many_58 rfl ?_
  refine bs_iload_n dX12_many_59 rfl ?_
  refine bs_iload dX12_many_60 rfl ?_
  obtain ⟨v9, k8, h⟩ := fg_bdE h
  refine fg_callV dX12_many_62 qX12_294 (wX12_isTwist HM hR k8) rfl (HM.s 0 rfl rfl rfl) rfl (Nat.le_of_ble_eq_true rfl) (fg_cr (by first | decide | omega) (by decide)) (fun hR => ?_)
  refine bs_if_eq (tgt := 82) dX12_many_65 (by decide) (fun c => ?_) (fun c => ?_)
  · replace h := fg_ip c h
    refine bs_iconst (v := (nI 0)) dX12_many_82 (by decide) ?_
    refine bs_iadd dX12_many_83 ?_
    refine bs_istore dX12_many_84 rfl (by decide) ?_
    refine fg_iinc (m := (nI 1)) dX12_many_86 rfl rfl (by decide) ?_
    refine bs_goto (tgt := 27) dX12_many_89 (by decide) ?_
    cases h
    refine bs_W.mk [(0, .ref m), (1, .int l1), (2, .int l2), (3, .int (t0 + t1)), (4, .int (l4 + (nI 0))), (5, .int (l5 + (nI 1)))] (by intro q hq; simp only [List.mem_cons, List.not_mem_nil, or_false] at hq; rcases hq with rfl | rfl | rfl | rfl | rfl | rfl <;> rfl) (by have k := ka _ rfl; dsimp only at k; exact k)
  · replace h := fg_iN c h
    refine bs_aload_n dX12_many_68 rfl ?_
    refine bs_iload_n dX12_many_69 rfl ?_
    refine bs_iload dX12_many_70 rfl ?_
    obtain ⟨v11, k10, h⟩ := fg_bdE h
    refine fg_callV dX12_many_72 qX12_298 (wX12_isSlack HM hR k10) rfl (HM.s 0 rfl rfl rfl) rfl (Nat.le_of_ble_eq_true rfl) (fg_cr (by first | decide | omega) (by decide)) (fun hR => ?_)
    refine bs_if_eq (tgt := 82) dX12_many_75 (by decide) (fun c => ?_) (fun c => ?_)
    · replace h := fg_ip c h
      refine bs_iconst (v := (nI 0)) dX12_many_82 (by decide) ?_
      refine bs_iadd dX12_many_83 ?_
      refine bs_istore dX12_many_84 rfl (by decide) ?_
      refine fg_iinc (m := (nI 1)) dX12_many_86 rfl rfl (by decide) ?_
      refine bs_goto (tgt := 27) dX12_many_89 (by decide) ?_
      cases h
      refine bs_W.mk [(0, .ref m), (1, .int l1), (2, .int l2), (3, .int (t0 + t1)), (4, .int (l4 + (nI 0))), (5, .int (l5 + (nI 1)))] (by intro q hq; simp only [List.mem_cons, List.not_mem_nil, or_false] at hq; rcases hq with rfl | rfl | rfl | rfl | rfl | rfl <;> rfl) (by have k := ka _ rfl; dsimp only at k; exact k)
    · replace h := fg_iN c h
      refine bs_iconst (v := (nI 1)) dX12_many_78 (by decide) ?_
      refine bs_goto (tgt := 83) dX12_many_79 (by decide) ?_
      refine bs_iadd dX12_many_83 ?_
      refine bs_istore dX12_many_84 rfl (by decide) ?_
      refine fg_iinc (m := (nI 1)) dX12_many_86 rfl rfl (by decide) ?_
      refine bs_goto (tgt := 27) dX12_many_89 (by decide) ?_
      cases h
      refine bs_W.mk [(0, .ref m), (1, .int l1), (2, .int l2), (3, .int (t0 + t1)), (4, .int (l4 + (nI 1))), (5, .int (l5 + (nI 1)))] (by intro q hq; simp only [List.mem_cons, List.not_mem_nil, or_false] at hq; rcases hq with rfl | rfl | rfl | rfl | rfl | rfl <;> rfl) (by have k := ka _ rfl; dsimp only at k; exact k)
noncomputable def FX12_many_b27 (m : Nat) (mu : bs_Mm) (l1 : Int32) (l2 : Int32) (s : Int32 × Int32 × Int32) : Option ((Int32 × Int32 × Int32) ⊕ (Int32 × Int32)) :=
  fg_gd (fg_in l1 13) (
  if (bs_iv (mu (m + 8) l1.toNatClampNeg)) ≤ s.2.2 then (
    some (.inr (s.1, s.2.1))
  ) else (
    fg_bd (FX12_isTwist m mu l1 s.2.2) (fun v7 => 
    if v7 = 0 then (
      FX12_many_j54_L27 m mu l1 l2 s.2.1 s.2.2 s.1 (nI 0)
    ) else (
      FX12_many_j54_L27 m mu l1 l2 s.2.1 s.2.2 s.1 (nI 1)
    ))
  ))
set_option maxHeartbeats 4000000 in
theorem wFX12_many_b27 {nx : Nat} {sh : bs_Sh} {R : Nat → Nat → Option Nat} {m : Nat} (HM : fg_S (bs_tM m) R m sh) {mu : bs_Mm} {l1 : Int32} {l2 : Int32} {Ph : bs_Po} {s : Int32 × Int32 × Int32} {r : (Int32 × Int32 × Int32) ⊕ (Int32 × Int32)} (ka : ∀ s, r = .inl s → bs_W Ph mX12_many (bs_rm 2 0 0) 27 (bs_mk [(0, .ref m), (1, .int l1), (2, .int l2), (3, .int s.1), (4, .int s.2.1), (5, .int s.2.2)]) [] 0 0 nx sh mu) (ke : ∀ s, r = .inr s → bs_W Ph mX12_many (bs_rm 2 0 0) 92 (bs_mk [(0, .ref m), (1, .int l1), (2, .int l2), (3, .int s.1), (4, .int s.2)]) [] 0 0 nx sh mu) (hR : fg_R R mu) (h : FX12_many_b27 m mu l1 l2 s = some r) : bs_W Ph mX12_many (bs_rm 2 0 0) 27 (bs_mk [(0, .ref m), (1, .int l1), (2, .int l2), (3, .int s.1), (4, .int s.2.1), (5, .int s.2.2)]) [] 0 0 nx sh mu := by
  unfold FX12_many_b27 at h
  refine bs_iload dX12_many_27 rfl ?_
  refine bs_aload_n dX12_many_29 rfl ?_
  refine fg_getR (b := (m + 8)) dX12_many_30 fX12_31 (HM.s 0 rfl rfl rfl) hR (HM.r 0 13 rfl rfl rfl) ?_
  refine bs_iload_n dX12_many_33 rfl ?_
  obtain ⟨g5, h⟩ := fg_gdE h
  refine bs_iald dX12_many_34 (HM.ss 8 rfl rfl) (fg_in_ix g5) ?_
  refine bs_icmp_ge (tgt := 92) dX12_many_35 (by decide) (fun c => ?_) (fun c => ?_)
  · replace h := fg_ip c h
    cases h
    refine bs_W.mk [(0, .ref m), (1, .int l1), (2, .int l2), (3, .int s.1), (4, .int s.2.1)] (by intro q hq; simp only [List.mem_cons, List.not_mem_nil, or_false] at hq; rcases hq with rfl | rfl | rfl | rfl | rfl <;> rfl) (ke _ rfl)
  · replace h := fg_iN c h
    refine bs_iload_n dX12_many_38 rfl ?_
    refine bs_aload_n dX12_many_39 rfl ?_
    refine bs_iload_n dX12_many_40 rfl ?_
    refine bs_iload dX12_many_41 rfl ?_
    obtain ⟨v7, k6, h⟩ := fg_bdE h
    refine fg_callV dX12_many_43 qX12_294 (wX12_isTwist HM hR k6) rfl (HM.s 0 rfl rfl rfl) rfl (Nat.le_of_ble_eq_true rfl) (fg_cr (by first | decide | omega) (by decide)) (fun hR => ?_)
    refine bs_if_eq (tgt := 53) dX12_many_46 (by decide) (fun c => ?_) (fun c => ?_)
    · replace h := fg_ip c h
      refine bs_iconst (v := (nI 0)) dX12_many_53 (by decide) ?_
      refine bs_W.mk [(0, .ref m), (1, .int l1), (2, .int l2), (4, .int s.2.1), (5, .int s.2.2)] (by intro q hq; simp only [List.mem_cons, List.not_mem_nil, or_false] at hq; rcases hq with rfl | rfl | rfl | rfl | rfl <;> rfl) ?_
      exact wFX12_many_j54_L27 HM ka ke hR h
    · replace h := fg_iN c h
      refine bs_iconst (v := (nI 1)) dX12_many_49 (by decide) ?_
      refine bs_goto (tgt := 54) dX12_many_50 (by decide) ?_
      refine bs_W.mk [(0, .ref m), (1, .int l1), (2, .int l2), (4, .int s.2.1), (5, .int s.2.2)] (by intro q hq; simp only [List.mem_cons, List.not_mem_nil, or_false] at hq; rcases hq with rfl | rfl | rfl | rfl | rfl <;> rfl) ?_
      exact wFX12_many_j54_L27 HM ka ke hR h
theorem wFX12_many_l27 {nx : Nat} {sh : bs_Sh} {R : Nat → Nat → Option Nat} {m : Nat} (HM : fg_S (bs_tM m) R m sh) {mu : bs_Mm} {l1 : Int32} {l2 : Int32} {Ph : bs_Po} {t : Int32 × Int32} : ∀ n (y0 : Int32) (y1 : Int32) (y2 : Int32), fg_lp (FX12_many_b27 m mu l1 l2) n (y0, y1, y2) = some t → fg_R R mu → (ke : ∀ s, t = s → bs_W Ph mX12_many (bs_rm 2 0 0) 92 (bs_mk [(0, .ref m), (1, .int l1), (2, .int l2), (3, .int s.1), (4, .int s.2)]) [] 0 0 nx sh mu) → bs_W Ph mX12_many (bs_rm 2 0 0) 27 (bs_mk [(0, .ref m), (1, .int l1), (2, .int l2), (3, .int y0), (4, .int y1), (5, .int y2)]) [] 0 0 nx sh mu := by
  intro n
  induction n with
  | zero => intro y0 y1 y2 h; exact absurd h (fun z => fg_lp0 z)
  | succ n ih =>
    intro y0 y1 y2 h hR ke
    obtain ⟨r, hb, h1, h2⟩ := fg_lpE h
    exact wFX12_many_b27 (s := (y0, y1, y2)) HM (fun s' e => ih s'.1 s'.2.1 s'.2.2 (h1 s' e) hR ke) (fun s' e => ke s' (h2 _ e).symm) hR hb
noncomputable def FX12_many (m : Nat) (mu : bs_Mm) (p1 : Int32) (p2 : Int32) : Option (Int32) :=
  fg_bd (FX12_isFigure m mu p1) (fun v2 => 
  if v2 = 0 then (
    some ((-1))
  ) else (
    fg_bd (FX12_in m mu p2 (nI 0) (nI 5)) (fun v4 => 
    if v4 = 0 then (
      some ((-1))
    ) else (
      fg_bd (fg_lp (FX12_many_b27 m mu p1 p2) fg_fu ((nI 0), (nI 0), (nI 0))) (fun t12 => 
        if p2 = 0 then (
          fg_gd (fg_in p1 13) (
          some ((bs_iv (mu (m + 6) p1.toNatClampNeg))))
        ) else (
          if p2 = (nI 1) then (
            fg_gd (fg_in p1 13) (
            some ((bs_iv (mu (m + 8) p1.toNatClampNeg))))
          ) else (
            if p2 = (nI 2) then (
              fg_gd (fg_in p1 13) (
              some ((bs_iv (mu (m + 9) p1.toNatClampNeg))))
            ) else (
              if p2 = (nI 3) then (
                some (t12.1)
              ) else (
                if p2 = (nI 4) then (
                  some (t12.2)
                ) else (
                  fg_bd (FX12_all m mu p1) (fun v15 => 
                  fg_bd (FX12_odd m mu p1 v15) (fun v17 => 
                  some (v17)))
                )
              )
            )
          )
        )
      )
    ))
  ))
set_option maxHeartbeats 4000000 in
theorem wX12_many {nx : Nat} {sh : bs_Sh} {R : Nat → Nat → Option Nat} {m : Nat} (HM : fg_S (bs_tM m) R m sh) {mu : bs_Mm} (hR : fg_R R mu) {p1 : Int32} {p2 : Int32} {r : Int32} (h : FX12_many m mu p1 p2 = some r) : bs_C mX12_many (bs_rm 2 0 0) [.ref m, .int p1, .int p2] nx sh mu (fg_po R nx sh (some (.int r)) mu) := by
  refine bs_ct (by decide +kernel) (Nat.le_of_ble_eq_true rfl) ?_
  have kr : ∀ q, r = q → fg_R R mu → (fg_po R nx sh (some (.int r)) mu) (some (.int q)) nx sh mu := fun q e hq => by subst e; exact ⟨rfl, rfl, rfl, rfl, hq⟩
  unfold FX12_many at h
  refine bs_aload_n dX12_many_0 rfl ?_
  refine bs_iload_n dX12_many_1 rfl ?_
  obtain ⟨v2, k1, h⟩ := fg_bdE h
  refine fg_callV dX12_many_2 qX12_284 (wX12_isFigure HM hR k1) rfl (HM.s 0 rfl rfl rfl) rfl (Nat.le_of_ble_eq_true rfl) (fg_cr (by first | decide | omega) (by decide)) (fun hR => ?_)
  refine bs_if_eq (tgt := 17) dX12_many_5 (by decide) (fun c => ?_) (fun c => ?_)
  · replace h := fg_ip c h
    refine bs_iconst (v := (-1)) dX12_many_17 (by decide) ?_
    cases h
    exact bs_iret dX12_many_18 rfl (Nat.zero_le _) (Nat.zero_le _) (kr _ rfl hR)
  · replace h := fg_iN c h
    refine bs_iload_n dX12_many_8 rfl ?_
    refine bs_iconst (v := (nI 0)) dX12_many_9 (by decide) ?_
    refine bs_iconst (v := (nI 5)) dX12_many_10 (by decide) ?_
    obtain ⟨v4, k3, h⟩ := fg_bdE h
    refine fg_callS dX12_many_11 qX12_121 (wX12_in HM hR k3) rfl rfl (Nat.le_of_ble_eq_true rfl) (fg_cr (by first | decide | omega) (by decide)) (fun hR => ?_)
    refine bs_if_ne (tgt := 19) dX12_many_14 (by decide) (fun c => ?_) (fun c => ?_)
    · replace h := fg_iN c h
      refine bs_iconst (v := (nI 0)) dX12_many_19 (by decide) ?_
      refine bs_istore_n dX12_many_20 rfl (by decide) ?_
      refine bs_iconst (v := (nI 0)) dX12_many_21 (by decide) ?_
      refine bs_istore dX12_many_22 rfl (by decide) ?_
      refine bs_iconst (v := (nI 0)) dX12_many_24 (by decide) ?_
      refine bs_istore dX12_many_25 rfl (by decide) ?_
      obtain ⟨t12, k13, h⟩ := fg_bdE h
      refine bs_W.mk [(0, .ref m), (1, .int p1), (2, .int p2), (3, .int (nI 0)), (4, .int (nI 0)), (5, .int (nI 0))] (by intro q hq; simp only [List.mem_cons, List.not_mem_nil, or_false] at hq; rcases hq with rfl | rfl | rfl | rfl | rfl | rfl <;> rfl) ?_
      refine wFX12_many_l27 HM _ _ _ _ k13 hR ?_
      intro s e
      subst e
      refine bs_iload_n dX12_many_92 rfl ?_
      refine bs_if_ne (tgt := 105) dX12_many_93 (by decide) (fun c => ?_) (fun c => ?_)
      · replace h := fg_iN c h
        refine bs_iload_n dX12_many_105 rfl ?_
        refine bs_iconst (v := (nI 1)) dX12_many_106 (by decide) ?_
        refine bs_icmp_ne (tgt := 119) dX12_many_107 (by decide) (fun c => ?_) (fun c => ?_)
        · replace h := fg_iN c h
          refine bs_iload_n dX12_many_119 rfl ?_
          refine bs_iconst (v := (nI 2)) dX12_many_120 (by decide) ?_
          refine bs_icmp_ne (tgt := 133) dX12_many_121 (by decide) (fun c => ?_) (fun c => ?_)
          · replace h := fg_iN c h
            refine bs_iload_n dX12_many_133 rfl ?_
            refine bs_iconst (v := (nI 3)) dX12_many_134 (by decide) ?_
            refine bs_icmp_ne (tgt := 142) dX12_many_135 (by decide) (fun c => ?_) (fun c => ?_)
            · replace h := fg_iN c h
              refine bs_iload_n dX12_many_142 rfl ?_
              refine bs_iconst (v := (nI 4)) dX12_many_143 (by decide) ?_
              refine bs_icmp_ne (tgt := 152) dX12_many_144 (by decide) (fun c => ?_) (fun c => ?_)
              · replace h := fg_iN c h
                refine bs_aload_n dX12_many_152 rfl ?_
                refine bs_iload_n dX12_many_153 rfl ?_
                refine bs_aload_n dX12_many_154 rfl ?_
                refine bs_iload_n dX12_many_155 rfl ?_
                obtain ⟨v15, k14, h⟩ := fg_bdE h
                refine fg_callV dX12_many_156 qX12_287 (wX12_all HM hR k14) rfl (HM.s 0 rfl rfl rfl) rfl (Nat.le_of_ble_eq_true rfl) (fg_cr (by first | decide | omega) (by decide)) (fun hR => ?_)
                obtain ⟨v17, k16, h⟩ := fg_bdE h
                refine fg_callV dX12_many_159 qX12_301 (wX12_odd HM hR k16) rfl (HM.s 0 rfl rfl rfl) rfl (Nat.le_of_ble_eq_true rfl) (fg_cr (by first | decide | omega) (by decide)) (fun hR => ?_)
                cases h
                exact bs_iret dX12_many_162 rfl (Nat.zero_le _) (Nat.zero_le _) (kr _ rfl hR)
              · replace h := fg_ip c h
                refine bs_iload dX12_many_147 rfl ?_
                refine bs_goto (tgt := 162) dX12_many_149 (by decide) ?_
                cases h
                exact bs_iret dX12_many_162 rfl (Nat.zero_le _) (Nat.zero_le _) (kr _ rfl hR)
            · replace h := fg_ip c h
              refine bs_iload_n dX12_many_138 rfl ?_
              refine bs_goto (tgt := 162) dX12_many_139 (by decide) ?_
              cases h
              exact bs_iret dX12_many_162 rfl (Nat.zero_le _) (Nat.zero_le _) (kr _ rfl hR)
          · replace h := fg_ip c h
            refine bs_aload_n dX12_many_124 rfl ?_
            refine fg_getR (b := (m + 9)) dX12_many_125 fX12_34 (HM.s 0 rfl rfl rfl) hR (HM.r 0 14 rfl rfl rfl) ?_
            refine bs_iload_n dX12_many_128 rfl ?_
            obtain ⟨g18, h⟩ := fg_gdE h
            refine bs_iald dX12_many_129 (HM.ss 9 rfl rfl) (fg_in_ix g18) ?_
            refine bs_goto (tgt := 162) dX12_many_130 (by decide) ?_
            cases h
            exact bs_iret dX12_many_162 rfl (Nat.zero_le _) (Nat.zero_le _) (kr _ rfl hR)
        · replace h := fg_ip c h
          refine bs_aload_n dX12_many_110 rfl ?_
          refine fg_getR (b := (m + 8)) dX12_many_111 fX12_31 (HM.s 0 rfl rfl rfl) hR (HM.r 0 13 rfl rfl rfl) ?_
          refine bs_iload_n dX12_many_114 rfl ?_
          obtain ⟨g19, h⟩ := fg_gdE h
          refine bs_iald dX12_many_115 (HM.ss 8 rfl rfl) (fg_in_ix g19) ?_
          refine bs_goto (tgt := 162) dX12_many_116 (by decide) ?_
          cases h
          exact bs_iret dX12_many_162 rfl (Nat.zero_le _) (Nat.zero_le _) (kr _ rfl hR)
      · replace h := fg_ip c h
        refine bs_aload_n dX12_many_96 rfl ?_
        refine fg_getR (b := (m + 6)) dX12_many_97 fX12_25 (HM.s 0 rfl rfl rfl) hR (HM.r 0 11 rfl rfl rfl) ?_
        refine bs_iload_n dX12_many_100 rfl ?_
        obtain ⟨g20, h⟩ := fg_gdE h
        refine bs_iald dX12_many_101 (HM.ss 6 rfl rfl) (fg_in_ix g20) ?_
        refine bs_goto (tgt := 162) dX12_many_102 (by decide) ?_
        cases h
        exact bs_iret dX12_many_162 rfl (Nat.zero_le _) (Nat.zero_le _) (kr _ rfl hR)
    · replace h := fg_ip c h
      refine bs_iconst (v := (-1)) dX12_many_17 (by decide) ?_
      cases h
      exact bs_iret dX12_many_18 rfl (Nat.zero_le _) (Nat.zero_le _) (kr _ rfl hR)
noncomputable def FX12_match (m : Nat) (mu : bs_Mm) (p1 : Int32) (p2 : Int32) (p3 : Int32) : Option (Int32 × bs_Mm) :=
  fg_bd (FX12_mayMatch m mu p1 p2) (fun v2 => 
  if v2 = 0 then (
    some ((-1), mu)
  ) else (
    fg_bd (FX12_isPoint m mu p1 p3) (fun v4 => 
    if v4 = 0 then (
      some ((-1), mu)
    ) else (
      fg_b2 (FX12_areAlike m mu p1 p2) (fun v7 mu6 => 
      if v7 = 0 then (
        some ((-1), mu6)
      ) else (
        fg_gd (fg_in p3 8) (
        some ((bs_iv (mu6 (m + 23) p3.toNatClampNeg)), mu6))
      ))
    ))
  ))
set_option maxHeartbeats 4000000 in
theorem wX12_match {nx : Nat} {sh : bs_Sh} {R : Nat → Nat → Option Nat} {m : Nat} (HM : fg_S (bs_tM m) R m sh) {mu : bs_Mm} (hR : fg_R R mu) {p1 : Int32} {p2 : Int32} {p3 : Int32} {r : Int32 × bs_Mm} (h : FX12_match m mu p1 p2 p3 = some r) : bs_C mX12_match (bs_rm 24 0 0) [.ref m, .int p1, .int p2, .int p3] nx sh mu (fg_po R nx sh (some (.int r.1)) r.2) := by
  refine bs_ct (by decide +kernel) (Nat.le_of_ble_eq_true rfl) ?_
  have kr : ∀ q, r = q → fg_R R q.2 → (fg_po R nx sh (some (.int r.1)) r.2) (some (.int q.1)) nx sh q.2 := fun q e hq => by subst e; exact ⟨rfl, rfl, rfl, rfl, hq⟩
  unfold FX12_match at h
  refine bs_aload_n dX12_match_0 rfl ?_
  refine bs_iload_n dX12_match_1 rfl ?_
  refine bs_iload_n dX12_match_2 rfl ?_
  obtain ⟨v2, k1, h⟩ := fg_bdE h
  refine fg_callV dX12_match_3 qX12_359 (wX12_mayMatch HM hR k1) rfl (HM.s 0 rfl rfl rfl) rfl (Nat.le_of_ble_eq_true rfl) (fg_cr (by first | decide | omega) (by decide)) (fun hR => ?_)
  refine bs_if_eq (tgt := 36) dX12_match_6 (by decide) (fun c => ?_) (fun c => ?_)
  · replace h := fg_ip c h
    refine bs_iconst (v := (-1)) dX12_match_36 (by decide) ?_
    cases h
    exact bs_iret dX12_match_37 rfl (Nat.zero_le _) (Nat.zero_le _) (kr _ rfl hR)
  · replace h := fg_iN c h
    refine bs_aload_n dX12_match_9 rfl ?_
    refine bs_iload_n dX12_match_10 rfl ?_
    refine bs_iload_n dX12_match_11 rfl ?_
    obtain ⟨v4, k3, h⟩ := fg_bdE h
    refine fg_callV dX12_match_12 qX12_307 (wX12_isPoint HM hR k3) rfl (HM.s 0 rfl rfl rfl) rfl (Nat.le_of_ble_eq_true rfl) (fg_cr (by first | decide | omega) (by decide)) (fun hR => ?_)
    refine bs_if_eq (tgt := 36) dX12_match_15 (by decide) (fun c => ?_) (fun c => ?_)
    · replace h := fg_ip c h
      refine bs_iconst (v := (-1)) dX12_match_36 (by decide) ?_
      cases h
      exact bs_iret dX12_match_37 rfl (Nat.zero_le _) (Nat.zero_le _) (kr _ rfl hR)
    · replace h := fg_iN c h
      refine bs_aload_n dX12_match_18 rfl ?_
      refine bs_iload_n dX12_match_19 rfl ?_
      refine bs_iload_n dX12_match_20 rfl ?_
      obtain ⟨v7, mu6, k5, h⟩ := fg_b2E h
      refine fg_callV dX12_match_21 qX12_362 (wX12_areAlike HM hR k5) rfl (HM.s 0 rfl rfl rfl) rfl (Nat.le_of_ble_eq_true rfl) (fg_cr (by first | decide | omega) (by decide)) (fun hR => ?_)
      refine bs_if_eq (tgt := 36) dX12_match_24 (by decide) (fun c => ?_) (fun c => ?_)
      · replace h := fg_ip c h
        refine bs_iconst (v := (-1)) dX12_match_36 (by decide) ?_
        cases h
        exact bs_iret dX12_match_37 rfl (Nat.zero_le _) (Nat.zero_le _) (kr _ rfl hR)
      · replace h := fg_iN c h
        refine bs_aload_n dX12_match_27 rfl ?_
        refine fg_getR (b := (m + 23)) dX12_match_28 fX12_77 (HM.s 0 rfl rfl rfl) hR (HM.r 0 35 rfl rfl rfl) ?_
        refine bs_iload_n dX12_match_31 rfl ?_
        obtain ⟨g8, h⟩ := fg_gdE h
        refine bs_iald dX12_match_32 (HM.ss 23 rfl rfl) (fg_in_ix g8) ?_
        refine bs_goto (tgt := 37) dX12_match_33 (by decide) ?_
        cases h
        exact bs_iret dX12_match_37 rfl (Nat.zero_le _) (Nat.zero_le _) (kr _ rfl hR)
noncomputable def FX12_pace (m : Nat) (mu : bs_Mm) (p1 : Int32) (p2 : Int32) : Option (Int32 × bs_Mm) :=
  fg_bd (FX12_in m mu p1 (nI 1) (nI 9)) (fun v2 => 
  if v2 = 0 then (
    some ((nI 0), mu)
  ) else (
    fg_bd (FX12_in m mu p2 (nI 0) (nI 9)) (fun v4 => 
    if v4 = 0 then (
      some ((nI 0), mu)
    ) else (
      fg_wr mu m 47 (.int p1) (fun mu5 => 
      fg_wr mu5 m 48 (.int p2) (fun mu6 => 
      some ((nI 1), mu6)))
    ))
  ))
set_option maxHeartbeats 4000000 in
theorem wX12_pace {nx : Nat} {sh : bs_Sh} {R : Nat → Nat → Option Nat} {m : Nat} (HM : fg_S (bs_tM m) R m sh) {mu : bs_Mm} (hR : fg_R R mu) {p1 : Int32} {p2 : Int32} {r : Int32 × bs_Mm} (h : FX12_pace m mu p1 p2 = some r) : bs_C mX12_pace (bs_rm 1 0 0) [.ref m, .int p1, .int p2] nx sh mu (fg_po R nx sh (some (.int r.1)) r.2) := by
  refine bs_ct (by decide +kernel) (Nat.le_of_ble_eq_true rfl) ?_
  have kr : ∀ q, r = q → fg_R R q.2 → (fg_po R nx sh (some (.int r.1)) r.2) (some (.int q.1)) nx sh q.2 := fun q e hq => by subst e; exact ⟨rfl, rfl, rfl, rfl, hq⟩
  unfold FX12_pace at h
  refine bs_iload_n dX12_pace_0 rfl ?_
  refine bs_iconst (v := (nI 1)) dX12_pace_1 (by decide) ?_
  refine bs_bipush (v := (nI 9)) dX12_pace_2 (by decide) ?_
  obtain ⟨v2, k1, h⟩ := fg_bdE h
  refine fg_callS dX12_pace_4 qX12_121 (wX12_in HM hR k1) rfl rfl (Nat.le_of_ble_eq_true rfl) (fg_cr (by first | decide | omega) (by decide)) (fun hR => ?_)
  refine bs_if_eq (tgt := 20) dX12_pace_7 (by decide) (fun c => ?_) (fun c => ?_)
  · replace h := fg_ip c h
    refine bs_iconst (v := (nI 0)) dX12_pace_20 (by decide) ?_
    cases h
    exact bs_zret dX12_pace_21 rfl (Or.inl rfl) (Nat.zero_le _) (Nat.zero_le _) (kr _ rfl hR)
  · replace h := fg_iN c h
    refine bs_iload_n dX12_pace_10 rfl ?_
    refine bs_iconst (v := (nI 0)) dX12_pace_11 (by decide) ?_
    refine bs_bipush (v := (nI 9)) dX12_pace_12 (by decide) ?_
    obtain ⟨v4, k3, h⟩ := fg_bdE h
    refine fg_callS dX12_pace_14 qX12_121 (wX12_in HM hR k3) rfl rfl (Nat.le_of_ble_eq_true rfl) (fg_cr (by first | decide | omega) (by decide)) (fun hR => ?_)
    refine bs_if_ne (tgt := 22) dX12_pace_17 (by decide) (fun c => ?_) (fun c => ?_)
    · replace h := fg_iN c h
      refine bs_aload_n dX12_pace_22 rfl ?_
      refine bs_iload_n dX12_pace_23 rfl ?_
      refine fg_putI dX12_pace_24 pX12_108 (HM.s 0 rfl rfl rfl) (HM.n 0 47 rfl rfl rfl) hR h (fun mu5 hR h => ?_)
      refine bs_aload_n dX12_pace_27 rfl ?_
      refine bs_iload_n dX12_pace_28 rfl ?_
      refine fg_putI dX12_pace_29 pX12_390 (HM.s 0 rfl rfl rfl) (HM.n 0 48 rfl rfl rfl) hR h (fun mu6 hR h => ?_)
      refine bs_iconst (v := (nI 1)) dX12_pace_32 (by decide) ?_
      cases h
      exact bs_zret dX12_pace_33 rfl (Or.inr rfl) (Nat.zero_le _) (Nat.zero_le _) (kr _ rfl hR)
    · replace h := fg_ip c h
      refine bs_iconst (v := (nI 0)) dX12_pace_20 (by decide) ?_
      cases h
      exact bs_zret dX12_pace_21 rfl (Or.inl rfl) (Nat.zero_le _) (Nat.zero_le _) (kr _ rfl hR)
noncomputable def FX12_pairing_b50 (m : Nat) (rQ : bs_Mm → Int32 → Int32 → Int32 → Option (Int32)) (mu : bs_Mm) (l2 : Int32) (l3 : Int32) (l4 : Int32) (l5 : Int32) (s : Int32 × Int32) : Option ((Int32 × Int32) ⊕ (Int32)) :=
  if l2 ≤ s.2 then (
    some (.inr s.1)
  ) else (
    if ((l5 >>> (s.2 &&& 31)) &&& (nI 1)) = (nI 1) then (
      fg_gd (fg_in l4 24) (
      fg_gd (fg_in s.2 24) (
      fg_gd (fg_in (((nI 60) * (bs_iv (mu (m + 27) l4.toNatClampNeg))) + (bs_iv (mu (m + 27) s.2.toNatClampNeg))) 3600) (
      fg_bd (rQ mu (l5 &&& (((nI 1) <<< (s.2 &&& 31)) ^^^ (-1))) l2 l3) (fun v7 => 
      some (.inl ((if ((bs_iv (mu (m + 24) (((nI 60) * (bs_iv (mu (m + 27) l4.toNatClampNeg))) + (bs_iv (mu (m + 27) s.2.toNatClampNeg))).toNatClampNeg)) + v7) < s.1 then ((bs_iv (mu (m + 24) (((nI 60) * (bs_iv (mu (m + 27) l4.toNatClampNeg))) + (bs_iv (mu (m + 27) s.2.toNatClampNeg))).toNatClampNeg)) + v7) else s.1), (s.2 + (nI 1))))))))
    ) else (
      some (.inl (s.1, (s.2 + (nI 1))))
    )
  )
set_option maxHeartbeats 4000000 in
theorem wFX12_pairing_b50 {nx : Nat} {sh : bs_Sh} {R : Nat → Nat → Option Nat} {m : Nat} (HM : fg_S (bs_tM m) R m sh) {rQ : bs_Mm → Int32 → Int32 → Int32 → Option (Int32)} {d_rQ : Nat} (h_rQ : ∀ {mu : bs_Mm} {a0 : Int32} {a1 : Int32} {a2 : Int32} {q : Int32}, fg_R R mu → rQ mu a0 a1 a2 = some q → bs_C mX12_pairing (bs_rm d_rQ 0 0) [.ref m, .int a0, .int a1, .int a2] nx sh mu (fg_po R nx sh (some (.int q)) mu)) {mu : bs_Mm} {l2 : Int32} {l3 : Int32} {l4 : Int32} {l5 : Int32} {Ph : bs_Po} {s : Int32 × Int32} {r : (Int32 × Int32) ⊕ (Int32)} (ka : ∀ s, r = .inl s → bs_W Ph mX12_pairing (bs_rm (d_rQ + 1) 0 0) 50 (bs_mk [(0, .ref m), (2, .int l2), (3, .int l3), (4, .int l4), (5, .int l5), (6, .int s.1), (7, .int s.2)]) [] 0 0 nx sh mu) (ke : ∀ s, r = .inr s → bs_W Ph mX12_pairing (bs_rm (d_rQ + 1) 0 0) 119 (bs_mk [(0, .ref m), (2, .int l2), (3, .int l3), (4, .int l4), (5, .int l5), (6, .int s)]) [] 0 0 nx sh mu) (hR : fg_R R mu) (h : FX12_pairing_b50 m rQ mu l2 l3 l4 l5 s = some r) : bs_W Ph mX12_pairing (bs_rm (d_rQ + 1) 0 0) 50 (bs_mk [(0, .ref m), (2, .int l2), (3, .int l3), (4, .int l4), (5, .int l5), (6, .int s.1), (7, .int s.2)]) [] 0 0 nx sh mu := by
  unfold FX12_pairing_b50 at h
  refine bs_iload dX12_pairing_50 rfl ?_
  refine bs_iload_n dX12_pairing_52 rfl ?_
  refine bs_icmp_ge (tgt := 119) dX12_pairing_53 (by decide) (fun c => ?_) (fun c => ?_)
  · replace h := fg_ip c h
    cases h
    refine bs_W.mk [(0, .ref m), (2, .int l2), (3, .int l3), (4, .int l4), (5, .int l5), (6, .int s.1)] (by intro q hq; simp only [List.mem_cons, List.not_mem_nil, or_false] at hq; rcases hq with rfl | rfl | rfl | rfl | rfl | rfl <;> rfl) (ke _ rfl)
  · replace h := fg_iN c h
    refine bs_iload dX12_pairing_56 rfl ?_
    refine bs_iload dX12_pairing_58 rfl ?_
    refine bs_ishr dX12_pairing_60 ?_
    refine bs_iconst (v := (nI 1)) dX12_pairing_61 (by decide) ?_
    refine bs_iand dX12_pairing_62 ?_
    refine bs_iconst (v := (nI 1)) dX12_pairing_63 (by decide) ?_
    refine bs_icmp_ne (tgt := 113) dX12_pairing_64 (by decide) (fun c => ?_) (fun c => ?_)
    · replace h := fg_iN c h
      refine fg_iinc (m := (nI 1)) dX12_pairing_113 rfl rfl (by decide) ?_
      refine bs_goto (tgt := 50) dX12_pairing_116 (by decide) ?_
      cases h
      refine bs_W.mk [(0, .ref m), (2, .int l2), (3, .int l3), (4, .int l4), (5, .int l5), (6, .int s.1), (7, .int (s.2 + (nI 1)))] (by intro q hq; simp only [List.mem_cons, List.not_mem_nil, or_false] at hq; rcases hq with rfl | rfl | rfl | rfl | rfl | rfl | rfl <;> rfl) (by have k := ka _ rfl; dsimp only at k; exact k)
    · replace h := fg_ip c h
      refine bs_iload dX12_pairing_67 rfl ?_
      refine bs_aload_n dX12_pairing_69 rfl ?_
      refine fg_getR (b := (m + 24)) dX12_pairing_70 fX12_80 (HM.s 0 rfl rfl rfl) hR (HM.r 0 36 rfl rfl rfl) ?_
      refine bs_bipush (v := (nI 60)) dX12_pairing_73 (by decide) ?_
      refine bs_aload_n dX12_pairing_75 rfl ?_
      refine fg_getR (b := (m + 27)) dX12_pairing_76 fX12_90 (HM.s 0 rfl rfl rfl) hR (HM.r 0 39 rfl rfl rfl) ?_
      refine bs_iload dX12_pairing_79 rfl ?_
      obtain ⟨g3, h⟩ := fg_gdE h
      refine bs_iald dX12_pairing_81 (HM.ss 27 rfl rfl) (fg_in_ix g3) ?_
      refine bs_imul dX12_pairing_82 ?_
      refine bs_aload_n dX12_pairing_83 rfl ?_
      refine fg_getR (b := (m + 27)) dX12_pairing_84 fX12_90 (HM.s 0 rfl rfl rfl) hR (HM.r 0 39 rfl rfl rfl) ?_
      refine bs_iload dX12_pairing_87 rfl ?_
      obtain ⟨g4, h⟩ := fg_gdE h
      refine bs_iald dX12_pairing_89 (HM.ss 27 rfl rfl) (fg_in_ix g4) ?_
      refine bs_iadd dX12_pairing_90 ?_
      obtain ⟨g5, h⟩ := fg_gdE h
      refine bs_iald dX12_pairing_91 (HM.ss 24 rfl rfl) (fg_in_ix g5) ?_
      refine bs_aload_n dX12_pairing_92 rfl ?_
      refine bs_iload dX12_pairing_93 rfl ?_
      refine bs_iconst (v := (nI 1)) dX12_pairing_95 (by decide) ?_
      refine bs_iload dX12_pairing_96 rfl ?_
      refine bs_ishl dX12_pairing_98 ?_
      refine bs_iconst (v := (-1)) dX12_pairing_99 (by decide) ?_
      refine bs_ixor dX12_pairing_100 ?_
      refine bs_iand dX12_pairing_101 ?_
      refine bs_iload_n dX12_pairing_102 rfl ?_
      refine bs_iload_n dX12_pairing_103 rfl ?_
      obtain ⟨v7, k6, h⟩ := fg_bdE h
      refine fg_callV dX12_pairing_104 qX12_387 (h_rQ hR k6) rfl (HM.s 0 rfl rfl rfl) rfl (Nat.le_of_ble_eq_true rfl) (fg_cr (by first | decide | omega) (by decide)) (fun hR => ?_)
      refine bs_iadd dX12_pairing_107 ?_
      refine bs_mmin dX12_pairing_108 xX12_155 (by first | decide | (simp only [bs_rm]; omega)) (by first | exact Nat.le_of_ble_eq_true rfl | (simp only [bs_rm, List.map, List.sum_cons, List.sum_nil, Value.category]; omega)) (Nat.zero_le _) (Nat.zero_le _) ?_
      refine bs_istore dX12_pairing_111 rfl (by decide) ?_
      refine fg_iinc (m := (nI 1)) dX12_pairing_113 rfl rfl (by decide) ?_
      refine bs_goto (tgt := 50) dX12_pairing_116 (by decide) ?_
      cases h
      refine bs_W.mk [(0, .ref m), (2, .int l2), (3, .int l3), (4, .int l4), (5, .int l5), (6, .int (if ((bs_iv (mu (m + 24) (((nI 60) * (bs_iv (mu (m + 27) l4.toNatClampNeg))) + (bs_iv (mu (m + 27) s.2.toNatClampNeg))).toNatClampNeg)) + v7) < s.1 then ((bs_iv (mu (m + 24) (((nI 60) * (bs_iv (mu (m + 27) l4.toNatClampNeg))) + (bs_iv (mu (m + 27) s.2.toNatClampNeg))).toNatClampNeg)) + v7) else s.1)), (7, .int (s.2 + (nI 1)))] (by intro q hq; simp only [List.mem_cons, List.not_mem_nil, or_false] at hq; rcases hq with rfl | rfl | rfl | rfl | rfl | rfl | rfl <;> rfl) (by have k := ka _ rfl; dsimp only at k; exact k)
theorem wFX12_pairing_l50 {nx : Nat} {sh : bs_Sh} {R : Nat → Nat → Option Nat} {m : Nat} (HM : fg_S (bs_tM m) R m sh) {rQ : bs_Mm → Int32 → Int32 → Int32 → Option (Int32)} {d_rQ : Nat} (h_rQ : ∀ {mu : bs_Mm} {a0 : Int32} {a1 : Int32} {a2 : Int32} {q : Int32}, fg_R R mu → rQ mu a0 a1 a2 = some q → bs_C mX12_pairing (bs_rm d_rQ 0 0) [.ref m, .int a0, .int a1, .int a2] nx sh mu (fg_po R nx sh (some (.int q)) mu)) {mu : bs_Mm} {l2 : Int32} {l3 : Int32} {l4 : Int32} {l5 : Int32} {Ph : bs_Po} {t : Int32} : ∀ n (y0 : Int32) (y1 : Int32), fg_lp (FX12_pairing_b50 m rQ mu l2 l3 l4 l5) n (y0, y1) = some t → fg_R R mu → (ke : ∀ s, t = s → bs_W Ph mX12_pairing (bs_rm (d_rQ + 1) 0 0) 119 (bs_mk [(0, .ref m), (2, .int l2), (3, .int l3), (4, .int l4), (5, .int l5), (6, .int s)]) [] 0 0 nx sh mu) → bs_W Ph mX12_pairing (bs_rm (d_rQ + 1) 0 0) 50 (bs_mk [(0, .ref m), (2, .int l2), (3, .int l3), (4, .int l4), (5, .int l5), (6, .int y0), (7, .int y1)]) [] 0 0 nx sh mu := by
  intro n
  induction n with
  | zero => intro y0 y1 h; exact absurd h (fun z => fg_lp0 z)
  | succ n ih =>
    intro y0 y1 h hR ke
    obtain ⟨r, hb, h1, h2⟩ := fg_lpE h
    exact wFX12_pairing_b50 (s := (y0, y1)) HM h_rQ (fun s' e => ih s'.1 s'.2 (h1 s' e) hR ke) (fun s' e => ke s' (h2 _ e).symm) hR hb
noncomputable def FX12_pairing_j42 (m : Nat) (rQ : bs_Mm → Int32 → Int32 → Int32 → Option (Int32)) (mu : bs_Mm) (l2 : Int32) (l3 : Int32) (l4 : Int32) (l5 : Int32) (t0 : Int32) : Option (Int32) :=
  fg_bd (fg_lp (FX12_pairing_b50 m rQ mu l2 l3 l4 l5) fg_fu (t0, (l4 + (nI 1)))) (fun t8 => 
    some (t8)
  )
set_option maxHeartbeats 4000000 in
theorem wFX12_pairing_j42 {nx : Nat} {sh : bs_Sh} {R : Nat → Nat → Option Nat} {m : Nat} (HM : fg_S (bs_tM m) R m sh) {rQ : bs_Mm → Int32 → Int32 → Int32 → Option (Int32)} {d_rQ : Nat} (h_rQ : ∀ {mu : bs_Mm} {a0 : Int32} {a1 : Int32} {a2 : Int32} {q : Int32}, fg_R R mu → rQ mu a0 a1 a2 = some q → bs_C mX12_pairing (bs_rm d_rQ 0 0) [.ref m, .int a0, .int a1, .int a2] nx sh mu (fg_po R nx sh (some (.int q)) mu)) {mu : bs_Mm} {l2 : Int32} {l3 : Int32} {l4 : Int32} {l5 : Int32} {t0 : Int32} {Ph : bs_Po} {r : Int32} (kr : ∀ q, r = q → fg_R R mu → Ph (some (.int q)) nx sh mu) (hR : fg_R R mu) (h : FX12_pairing_j42 m rQ mu l2 l3 l4 l5 t0 = some r) : bs_W Ph mX12_pairing (bs_rm (d_rQ + 1) 0 0) 42 (bs_mk [(0, .ref m), (2, .int l2), (3, .int l3), (4, .int l4), (5, .int l5)]) [.int t0] 0 0 nx sh mu := by
  unfold FX12_pairing_j42 at h
  refine bs_istore dX12_pairing_42 rfl (by decide) ?_
  refine bs_iload dX12_pairing_44 rfl ?_
  refine bs_iconst (v := (nI 1)) dX12_pairing_46 (by decide) ?_
  refine bs_iadd dX12_pairing_47 ?_
  refine bs_istore dX12_pairing_48 rfl (by decide) ?_
  obtain ⟨t8, k9, h⟩ := fg_bdE h
  refine bs_W.mk [(0, .ref m), (2, .int l2), (3, .int l3), (4, .int l4), (5, .int l5), (6, .int t0), (7, .int (l4 + (nI 1)))] (by intro q hq; simp only [List.mem_cons, List.not_mem_nil, or_false] at hq; rcases hq with rfl | rfl | rfl | rfl | rfl | rfl | rfl <;> rfl) ?_
  refine wFX12_pairing_l50 HM h_rQ _ _ _ k9 hR ?_
  intro s e
  subst e
  refine bs_iload dX12_pairing_119 rfl ?_
  cases h
  exact bs_iret dX12_pairing_121 rfl (Nat.zero_le _) (Nat.zero_le _) (kr _ rfl hR)
noncomputable def FX12_pairing (m : Nat) (rQ : bs_Mm → Int32 → Int32 → Int32 → Option (Int32)) (mu : bs_Mm) (p1 : Int32) (p2 : Int32) (p3 : Int32) : Option (Int32) :=
  if p1 = 0 then (
    some ((nI 0))
  ) else (
    fg_bd (FJ6_numberOfTrailingZeros_0f7a4  mu p1) (fun v2 => 
    if p3 ≤ 0 then (
      FX12_pairing_j42 m rQ mu p2 p3 v2 (p1 &&& (((nI 1) <<< (v2 &&& 31)) ^^^ (-1))) (1000000 : Int32)
    ) else (
      fg_bd (rQ mu (p1 &&& (((nI 1) <<< (v2 &&& 31)) ^^^ (-1))) p2 (p3 - (nI 1))) (fun v11 => 
      FX12_pairing_j42 m rQ mu p2 p3 v2 (p1 &&& (((nI 1) <<< (v2 &&& 31)) ^^^ (-1))) v11)
    ))
  )
set_option maxHeartbeats 4000000 in
theorem wX12_pairing {nx : Nat} {sh : bs_Sh} {R : Nat → Nat → Option Nat} {m : Nat} (HM : fg_S (bs_tM m) R m sh) {rQ : bs_Mm → Int32 → Int32 → Int32 → Option (Int32)} {d_rQ : Nat} (h_rQ : ∀ {mu : bs_Mm} {a0 : Int32} {a1 : Int32} {a2 : Int32} {q : Int32}, fg_R R mu → rQ mu a0 a1 a2 = some q → bs_C mX12_pairing (bs_rm d_rQ 0 0) [.ref m, .int a0, .int a1, .int a2] nx sh mu (fg_po R nx sh (some (.int q)) mu)) {mu : bs_Mm} (hR : fg_R R mu) {p1 : Int32} {p2 : Int32} {p3 : Int32} {r : Int32} (h : FX12_pairing m rQ mu p1 p2 p3 = some r) : bs_C mX12_pairing (bs_rm (d_rQ + 1) 0 0) [.ref m, .int p1, .int p2, .int p3] nx sh mu (fg_po R nx sh (some (.int r)) mu) := by
  refine bs_ct (by decide +kernel) (Nat.le_of_ble_eq_true rfl) ?_
  have kr : ∀ q, r = q → fg_R R mu → (fg_po R nx sh (some (.int r)) mu) (some (.int q)) nx sh mu := fun q e hq => by subst e; exact ⟨rfl, rfl, rfl, rfl, hq⟩
  unfold FX12_pairing at h
  refine bs_iload_n dX12_pairing_0 rfl ?_
  refine bs_if_ne (tgt := 6) dX12_pairing_1 (by decide) (fun c => ?_) (fun c => ?_)
  · replace h := fg_iN c h
    refine bs_iload_n dX12_pairing_6 rfl ?_
    obtain ⟨v2, k1, h⟩ := fg_bdE h
    refine fg_callS dX12_pairing_7 qX12_384 (wJ6_numberOfTrailingZeros_0f7a4  hR k1) rfl rfl (Nat.le_of_ble_eq_true rfl) (fg_cr (by first | decide | omega) (by decide)) (fun hR => ?_)
    refine bs_istore dX12_pairing_10 rfl (by decide) ?_
    refine bs_iload_n dX12_pairing_12 rfl ?_
    refine bs_iconst (v := (nI 1)) dX12_pairing_13 (by decide) ?_
    refine bs_iload dX12_pairing_14 rfl ?_
    refine bs_ishl dX12_pairing_16 ?_
    refine bs_iconst (v := (-1)) dX12_pairing_17 (by decide) ?_
    refine bs_ixor dX12_pairing_18 ?_
    refine bs_iand dX12_pairing_19 ?_
    refine bs_istore dX12_pairing_20 rfl (by decide) ?_
    refine bs_iload_n dX12_pairing_22 rfl ?_
    refine bs_if_le (tgt := 39) dX12_pairing_23 (by decide) (fun c => ?_) (fun c => ?_)
    · replace h := fg_ip c h
      refine bs_ldcw (v := (1000000)) dX12_pairing_39 cX12_365 ?_
      refine bs_W.mk [(0, .ref m), (2, .int p2), (3, .int p3), (4, .int v2), (5, .int (p1 &&& (((nI 1) <<< (v2 &&& 31)) ^^^ (-1))))] (by intro q hq; simp only [List.mem_cons, List.not_mem_nil, or_false] at hq; rcases hq with rfl | rfl | rfl | rfl | rfl <;> rfl) ?_
      exact wFX12_pairing_j42 HM h_rQ kr hR h
    · replace h := fg_iN c h
      refine bs_aload_n dX12_pairing_26 rfl ?_
      refine bs_iload dX12_pairing_27 rfl ?_
      refine bs_iload_n dX12_pairing_29 rfl ?_
      refine bs_iload_n dX12_pairing_30 rfl ?_
      refine bs_iconst (v := (nI 1)) dX12_pairing_31 (by decide) ?_
      refine bs_isub dX12_pairing_32 ?_
      obtain ⟨v11, k10, h⟩ := fg_bdE h
      refine fg_callV dX12_pairing_33 qX12_387 (h_rQ hR k10) rfl (HM.s 0 rfl rfl rfl) rfl (Nat.le_of_ble_eq_true rfl) (fg_cr (by first | decide | omega) (by decide)) (fun hR => ?_)
      refine bs_goto (tgt := 42) dX12_pairing_36 (by decide) ?_
      refine bs_W.mk [(0, .ref m), (2, .int p2), (3, .int p3), (4, .int v2), (5, .int (p1 &&& (((nI 1) <<< (v2 &&& 31)) ^^^ (-1))))] (by intro q hq; simp only [List.mem_cons, List.not_mem_nil, or_false] at hq; rcases hq with rfl | rfl | rfl | rfl | rfl <;> rfl) ?_
      exact wFX12_pairing_j42 HM h_rQ kr hR h
  · replace h := fg_ip c h
    refine bs_iconst (v := (nI 0)) dX12_pairing_4 (by decide) ?_
    cases h
    exact bs_iret dX12_pairing_5 rfl (Nat.zero_le _) (Nat.zero_le _) (kr _ rfl hR)
