noncomputable def FX0_clearLost_b2 (x : Nat)  (l1 : Int32) (l2 : Int32) (s : Int32 × bs_Mm) : Option ((Int32 × bs_Mm) ⊕ (bs_Mm)) :=
  if l1 ≤ s.1 then (
    some (.inr s.2)
  ) else (
    fg_gd (fg_in l2 61) (
    if ((bs_iv (s.2 (x + 46) l2.toNatClampNeg)) &&& ((nI 1) <<< (s.1 &&& 31))) = 0 then (
      some (.inl ((s.1 + (nI 1)), s.2))
    ) else (
      fg_gd (fg_in ((l2 * (nI 24)) + s.1) 1464) (
      fg_wr s.2 (x + 47) ((l2 * (nI 24)) + s.1).toNatClampNeg (.int (nI 0)) (fun mu3 => 
      some (.inl ((s.1 + (nI 1)), mu3))))
    ))
  )
set_option maxHeartbeats 4000000 in
theorem wFX0_clearLost_b2 {nx : Nat} {sh : bs_Sh} {R : Nat → Nat → Option Nat} {x : Nat} (HX : fg_S (bs_tS x) R x sh) {l1 : Int32} {l2 : Int32} {Ph : bs_Po} {s : Int32 × bs_Mm} {r : (Int32 × bs_Mm) ⊕ (bs_Mm)} (ka : ∀ s, r = .inl s → fg_R R s.2 → bs_W Ph mX0_clearLost (bs_rm 0 0 0) 2 (bs_mk [(0, .ref (x + 45)), (1, .int l1), (2, .int l2), (3, .int s.1)]) [] 0 0 nx sh s.2) (ke : ∀ s, r = .inr s → fg_R R s → bs_W Ph mX0_clearLost (bs_rm 0 0 0) 38 (bs_mk [(0, .ref (x + 45)), (1, .int l1), (2, .int l2)]) [] 0 0 nx sh s) (hR : fg_R R s.2) (h : FX0_clearLost_b2 x l1 l2 s = some r) : bs_W Ph mX0_clearLost (bs_rm 0 0 0) 2 (bs_mk [(0, .ref (x + 45)), (1, .int l1), (2, .int l2), (3, .int s.1)]) [] 0 0 nx sh s.2 := by
  unfold FX0_clearLost_b2 at h
  refine bs_iload_n dX0_clearLost_2 rfl ?_
  refine bs_iload_n dX0_clearLost_3 rfl ?_
  refine bs_icmp_ge (tgt := 38) dX0_clearLost_4 (by decide) (fun c => ?_) (fun c => ?_)
  · replace h := fg_ip c h
    cases h
    refine bs_W.mk [(0, .ref (x + 45)), (1, .int l1), (2, .int l2)] (by intro q hq; simp only [List.mem_cons, List.not_mem_nil, or_false] at hq; rcases hq with rfl | rfl | rfl <;> rfl) (ke _ rfl hR)
  · replace h := fg_iN c h
    refine bs_aload_n dX0_clearLost_7 rfl ?_
    refine fg_getR (b := (x + 46)) dX0_clearLost_8 fX0_9 (HX.s 45 rfl rfl rfl) hR (HX.r 45 0 rfl rfl rfl) ?_
    refine bs_iload_n dX0_clearLost_11 rfl ?_
    obtain ⟨g1, h⟩ := fg_gdE h
    refine bs_iald dX0_clearLost_12 (HX.ss 46 rfl rfl) (fg_in_ix g1) ?_
    refine bs_iconst (v := (nI 1)) dX0_clearLost_13 (by decide) ?_
    refine bs_iload_n dX0_clearLost_14 rfl ?_
    refine bs_ishl dX0_clearLost_15 ?_
    refine bs_iand dX0_clearLost_16 ?_
    refine bs_if_eq (tgt := 32) dX0_clearLost_17 (by decide) (fun c => ?_) (fun c => ?_)
    · replace h := fg_ip c h
      refine fg_iinc (m := (nI 1)) dX0_clearLost_32 rfl rfl (by decide) ?_
      refine bs_goto (tgt := 2) dX0_clearLost_35 (by decide) ?_
      cases h
      refine bs_W.mk [(0, .ref (x + 45)), (1, .int l1), (2, .int l2), (3, .int (s.1 + (nI 1)))] (by intro q hq; simp only [List.mem_cons, List.not_mem_nil, or_false] at hq; rcases hq with rfl | rfl | rfl | rfl <;> rfl) (by have k := ka _ rfl hR; dsimp only at k; exact k)
    · replace h := fg_iN c h
      refine bs_aload_n dX0_clearLost_20 rfl ?_
      refine fg_getR (b := (x + 47)) dX0_clearLost_21 fX0_15 (HX.s 45 rfl rfl rfl) hR (HX.r 45 1 rfl rfl rfl) ?_
      refine bs_iload_n dX0_clearLost_24 rfl ?_
      refine bs_bipush (v := (nI 24)) dX0_clearLost_25 (by decide) ?_
      refine bs_imul dX0_clearLost_27 ?_
      refine bs_iload_n dX0_clearLost_28 rfl ?_
      refine bs_iadd dX0_clearLost_29 ?_
      refine bs_iconst (v := (nI 0)) dX0_clearLost_30 (by decide) ?_
      obtain ⟨g2, h⟩ := fg_gdE h
      refine fg_iast dX0_clearLost_31 (HX.ss 47 rfl rfl) (fun j => HX.n 47 j rfl rfl rfl) g2 hR h (fun mu3 hR h => ?_)
      refine fg_iinc (m := (nI 1)) dX0_clearLost_32 rfl rfl (by decide) ?_
      refine bs_goto (tgt := 2) dX0_clearLost_35 (by decide) ?_
      cases h
      refine bs_W.mk [(0, .ref (x + 45)), (1, .int l1), (2, .int l2), (3, .int (s.1 + (nI 1)))] (by intro q hq; simp only [List.mem_cons, List.not_mem_nil, or_false] at hq; rcases hq with rfl | rfl | rfl | rfl <;> rfl) (by have k := ka _ rfl hR; dsimp only at k; exact k)
theorem wFX0_clearLost_l2 {nx : Nat} {sh : bs_Sh} {R : Nat → Nat → Option Nat} {x : Nat} (HX : fg_S (bs_tS x) R x sh) {l1 : Int32} {l2 : Int32} {Ph : bs_Po} {t : bs_Mm} : ∀ n (y0 : Int32) (mu1 : bs_Mm), fg_lp (FX0_clearLost_b2 x l1 l2) n (y0, mu1) = some t → fg_R R mu1 → (ke : ∀ s, t = s → fg_R R s → bs_W Ph mX0_clearLost (bs_rm 0 0 0) 38 (bs_mk [(0, .ref (x + 45)), (1, .int l1), (2, .int l2)]) [] 0 0 nx sh s) → bs_W Ph mX0_clearLost (bs_rm 0 0 0) 2 (bs_mk [(0, .ref (x + 45)), (1, .int l1), (2, .int l2), (3, .int y0)]) [] 0 0 nx sh mu1 := by
  intro n
  induction n with
  | zero => intro y0 mu1 h; exact absurd h (fun z => fg_lp0 z)
  | succ n ih =>
    intro y0 mu1 h hR ke
    obtain ⟨r, hb, h1, h2⟩ := fg_lpE h
    exact wFX0_clearLost_b2 (s := (y0, mu1)) HX (fun s' e hR' => ih s'.1 s'.2 (h1 s' e) hR' ke) (fun s' e => ke s' (h2 _ e).symm) hR hb
noncomputable def FX0_clearLost (x : Nat) (mu : bs_Mm) (p1 : Int32) (p2 : Int32) : Option (bs_Mm) :=
  fg_bd (fg_lp (FX0_clearLost_b2 x p1 p2) fg_fu ((nI 0), mu)) (fun t4 => 
    some t4
  )
set_option maxHeartbeats 4000000 in
theorem wX0_clearLost {nx : Nat} {sh : bs_Sh} {R : Nat → Nat → Option Nat} {x : Nat} (HX : fg_S (bs_tS x) R x sh) {mu : bs_Mm} (hR : fg_R R mu) {p1 : Int32} {p2 : Int32} {r : bs_Mm} (h : FX0_clearLost x mu p1 p2 = some r) : bs_C mX0_clearLost (bs_rm 0 0 0) [.ref (x + 45), .int p1, .int p2] nx sh mu (fg_po R nx sh none r) := by
  refine bs_ct (by decide +kernel) (Nat.le_of_ble_eq_true rfl) ?_
  have kr : ∀ q, r = q → fg_R R q → (fg_po R nx sh none r) none nx sh q := fun q e hq => by subst e; exact ⟨rfl, rfl, rfl, rfl, hq⟩
  unfold FX0_clearLost at h
  refine bs_iconst (v := (nI 0)) dX0_clearLost_0 (by decide) ?_
  refine bs_istore_n dX0_clearLost_1 rfl (by decide) ?_
  obtain ⟨t4, k5, h⟩ := fg_bdE h
  refine bs_W.mk [(0, .ref (x + 45)), (1, .int p1), (2, .int p2), (3, .int (nI 0))] (by intro q hq; simp only [List.mem_cons, List.not_mem_nil, or_false] at hq; rcases hq with rfl | rfl | rfl | rfl <;> rfl) ?_
  refine wFX0_clearLost_l2 HX _ _ _ k5 hR ?_
  intro s e hR
  subst e
  cases h
  exact bs_vret dX0_clearLost_38 rfl (Nat.zero_le _) (Nat.zero_le _) (kr _ rfl hR)
noncomputable def FX0_ageOneHour_j119_L21 (x : Nat) (p2 : Nat) (p3 : Nat) (mu : bs_Mm) (l1 : Int32) (l6 : Int32) (l7 : Int32) (l8 : Int32) : Option ((Int32 × Int32 × bs_Mm) ⊕ (Int32 × bs_Mm)) :=
  fg_gd (fg_in ((l1 * (nI 24)) + l7) 1464) (
  fg_wr mu (x + 47) ((l1 * (nI 24)) + l7).toNatClampNeg (.int l8) (fun mu7 => 
  some (.inl (l6, (l7 + (nI 1)), mu7))))
set_option maxHeartbeats 4000000 in
theorem wFX0_ageOneHour_j119_L21 {nx : Nat} {sh : bs_Sh} {R : Nat → Nat → Option Nat} {x : Nat} (HX : fg_S (bs_tS x) R x sh) {p2 : Nat} (h_p2 : fg_F R sh p2) {p3 : Nat} (h_p3 : fg_U R sh p3) {mu : bs_Mm} {l1 : Int32} {l6 : Int32} {l7 : Int32} {l8 : Int32} {Ph : bs_Po} {r : (Int32 × Int32 × bs_Mm) ⊕ (Int32 × bs_Mm)} (ka : ∀ s, r = .inl s → fg_R R s.2.2 → bs_W Ph mX0_ageOneHour (bs_rm 5 0 0) 21 (bs_mk [(0, .ref (x + 45)), (1, .int l1), (2, .ref p2), (3, .ref p3), (4, .ref (x + 1)), (5, .ref (x + 26)), (6, .int s.1), (7, .int s.2.1)]) [] 0 0 nx sh s.2.2) (ke : ∀ s, r = .inr s → fg_R R s.2 → bs_W Ph mX0_ageOneHour (bs_rm 5 0 0) 139 (bs_mk [(0, .ref (x + 45)), (1, .int l1), (2, .ref p2), (3, .ref p3), (4, .ref (x + 1)), (5, .ref (x + 26)), (6, .int s.1)]) [] 0 0 nx sh s.2) (hR : fg_R R mu) (h : FX0_ageOneHour_j119_L21 x p2 p3 mu l1 l6 l7 l8 = some r) : bs_W Ph mX0_ageOneHour (bs_rm 5 0 0) 119 (bs_mk [(0, .ref (x + 45)), (1, .int l1), (2, .ref p2), (3, .ref p3), (4, .ref (x + 1)), (5, .ref (x + 26)), (6, .int l6), (7, .int l7), (8, .int l8)]) [] 0 0 nx sh mu := by
  unfold FX0_ageOneHour_j119_L21 at h
  refine bs_aload_n dX0_ageOneHour_119 rfl ?_
  refine fg_getR (b := (x + 47)) dX0_ageOneHour_120 fX0_15 (HX.s 45 rfl rfl rfl) hR (HX.r 45 1 rfl rfl rfl) ?_
  refine bs_iload_n dX0_ageOneHour_123 rfl ?_
  refine bs_bipush (v := (nI 24)) dX0_ageOneHour_124 (by decide) ?_
  refine bs_imul dX0_ageOneHour_126 ?_
  refine bs_iload dX0_ageOneHour_127 rfl ?_
  refine bs_iadd dX0_ageOneHour_129 ?_
  refine bs_iload dX0_ageOneHour_130 rfl ?_
  obtain ⟨g6, h⟩ := fg_gdE h
  refine fg_iast dX0_ageOneHour_132 (HX.ss 47 rfl rfl) (fun j => HX.n 47 j rfl rfl rfl) g6 hR h (fun mu7 hR h => ?_)
  refine fg_iinc (m := (nI 1)) dX0_ageOneHour_133 rfl rfl (by decide) ?_
  refine bs_goto (tgt := 21) dX0_ageOneHour_136 (by decide) ?_
  cases h
  refine bs_W.mk [(0, .ref (x + 45)), (1, .int l1), (2, .ref p2), (3, .ref p3), (4, .ref (x + 1)), (5, .ref (x + 26)), (6, .int l6), (7, .int (l7 + (nI 1)))] (by intro q hq; simp only [List.mem_cons, List.not_mem_nil, or_false] at hq; rcases hq with rfl | rfl | rfl | rfl | rfl | rfl | rfl | rfl <;> rfl) (by have k := ka _ rfl hR; dsimp only at k; exact k)
noncomputable def FX0_ageOneHour_j116_L21 (x : Nat) (p2 : Nat) (p3 : Nat) (mu : bs_Mm) (l1 : Int32) (l7 : Int32) (l8 : Int32) (t0 : Int32) (t1 : Int32) : Option ((Int32 × Int32 × bs_Mm) ⊕ (Int32 × bs_Mm)) :=
  FX0_ageOneHour_j119_L21 x p2 p3 mu l1 (t0 ||| t1) l7 l8
set_option maxHeartbeats 4000000 in
theorem wFX0_ageOneHour_j116_L21 {nx : Nat} {sh : bs_Sh} {R : Nat → Nat → Option Nat} {x : Nat} (HX : fg_S (bs_tS x) R x sh) {p2 : Nat} (h_p2 : fg_F R sh p2) {p3 : Nat} (h_p3 : fg_U R sh p3) {mu : bs_Mm} {l1 : Int32} {l7 : Int32} {l8 : Int32} {t0 : Int32} {t1 : Int32} {Ph : bs_Po} {r : (Int32 × Int32 × bs_Mm) ⊕ (Int32 × bs_Mm)} (ka : ∀ s, r = .inl s → fg_R R s.2.2 → bs_W Ph mX0_ageOneHour (bs_rm 5 0 0) 21 (bs_mk [(0, .ref (x + 45)), (1, .int l1), (2, .ref p2), (3, .ref p3), (4, .ref (x + 1)), (5, .ref (x + 26)), (6, .int s.1), (7, .int s.2.1)]) [] 0 0 nx sh s.2.2) (ke : ∀ s, r = .inr s → fg_R R s.2 → bs_W Ph mX0_ageOneHour (bs_rm 5 0 0) 139 (bs_mk [(0, .ref (x + 45)), (1, .int l1), (2, .ref p2), (3, .ref p3), (4, .ref (x + 1)), (5, .ref (x + 26)), (6, .int s.1)]) [] 0 0 nx sh s.2) (hR : fg_R R mu) (h : FX0_ageOneHour_j116_L21 x p2 p3 mu l1 l7 l8 t0 t1 = some r) : bs_W Ph mX0_ageOneHour (bs_rm 5 0 0) 116 (bs_mk [(0, .ref (x + 45)), (1, .int l1), (2, .ref p2), (3, .ref p3), (4, .ref (x + 1)), (5, .ref (x + 26)), (7, .int l7), (8, .int l8)]) [.int t1, .int t0] 0 0 nx sh mu := by
  unfold FX0_ageOneHour_j116_L21 at h
  refine bs_ior dX0_ageOneHour_116 ?_
  refine bs_istore dX0_ageOneHour_117 rfl (by decide) ?_
  refine bs_W.mk [(0, .ref (x + 45)), (1, .int l1), (2, .ref p2), (3, .ref p3), (4, .ref (x + 1)), (5, .ref (x + 26)), (6, .int (t0 ||| t1)), (7, .int l7), (8, .int l8)] (by intro q hq; simp only [List.mem_cons, List.not_mem_nil, or_false] at hq; rcases hq with rfl | rfl | rfl | rfl | rfl | rfl | rfl | rfl | rfl <;> rfl) ?_
  exact wFX0_ageOneHour_j119_L21 HX h_p2 h_p3 ka ke hR h
noncomputable def FX0_ageOneHour_b21 (x : Nat) (p2 : Nat) (p3 : Nat)  (l1 : Int32) (s : Int32 × Int32 × bs_Mm) : Option ((Int32 × Int32 × bs_Mm) ⊕ (Int32 × bs_Mm)) :=
  if (bs_iv (s.2.2 p2 7)) ≤ s.2.1 then (
    some (.inr (s.1, s.2.2))
  ) else (
    fg_bd (FX0_lengthAt x s.2.2 (l1 - (nI 1)) s.2.1) (fun v5 => 
    if v5 ≤ 0 then (
      FX0_ageOneHour_j119_L21 x p2 p3 s.2.2 l1 s.1 s.2.1 v5
    ) else (
      fg_bd (FX5_liveEndsOf x s.2.2 p2 s.2.1) (fun v9 => 
      fg_gd (fg_in s.2.1 24) (
      fg_gd (fg_in (bs_iv (s.2.2 (p2 + 5) s.2.1.toNatClampNeg)) 6) (
      fg_bd (FX0_tellLetters x s.2.2 v5 l1 v9 (bs_iv (s.2.2 (p2 + 1) (bs_iv (s.2.2 (p2 + 5) s.2.1.toNatClampNeg)).toNatClampNeg))) (fun mu13 => 
      fg_b2 (FX6_worthBy x p3 mu13 (x + 48) (x + 49)) (fun v16 mu15 => 
      if (v5 - (if (nI 0) < (if v16 < v5 then v16 else v5) then (if v16 < v5 then v16 else v5) else (nI 0))) = 0 then (
        FX0_ageOneHour_j116_L21 x p2 p3 mu15 l1 s.2.1 (v5 - (if (nI 0) < (if v16 < v5 then v16 else v5) then (if v16 < v5 then v16 else v5) else (nI 0))) s.1 ((nI 1) <<< (s.2.1 &&& 31))
      ) else (
        FX0_ageOneHour_j116_L21 x p2 p3 mu15 l1 s.2.1 (v5 - (if (nI 0) < (if v16 < v5 then v16 else v5) then (if v16 < v5 then v16 else v5) else (nI 0))) s.1 (nI 0)
      ))))))
    ))
  )
set_option maxHeartbeats 4000000 in
theorem wFX0_ageOneHour_b21 {nx : Nat} {sh : bs_Sh} {R : Nat → Nat → Option Nat} {x : Nat} (HX : fg_S (bs_tS x) R x sh) {p2 : Nat} (h_p2 : fg_F R sh p2) {p3 : Nat} (h_p3 : fg_U R sh p3) {l1 : Int32} {Ph : bs_Po} {s : Int32 × Int32 × bs_Mm} {r : (Int32 × Int32 × bs_Mm) ⊕ (Int32 × bs_Mm)} (ka : ∀ s, r = .inl s → fg_R R s.2.2 → bs_W Ph mX0_ageOneHour (bs_rm 5 0 0) 21 (bs_mk [(0, .ref (x + 45)), (1, .int l1), (2, .ref p2), (3, .ref p3), (4, .ref (x + 1)), (5, .ref (x + 26)), (6, .int s.1), (7, .int s.2.1)]) [] 0 0 nx sh s.2.2) (ke : ∀ s, r = .inr s → fg_R R s.2 → bs_W Ph mX0_ageOneHour (bs_rm 5 0 0) 139 (bs_mk [(0, .ref (x + 45)), (1, .int l1), (2, .ref p2), (3, .ref p3), (4, .ref (x + 1)), (5, .ref (x + 26)), (6, .int s.1)]) [] 0 0 nx sh s.2) (hR : fg_R R s.2.2) (h : FX0_ageOneHour_b21 x p2 p3 l1 s = some r) : bs_W Ph mX0_ageOneHour (bs_rm 5 0 0) 21 (bs_mk [(0, .ref (x + 45)), (1, .int l1), (2, .ref p2), (3, .ref p3), (4, .ref (x + 1)), (5, .ref (x + 26)), (6, .int s.1), (7, .int s.2.1)]) [] 0 0 nx sh s.2.2 := by
  unfold FX0_ageOneHour_b21 at h
  refine bs_iload dX0_ageOneHour_21 rfl ?_
  refine bs_aload_n dX0_ageOneHour_23 rfl ?_
  refine bs_getI dX0_ageOneHour_24 fX0_64 (h_p2.s0) ?_
  refine bs_icmp_ge (tgt := 139) dX0_ageOneHour_27 (by decide) (fun c => ?_) (fun c => ?_)
  · replace h := fg_ip c h
    cases h
    refine bs_W.mk [(0, .ref (x + 45)), (1, .int l1), (2, .ref p2), (3, .ref p3), (4, .ref (x + 1)), (5, .ref (x + 26)), (6, .int s.1)] (by intro q hq; simp only [List.mem_cons, List.not_mem_nil, or_false] at hq; rcases hq with rfl | rfl | rfl | rfl | rfl | rfl | rfl <;> rfl) (ke _ rfl hR)
  · replace h := fg_iN c h
    refine bs_aload_n dX0_ageOneHour_30 rfl ?_
    refine bs_iload_n dX0_ageOneHour_31 rfl ?_
    refine bs_iconst (v := (nI 1)) dX0_ageOneHour_32 (by decide) ?_
    refine bs_isub dX0_ageOneHour_33 ?_
    refine bs_iload dX0_ageOneHour_34 rfl ?_
    obtain ⟨v5, k4, h⟩ := fg_bdE h
    refine fg_callV dX0_ageOneHour_36 qX0_67 (wX0_lengthAt HX hR k4) rfl (HX.s 45 rfl rfl rfl) rfl (Nat.le_of_ble_eq_true rfl) (fg_cr (by first | decide | omega) (by decide)) (fun hR => ?_)
    refine bs_istore dX0_ageOneHour_39 rfl (by decide) ?_
    refine bs_iload dX0_ageOneHour_41 rfl ?_
    refine bs_if_le (tgt := 119) dX0_ageOneHour_43 (by decide) (fun c => ?_) (fun c => ?_)
    · replace h := fg_ip c h
      refine bs_W.mk [(0, .ref (x + 45)), (1, .int l1), (2, .ref p2), (3, .ref p3), (4, .ref (x + 1)), (5, .ref (x + 26)), (6, .int s.1), (7, .int s.2.1), (8, .int v5)] (by intro q hq; simp only [List.mem_cons, List.not_mem_nil, or_false] at hq; rcases hq with rfl | rfl | rfl | rfl | rfl | rfl | rfl | rfl | rfl <;> rfl) ?_
      exact wFX0_ageOneHour_j119_L21 HX h_p2 h_p3 ka ke hR h
    · replace h := fg_iN c h
      refine bs_aload_n dX0_ageOneHour_46 rfl ?_
      refine bs_iload dX0_ageOneHour_47 rfl ?_
      refine bs_iload_n dX0_ageOneHour_49 rfl ?_
      refine bs_aload dX0_ageOneHour_50 rfl ?_
      refine bs_aload_n dX0_ageOneHour_52 rfl ?_
      refine bs_iload dX0_ageOneHour_53 rfl ?_
      obtain ⟨v9, k8, h⟩ := fg_bdE h
      refine fg_callV dX0_ageOneHour_55 qX0_70 (wX5_liveEndsOf HX h_p2 hR k8) rfl (HX.s 26 rfl rfl rfl) rfl (Nat.le_of_ble_eq_true rfl) (fg_cr (by first | decide | omega) (by decide)) (fun hR => ?_)
      refine bs_aload_n dX0_ageOneHour_58 rfl ?_
      refine fg_getR (b := (p2 + 1)) dX0_ageOneHour_59 fX0_74 (h_p2.s0) hR (h_p2.r0) ?_
      refine bs_aload_n dX0_ageOneHour_62 rfl ?_
      refine fg_getR (b := (p2 + 5)) dX0_ageOneHour_63 fX0_77 (h_p2.s0) hR (h_p2.r4) ?_
      refine bs_iload dX0_ageOneHour_66 rfl ?_
      obtain ⟨g10, h⟩ := fg_gdE h
      refine bs_iald dX0_ageOneHour_68 (h_p2.s5) (fg_in_ix g10) ?_
      obtain ⟨g11, h⟩ := fg_gdE h
      refine bs_iald dX0_ageOneHour_69 (h_p2.s1) (fg_in_ix g11) ?_
      refine bs_aload dX0_ageOneHour_70 rfl ?_
      obtain ⟨mu13, k12, h⟩ := fg_bdE h
      refine fg_callVv dX0_ageOneHour_72 qX0_80 (wX0_tellLetters HX hR k12) rfl (HX.s 45 rfl rfl rfl) rfl (Nat.le_of_ble_eq_true rfl) (fg_cr (by first | decide | omega) (by decide)) (fun hR => ?_)
      refine bs_iload dX0_ageOneHour_75 rfl ?_
      refine bs_iconst (v := (nI 0)) dX0_ageOneHour_77 (by decide) ?_
      refine bs_iload dX0_ageOneHour_78 rfl ?_
      refine bs_aload_n dX0_ageOneHour_80 rfl ?_
      refine bs_aload_n dX0_ageOneHour_81 rfl ?_
      refine fg_getR (b := (x + 48)) dX0_ageOneHour_82 fX0_18 (HX.s 45 rfl rfl rfl) hR (HX.r 45 2 rfl rfl rfl) ?_
      refine bs_aload_n dX0_ageOneHour_85 rfl ?_
      refine fg_getR (b := (x + 49)) dX0_ageOneHour_86 fX0_21 (HX.s 45 rfl rfl rfl) hR (HX.r 45 3 rfl rfl rfl) ?_
      obtain ⟨v16, mu15, k14, h⟩ := fg_b2E h
      refine fg_callV dX0_ageOneHour_89 qX0_84 (wX6_worthBy HX h_p3 ⟨(HX.ss 48 rfl rfl), (fun j => HX.n 48 j rfl rfl rfl), by decide⟩ ⟨(HX.ss 49 rfl rfl), (fun j => HX.n 49 j rfl rfl rfl), by decide⟩ hR k14) rfl (h_p3.1) rfl (Nat.le_of_ble_eq_true rfl) (fg_cr (by first | decide | omega) (by decide)) (fun hR => ?_)
      refine bs_mmin dX0_ageOneHour_92 xX0_48 (by first | decide | (simp only [bs_rm]; omega)) (by first | exact Nat.le_of_ble_eq_true rfl | (simp only [bs_rm, List.map, List.sum_cons, List.sum_nil, Value.category]; omega)) (Nat.zero_le _) (Nat.zero_le _) ?_
      refine bs_mmax dX0_ageOneHour_95 xX0_90 (by first | decide | (simp only [bs_rm]; omega)) (by first | exact Nat.le_of_ble_eq_true rfl | (simp only [bs_rm, List.map, List.sum_cons, List.sum_nil, Value.category]; omega)) (Nat.zero_le _) (Nat.zero_le _) ?_
      refine bs_isub dX0_ageOneHour_98 ?_
      refine bs_istore dX0_ageOneHour_99 rfl (by decide) ?_
      refine bs_iload dX0_ageOneHour_101 rfl ?_
      refine bs_iload dX0_ageOneHour_103 rfl ?_
      refine bs_if_ne (tgt := 115) dX0_ageOneHour_105 (by decide) (fun c => ?_) (fun c => ?_)
      · replace h := fg_iN c h
        refine bs_iconst (v := (nI 0)) dX0_ageOneHour_115 (by decide) ?_
        refine bs_W.mk [(0, .ref (x + 45)), (1, .int l1), (2, .ref p2), (3, .ref p3), (4, .ref (x + 1)), (5, .ref (x + 26)), (7, .int s.2.1), (8, .int (v5 - (if (nI 0) < (if v16 < v5 then v16 else v5) then (if v16 < v5 then v16 else v5) else (nI 0))))] (by intro q hq; simp only [List.mem_cons, List.not_mem_nil, or_false] at hq; rcases hq with rfl | rfl | rfl | rfl | rfl | rfl | rfl | rfl <;> rfl) ?_
        exact wFX0_ageOneHour_j116_L21 HX h_p2 h_p3 ka ke hR h
      · replace h := fg_ip c h
        refine bs_iconst (v := (nI 1)) dX0_ageOneHour_108 (by decide) ?_
        refine bs_iload dX0_ageOneHour_109 rfl ?_
        refine bs_ishl dX0_ageOneHour_111 ?_
        refine bs_goto (tgt := 116) dX0_ageOneHour_112 (by decide) ?_
        refine bs_W.mk [(0, .ref (x + 45)), (1, .int l1), (2, .ref p2), (3, .ref p3), (4, .ref (x + 1)), (5, .ref (x + 26)), (7, .int s.2.1), (8, .int (v5 - (if (nI 0) < (if v16 < v5 then v16 else v5) then (if v16 < v5 then v16 else v5) else (nI 0))))] (by intro q hq; simp only [List.mem_cons, List.not_mem_nil, or_false] at hq; rcases hq with rfl | rfl | rfl | rfl | rfl | rfl | rfl | rfl <;> rfl) ?_
        exact wFX0_ageOneHour_j116_L21 HX h_p2 h_p3 ka ke hR h
theorem wFX0_ageOneHour_l21 {nx : Nat} {sh : bs_Sh} {R : Nat → Nat → Option Nat} {x : Nat} (HX : fg_S (bs_tS x) R x sh) {p2 : Nat} (h_p2 : fg_F R sh p2) {p3 : Nat} (h_p3 : fg_U R sh p3) {l1 : Int32} {Ph : bs_Po} {t : Int32 × bs_Mm} : ∀ n (y0 : Int32) (y1 : Int32) (mu1 : bs_Mm), fg_lp (FX0_ageOneHour_b21 x p2 p3 l1) n (y0, y1, mu1) = some t → fg_R R mu1 → (ke : ∀ s, t = s → fg_R R s.2 → bs_W Ph mX0_ageOneHour (bs_rm 5 0 0) 139 (bs_mk [(0, .ref (x + 45)), (1, .int l1), (2, .ref p2), (3, .ref p3), (4, .ref (x + 1)), (5, .ref (x + 26)), (6, .int s.1)]) [] 0 0 nx sh s.2) → bs_W Ph mX0_ageOneHour (bs_rm 5 0 0) 21 (bs_mk [(0, .ref (x + 45)), (1, .int l1), (2, .ref p2), (3, .ref p3), (4, .ref (x + 1)), (5, .ref (x + 26)), (6, .int y0), (7, .int y1)]) [] 0 0 nx sh mu1 := by
  intro n
  induction n with
  | zero => intro y0 y1 mu1 h; exact absurd h (fun z => fg_lp0 z)
  | succ n ih =>
    intro y0 y1 mu1 h hR ke
    obtain ⟨r, hb, h1, h2⟩ := fg_lpE h
    exact wFX0_ageOneHour_b21 (s := (y0, y1, mu1)) HX h_p2 h_p3 (fun s' e hR' => ih s'.1 s'.2.1 s'.2.2 (h1 s' e) hR' ke) (fun s' e => ke s' (h2 _ e).symm) hR hb
noncomputable def FX0_ageOneHour (x : Nat) (mu : bs_Mm) (p1 : Int32) (p2 : Nat) (p3 : Nat) : Option (bs_Mm) :=
  fg_gd (fg_in (p1 - (nI 1)) 61) (
  fg_bd (FX5_countLive x mu p2 (bs_iv (mu (x + 46) (p1 - (nI 1)).toNatClampNeg))) (fun mu3 => 
  fg_bd (fg_lp (FX0_ageOneHour_b21 x p2 p3 p1) fg_fu ((bs_iv (mu (x + 46) (p1 - (nI 1)).toNatClampNeg)), (nI 0), mu3)) (fun t17 => 
    fg_gd (fg_in (p1 - (nI 1)) 61) (
    if t17.1 = (bs_iv (t17.2 (x + 46) (p1 - (nI 1)).toNatClampNeg)) then (
      fg_gd (fg_in p1 61) (
      fg_wr t17.2 (x + 46) p1.toNatClampNeg (.int t17.1) (fun mu28 => 
      fg_bd (FX0_clearLost x mu28 (bs_iv (mu28 p2 7)) p1) (fun mu30 => 
      some mu30)))
    ) else (
      fg_b2 (FX5_lostWith x t17.2 p2 t17.1) (fun v22 mu21 => 
      fg_gd (fg_in p1 61) (
      fg_wr mu21 (x + 46) p1.toNatClampNeg (.int v22) (fun mu24 => 
      fg_bd (FX0_clearLost x mu24 (bs_iv (mu24 p2 7)) p1) (fun mu26 => 
      some mu26))))
    ))
  )))
set_option maxHeartbeats 4000000 in
theorem wX0_ageOneHour {nx : Nat} {sh : bs_Sh} {R : Nat → Nat → Option Nat} {x : Nat} (HX : fg_S (bs_tS x) R x sh) {p2 : Nat} (h_p2 : fg_F R sh p2) {p3 : Nat} (h_p3 : fg_U R sh p3) {mu : bs_Mm} (hR : fg_R R mu) {p1 : Int32} {r : bs_Mm} (h : FX0_ageOneHour x mu p1 p2 p3 = some r) : bs_C mX0_ageOneHour (bs_rm 5 0 0) [.ref (x + 45), .int p1, .ref p2, .ref p3, .ref (x + 1), .ref (x + 26)] nx sh mu (fg_po R nx sh none r) := by
  refine bs_ct (by decide +kernel) (Nat.le_of_ble_eq_true rfl) ?_
  have kr : ∀ q, r = q → fg_R R q → (fg_po R nx sh none r) none nx sh q := fun q e hq => by subst e; exact ⟨rfl, rfl, rfl, rfl, hq⟩
  unfold FX0_ageOneHour at h
  refine bs_aload_n dX0_ageOneHour_0 rfl ?_
  refine fg_getR (b := (x + 46)) dX0_ageOneHour_1 fX0_9 (HX.s 45 rfl rfl rfl) hR (HX.r 45 0 rfl rfl rfl) ?_
  refine bs_iload_n dX0_ageOneHour_4 rfl ?_
  refine bs_iconst (v := (nI 1)) dX0_ageOneHour_5 (by decide) ?_
  refine bs_isub dX0_ageOneHour_6 ?_
  obtain ⟨g1, h⟩ := fg_gdE h
  refine bs_iald dX0_ageOneHour_7 (HX.ss 46 rfl rfl) (fg_in_ix g1) ?_
  refine bs_istore dX0_ageOneHour_8 rfl (by decide) ?_
  refine bs_aload dX0_ageOneHour_10 rfl ?_
  refine bs_aload_n dX0_ageOneHour_12 rfl ?_
  refine bs_iload dX0_ageOneHour_13 rfl ?_
  obtain ⟨mu3, k2, h⟩ := fg_bdE h
  refine fg_callVv dX0_ageOneHour_15 qX0_58 (wX5_countLive HX h_p2 hR k2) rfl (HX.s 26 rfl rfl rfl) rfl (Nat.le_of_ble_eq_true rfl) (fg_cr (by first | decide | omega) (by decide)) (fun hR => ?_)
  refine bs_iconst (v := (nI 0)) dX0_ageOneHour_18 (by decide) ?_
  refine bs_istore dX0_ageOneHour_19 rfl (by decide) ?_
  obtain ⟨t17, k18, h⟩ := fg_bdE h
  refine bs_W.mk [(0, .ref (x + 45)), (1, .int p1), (2, .ref p2), (3, .ref p3), (4, .ref (x + 1)), (5, .ref (x + 26)), (6, .int (bs_iv (mu (x + 46) (p1 - (nI 1)).toNatClampNeg))), (7, .int (nI 0))] (by intro q hq; simp only [List.mem_cons, List.not_mem_nil, or_false] at hq; rcases hq with rfl | rfl | rfl | rfl | rfl | rfl | rfl | rfl <;> rfl) ?_
  refine wFX0_ageOneHour_l21 HX h_p2 h_p3 _ _ _ _ k18 hR ?_
  intro s e hR
  subst e
  refine bs_aload_n dX0_ageOneHour_139 rfl ?_
  refine fg_getR (b := (x + 46)) dX0_ageOneHour_140 fX0_9 (HX.s 45 rfl rfl rfl) hR (HX.r 45 0 rfl rfl rfl) ?_
  refine bs_iload_n dX0_ageOneHour_143 rfl ?_
  refine bs_iload dX0_ageOneHour_144 rfl ?_
  refine bs_aload_n dX0_ageOneHour_146 rfl ?_
  refine fg_getR (b := (x + 46)) dX0_ageOneHour_147 fX0_9 (HX.s 45 rfl rfl rfl) hR (HX.r 45 0 rfl rfl rfl) ?_
  refine bs_iload_n dX0_ageOneHour_150 rfl ?_
  refine bs_iconst (v := (nI 1)) dX0_ageOneHour_151 (by decide) ?_
  refine bs_isub dX0_ageOneHour_152 ?_
  obtain ⟨g19, h⟩ := fg_gdE h
  refine bs_iald dX0_ageOneHour_153 (HX.ss 46 rfl rfl) (fg_in_ix g19) ?_
  refine bs_icmp_ne (tgt := 162) dX0_ageOneHour_154 (by decide) (fun c => ?_) (fun c => ?_)
  · replace h := fg_iN c h
    refine bs_aload dX0_ageOneHour_162 rfl ?_
    refine bs_aload_n dX0_ageOneHour_164 rfl ?_
    refine bs_iload dX0_ageOneHour_165 rfl ?_
    obtain ⟨v22, mu21, k20, h⟩ := fg_b2E h
    refine fg_callV dX0_ageOneHour_167 qX0_93 (wX5_lostWith HX h_p2 hR k20) rfl (HX.s 26 rfl rfl rfl) rfl (Nat.le_of_ble_eq_true rfl) (fg_cr (by first | decide | omega) (by decide)) (fun hR => ?_)
    obtain ⟨g23, h⟩ := fg_gdE h
    refine fg_iast dX0_ageOneHour_170 (HX.ss 46 rfl rfl) (fun j => HX.n 46 j rfl rfl rfl) g23 hR h (fun mu24 hR h => ?_)
    refine bs_aload_n dX0_ageOneHour_171 rfl ?_
    refine bs_aload_n dX0_ageOneHour_172 rfl ?_
    refine bs_getI dX0_ageOneHour_173 fX0_64 (h_p2.s0) ?_
    refine bs_iload_n dX0_ageOneHour_176 rfl ?_
    obtain ⟨mu26, k25, h⟩ := fg_bdE h
    refine fg_callVv dX0_ageOneHour_177 qX0_96 (wX0_clearLost HX hR k25) rfl (HX.s 45 rfl rfl rfl) rfl (Nat.le_of_ble_eq_true rfl) (fg_cr (by first | decide | omega) (by decide)) (fun hR => ?_)
    cases h
    exact bs_vret dX0_ageOneHour_180 rfl (Nat.zero_le _) (Nat.zero_le _) (kr _ rfl hR)
  · replace h := fg_ip c h
    refine bs_iload dX0_ageOneHour_157 rfl ?_
    refine bs_goto (tgt := 170) dX0_ageOneHour_159 (by decide) ?_
    obtain ⟨g27, h⟩ := fg_gdE h
    refine fg_iast dX0_ageOneHour_170 (HX.ss 46 rfl rfl) (fun j => HX.n 46 j rfl rfl rfl) g27 hR h (fun mu28 hR h => ?_)
    refine bs_aload_n dX0_ageOneHour_171 rfl ?_
    refine bs_aload_n dX0_ageOneHour_172 rfl ?_
    refine bs_getI dX0_ageOneHour_173 fX0_64 (h_p2.s0) ?_
    refine bs_iload_n dX0_ageOneHour_176 rfl ?_
    obtain ⟨mu30, k29, h⟩ := fg_bdE h
    refine fg_callVv dX0_ageOneHour_177 qX0_96 (wX0_clearLost HX hR k29) rfl (HX.s 45 rfl rfl rfl) rfl (Nat.le_of_ble_eq_true rfl) (fg_cr (by first | decide | omega) (by decide)) (fun hR => ?_)
    cases h
    exact bs_vret dX0_ageOneHour_180 rfl (Nat.zero_le _) (Nat.zero_le _) (kr _ rfl hR)
noncomputable def FX0_reach_b16 (x : Nat) (p2 : Nat) (p3 : Nat)  (l1 : Int32) (l6 : Int32) (s : Int32 × bs_Mm) : Option ((Int32 × bs_Mm) ⊕ (bs_Mm)) :=
  if l6 < s.1 then (
    some (.inr s.2)
  ) else (
    fg_bd (FX0_ageOneHour x s.2 s.1 p2 p3) (fun mu2 => 
    fg_wr mu2 (x + 45) 6 (.int s.1) (fun mu3 => 
    some (.inl ((s.1 + (nI 1)), mu3))))
  )
set_option maxHeartbeats 4000000 in
theorem wFX0_reach_b16 {nx : Nat} {sh : bs_Sh} {R : Nat → Nat → Option Nat} {x : Nat} (HX : fg_S (bs_tS x) R x sh) {p2 : Nat} (h_p2 : fg_F R sh p2) {p3 : Nat} (h_p3 : fg_U R sh p3) {l1 : Int32} {l6 : Int32} {Ph : bs_Po} {s : Int32 × bs_Mm} {r : (Int32 × bs_Mm) ⊕ (bs_Mm)} (ka : ∀ s, r = .inl s → fg_R R s.2 → bs_W Ph mX0_reach (bs_rm 6 0 0) 16 (bs_mk [(0, .ref (x + 45)), (1, .int l1), (2, .ref p2), (3, .ref p3), (4, .ref (x + 1)), (5, .ref (x + 26)), (6, .int l6), (7, .int s.1)]) [] 0 0 nx sh s.2) (ke : ∀ s, r = .inr s → fg_R R s → bs_W Ph mX0_reach (bs_rm 6 0 0) 47 (bs_mk [(0, .ref (x + 45)), (1, .int l1), (2, .ref p2), (3, .ref p3), (4, .ref (x + 1)), (5, .ref (x + 26)), (6, .int l6)]) [] 0 0 nx sh s) (hR : fg_R R s.2) (h : FX0_reach_b16 x p2 p3 l1 l6 s = some r) : bs_W Ph mX0_reach (bs_rm 6 0 0) 16 (bs_mk [(0, .ref (x + 45)), (1, .int l1), (2, .ref p2), (3, .ref p3), (4, .ref (x + 1)), (5, .ref (x + 26)), (6, .int l6), (7, .int s.1)]) [] 0 0 nx sh s.2 := by
  unfold FX0_reach_b16 at h
  refine bs_iload dX0_reach_16 rfl ?_
  refine bs_iload dX0_reach_18 rfl ?_
  refine bs_icmp_gt (tgt := 47) dX0_reach_20 (by decide) (fun c => ?_) (fun c => ?_)
  · replace h := fg_ip c h
    cases h
    refine bs_W.mk [(0, .ref (x + 45)), (1, .int l1), (2, .ref p2), (3, .ref p3), (4, .ref (x + 1)), (5, .ref (x + 26)), (6, .int l6)] (by intro q hq; simp only [List.mem_cons, List.not_mem_nil, or_false] at hq; rcases hq with rfl | rfl | rfl | rfl | rfl | rfl | rfl <;> rfl) (ke _ rfl hR)
  · replace h := fg_iN c h
    refine bs_aload_n dX0_reach_23 rfl ?_
    refine bs_iload dX0_reach_24 rfl ?_
    refine bs_aload_n dX0_reach_26 rfl ?_
    refine bs_aload_n dX0_reach_27 rfl ?_
    refine bs_aload dX0_reach_28 rfl ?_
    refine bs_aload dX0_reach_30 rfl ?_
    obtain ⟨mu2, k1, h⟩ := fg_bdE h
    refine fg_callVv dX0_reach_32 qX0_54 (wX0_ageOneHour HX h_p2 h_p3 hR k1) rfl (HX.s 45 rfl rfl rfl) rfl (Nat.le_of_ble_eq_true rfl) (fg_cr (by first | decide | omega) (by decide)) (fun hR => ?_)
    refine bs_aload_n dX0_reach_35 rfl ?_
    refine bs_iload dX0_reach_36 rfl ?_
    refine fg_putI dX0_reach_38 pX0_33 (HX.s 45 rfl rfl rfl) (HX.n 45 6 rfl rfl rfl) hR h (fun mu3 hR h => ?_)
    refine fg_iinc (m := (nI 1)) dX0_reach_41 rfl rfl (by decide) ?_
    refine bs_goto (tgt := 16) dX0_reach_44 (by decide) ?_
    cases h
    refine bs_W.mk [(0, .ref (x + 45)), (1, .int l1), (2, .ref p2), (3, .ref p3), (4, .ref (x + 1)), (5, .ref (x + 26)), (6, .int l6), (7, .int (s.1 + (nI 1)))] (by intro q hq; simp only [List.mem_cons, List.not_mem_nil, or_false] at hq; rcases hq with rfl | rfl | rfl | rfl | rfl | rfl | rfl | rfl <;> rfl) (by have k := ka _ rfl hR; dsimp only at k; exact k)
theorem wFX0_reach_l16 {nx : Nat} {sh : bs_Sh} {R : Nat → Nat → Option Nat} {x : Nat} (HX : fg_S (bs_tS x) R x sh) {p2 : Nat} (h_p2 : fg_F R sh p2) {p3 : Nat} (h_p3 : fg_U R sh p3) {l1 : Int32} {l6 : Int32} {Ph : bs_Po} {t : bs_Mm} : ∀ n (y0 : Int32) (mu1 : bs_Mm), fg_lp (FX0_reach_b16 x p2 p3 l1 l6) n (y0, mu1) = some t → fg_R R mu1 → (ke : ∀ s, t = s → fg_R R s → bs_W Ph mX0_reach (bs_rm 6 0 0) 47 (bs_mk [(0, .ref (x + 45)), (1, .int l1), (2, .ref p2), (3, .ref p3), (4, .ref (x + 1)), (5, .ref (x + 26)), (6, .int l6)]) [] 0 0 nx sh s) → bs_W Ph mX0_reach (bs_rm 6 0 0) 16 (bs_mk [(0, .ref (x + 45)), (1, .int l1), (2, .ref p2), (3, .ref p3), (4, .ref (x + 1)), (5, .ref (x + 26)), (6, .int l6), (7, .int y0)]) [] 0 0 nx sh mu1 := by
  intro n
  induction n with
  | zero => intro y0 mu1 h; exact absurd h (fun z => fg_lp0 z)
  | succ n ih =>
    intro y0 mu1 h hR ke
    obtain ⟨r, hb, h1, h2⟩ := fg_lpE h
    exact wFX0_reach_b16 (s := (y0, mu1)) HX h_p2 h_p3 (fun s' e hR' => ih s'.1 s'.2 (h1 s' e) hR' ke) (fun s' e => ke s' (h2 _ e).symm) hR hb
noncomputable def FX0_reach (x : Nat) (mu : bs_Mm) (p1 : Int32) (p2 : Nat) (p3 : Nat) : Option (bs_Mm) :=
  fg_bd (fg_lp (FX0_reach_b16 x p2 p3 p1 (if (nI 60) < p1 then (nI 60) else p1)) fg_fu (((bs_iv (mu (x + 45) 6)) + (nI 1)), mu)) (fun t4 => 
    some t4
  )
set_option maxHeartbeats 4000000 in
theorem wX0_reach {nx : Nat} {sh : bs_Sh} {R : Nat → Nat → Option Nat} {x : Nat} (HX : fg_S (bs_tS x) R x sh) {p2 : Nat} (h_p2 : fg_F R sh p2) {p3 : Nat} (h_p3 : fg_U R sh p3) {mu : bs_Mm} (hR : fg_R R mu) {p1 : Int32} {r : bs_Mm} (h : FX0_reach x mu p1 p2 p3 = some r) : bs_C mX0_reach (bs_rm 6 0 0) [.ref (x + 45), .int p1, .ref p2, .ref p3, .ref (x + 1), .ref (x + 26)] nx sh mu (fg_po R nx sh none r) := by
  refine bs_ct (by decide +kernel) (Nat.le_of_ble_eq_true rfl) ?_
  have kr : ∀ q, r = q → fg_R R q → (fg_po R nx sh none r) none nx sh q := fun q e hq => by subst e; exact ⟨rfl, rfl, rfl, rfl, hq⟩
  unfold FX0_reach at h
  refine bs_iload_n dX0_reach_0 rfl ?_
  refine bs_bipush (v := (nI 60)) dX0_reach_1 (by decide) ?_
  refine bs_mmin dX0_reach_3 xX0_48 (by first | decide | (simp only [bs_rm]; omega)) (by first | exact Nat.le_of_ble_eq_true rfl | (simp only [bs_rm, List.map, List.sum_cons, List.sum_nil, Value.category]; omega)) (Nat.zero_le _) (Nat.zero_le _) ?_
  refine bs_istore dX0_reach_6 rfl (by decide) ?_
  refine bs_aload_n dX0_reach_8 rfl ?_
  refine bs_getI dX0_reach_9 fX0_33 (HX.s 45 rfl rfl rfl) ?_
  refine bs_iconst (v := (nI 1)) dX0_reach_12 (by decide) ?_
  refine bs_iadd dX0_reach_13 ?_
  refine bs_istore dX0_reach_14 rfl (by decide) ?_
  obtain ⟨t4, k5, h⟩ := fg_bdE h
  refine bs_W.mk [(0, .ref (x + 45)), (1, .int p1), (2, .ref p2), (3, .ref p3), (4, .ref (x + 1)), (5, .ref (x + 26)), (6, .int (if (nI 60) < p1 then (nI 60) else p1)), (7, .int ((bs_iv (mu (x + 45) 6)) + (nI 1)))] (by intro q hq; simp only [List.mem_cons, List.not_mem_nil, or_false] at hq; rcases hq with rfl | rfl | rfl | rfl | rfl | rfl | rfl | rfl <;> rfl) ?_
  refine wFX0_reach_l16 HX h_p2 h_p3 _ _ _ k5 hR ?_
  intro s e hR
  subst e
  cases h
  exact bs_vret dX0_reach_47 rfl (Nat.zero_le _) (Nat.zero_le _) (kr _ rfl hR)
noncomputable def FX0_turnTo_j17 (x : Nat) (p1 : Nat) (p2 : Nat) (mu : bs_Mm) : Option (bs_Mm) :=
  fg_wr mu (x + 45) 4 (.ref p1) (fun mu1 => 
  fg_wr mu1 (x + 45) 5 (.ref p2) (fun mu2 => 
  fg_wr mu2 (x + 45) 6 (.int (nI 0)) (fun mu3 => 
  fg_gd (fg_in (nI 0) 61) (
  fg_wr mu3 (x + 46) (nI 0).toNatClampNeg (.int (nI 0)) (fun mu5 => 
  fg_wc mu5 (p1 + 2) (x + 47) 0 0 24 (fun mu6 => 
  some mu6))))))
set_option maxHeartbeats 4000000 in
theorem wFX0_turnTo_j17 {nx : Nat} {sh : bs_Sh} {R : Nat → Nat → Option Nat} {x : Nat} (HX : fg_S (bs_tS x) R x sh) {p1 : Nat} (h_p1 : fg_F R sh p1) {p2 : Nat} (h_p2 : fg_U R sh p2) {mu : bs_Mm} {Ph : bs_Po} {r : bs_Mm} (kr : ∀ q, r = q → fg_R R q → Ph none nx sh q) (hR : fg_R R mu) (h : FX0_turnTo_j17 x p1 p2 mu = some r) : bs_W Ph mX0_turnTo (bs_rm 1 0 0) 17 (bs_mk [(0, .ref (x + 45)), (1, .ref p1), (2, .ref p2)]) [] 0 0 nx sh mu := by
  unfold FX0_turnTo_j17 at h
  refine bs_aload_n dX0_turnTo_17 rfl ?_
  refine bs_aload_n dX0_turnTo_18 rfl ?_
  refine fg_putR dX0_turnTo_19 pX0_25 (HX.s 45 rfl rfl rfl) (HX.n 45 4 rfl rfl rfl) hR h (fun mu1 hR h => ?_)
  refine bs_aload_n dX0_turnTo_22 rfl ?_
  refine bs_aload_n dX0_turnTo_23 rfl ?_
  refine fg_putR dX0_turnTo_24 pX0_29 (HX.s 45 rfl rfl rfl) (HX.n 45 5 rfl rfl rfl) hR h (fun mu2 hR h => ?_)
  refine bs_aload_n dX0_turnTo_27 rfl ?_
  refine bs_iconst (v := (nI 0)) dX0_turnTo_28 (by decide) ?_
  refine fg_putI dX0_turnTo_29 pX0_33 (HX.s 45 rfl rfl rfl) (HX.n 45 6 rfl rfl rfl) hR h (fun mu3 hR h => ?_)
  refine bs_aload_n dX0_turnTo_32 rfl ?_
  refine fg_getR (b := (x + 46)) dX0_turnTo_33 fX0_9 (HX.s 45 rfl rfl rfl) hR (HX.r 45 0 rfl rfl rfl) ?_
  refine bs_iconst (v := (nI 0)) dX0_turnTo_36 (by decide) ?_
  refine bs_iconst (v := (nI 0)) dX0_turnTo_37 (by decide) ?_
  obtain ⟨g4, h⟩ := fg_gdE h
  refine fg_iast dX0_turnTo_38 (HX.ss 46 rfl rfl) (fun j => HX.n 46 j rfl rfl rfl) g4 hR h (fun mu5 hR h => ?_)
  refine bs_aload_n dX0_turnTo_39 rfl ?_
  refine fg_getR (b := (p1 + 2)) dX0_turnTo_40 fX0_37 (h_p1.s0) hR (h_p1.r1) ?_
  refine bs_iconst (v := (nI 0)) dX0_turnTo_43 (by decide) ?_
  refine bs_aload_n dX0_turnTo_44 rfl ?_
  refine fg_getR (b := (x + 47)) dX0_turnTo_45 fX0_15 (HX.s 45 rfl rfl rfl) hR (HX.r 45 1 rfl rfl rfl) ?_
  refine bs_iconst (v := (nI 0)) dX0_turnTo_48 (by decide) ?_
  refine bs_bipush (v := (nI 24)) dX0_turnTo_49 (by decide) ?_
  refine fg_copy (sp := 0) (dp := 0) (n := 24) dX0_turnTo_51 ⟨lX0_42, w_acp_native, w_acp_static, w_acp_ini⟩ (h_p1.s2) (HX.ss 47 rfl rfl) (fun j => HX.n 47 j rfl rfl rfl) rfl rfl rfl (by decide) (by decide) (by decide) (by decide) (Nat.le_of_ble_eq_true rfl) hR h (fun mu6 hR h => ?_)
  cases h
  exact bs_vret dX0_turnTo_54 rfl (Nat.zero_le _) (Nat.zero_le _) (kr _ rfl hR)
noncomputable def FX0_turnTo (x : Nat) (mu : bs_Mm) (p1 : Nat) (p2 : Nat) : Option (bs_Mm) :=
  if ((bs_rv (mu (x + 45) 4))) = (some p1) then (
    if ((bs_rv (mu (x + 45) 5))) = (some p2) then (
      some mu
    ) else (
      FX0_turnTo_j17 x p1 p2 mu
    )
  ) else (
    FX0_turnTo_j17 x p1 p2 mu
  )
set_option maxHeartbeats 4000000 in
theorem wX0_turnTo {nx : Nat} {sh : bs_Sh} {R : Nat → Nat → Option Nat} {x : Nat} (HX : fg_S (bs_tS x) R x sh) {p1 : Nat} (h_p1 : fg_F R sh p1) {p2 : Nat} (h_p2 : fg_U R sh p2) {mu : bs_Mm} (hR : fg_R R mu) {r : bs_Mm} (h : FX0_turnTo x mu p1 p2 = some r) : bs_C mX0_turnTo (bs_rm 1 0 0) [.ref (x + 45), .ref p1, .ref p2] nx sh mu (fg_po R nx sh none r) := by
  refine bs_ct (by decide +kernel) (Nat.le_of_ble_eq_true rfl) ?_
  have kr : ∀ q, r = q → fg_R R q → (fg_po R nx sh none r) none nx sh q := fun q e hq => by subst e; exact ⟨rfl, rfl, rfl, rfl, hq⟩
  unfold FX0_turnTo at h
  refine bs_aload_n dX0_turnTo_0 rfl ?_
  refine fg_getQ dX0_turnTo_1 fX0_25 (HX.s 45 rfl rfl rfl) ?_
  refine bs_aload_n dX0_turnTo_4 rfl ?_
  refine bs_acmp_ne (a := ((bs_rv (mu (x + 45) 4)))) (b := (some p1)) (tgt := 17) dX0_turnTo_5 (by decide) (fun c => ?_) (fun c => ?_)
  · replace h := fg_iN c h
    refine bs_W.mk [(0, .ref (x + 45)), (1, .ref p1), (2, .ref p2)] (by intro q hq; simp only [List.mem_cons, List.not_mem_nil, or_false] at hq; rcases hq with rfl | rfl | rfl <;> rfl) ?_
    exact wFX0_turnTo_j17 HX h_p1 h_p2 kr hR h
  · replace h := fg_ip c h
    refine bs_aload_n dX0_turnTo_8 rfl ?_
    refine fg_getQ dX0_turnTo_9 fX0_29 (HX.s 45 rfl rfl rfl) ?_
    refine bs_aload_n dX0_turnTo_12 rfl ?_
    refine bs_acmp_ne (a := ((bs_rv (mu (x + 45) 5)))) (b := (some p2)) (tgt := 17) dX0_turnTo_13 (by decide) (fun c => ?_) (fun c => ?_)
    · replace h := fg_iN c h
      refine bs_W.mk [(0, .ref (x + 45)), (1, .ref p1), (2, .ref p2)] (by intro q hq; simp only [List.mem_cons, List.not_mem_nil, or_false] at hq; rcases hq with rfl | rfl | rfl <;> rfl) ?_
      exact wFX0_turnTo_j17 HX h_p1 h_p2 kr hR h
    · replace h := fg_ip c h
      cases h
      exact bs_vret dX0_turnTo_16 rfl (Nat.zero_le _) (Nat.zero_le _) (kr _ rfl hR)
noncomputable def FX10_at (x : Nat) (mu : bs_Mm) (p1 : Int32) : Option (Int32) :=
  if p1 < 0 then (
    some ((nI 0))
  ) else (
    if p1 < (bs_iv (mu (x + 5) 1)) then (
      fg_gd (fg_in p1 200) (
      some ((bs_iv (mu (x + 6) p1.toNatClampNeg))))
    ) else (
      some ((nI 0))
    )
  )
set_option maxHeartbeats 4000000 in
theorem wX10_at {nx : Nat} {sh : bs_Sh} {R : Nat → Nat → Option Nat} {x : Nat} (HX : fg_S (bs_tS x) R x sh) {mu : bs_Mm} (hR : fg_R R mu) {p1 : Int32} {r : Int32} (h : FX10_at x mu p1 = some r) : bs_C mX10_at (bs_rm 0 0 0) [.ref (x + 5), .int p1] nx sh mu (fg_po R nx sh (some (.int r)) mu) := by
  refine bs_ct (by decide +kernel) (Nat.le_of_ble_eq_true rfl) ?_
  have kr : ∀ q, r = q → fg_R R mu → (fg_po R nx sh (some (.int r)) mu) (some (.int q)) nx sh mu := fun q e hq => by subst e; exact ⟨rfl, rfl, rfl, rfl, hq⟩
  unfold FX10_at at h
  refine bs_iload_n dX10_at_0 rfl ?_
  refine bs_if_lt (tgt := 12) dX10_at_1 (by decide) (fun c => ?_) (fun c => ?_)
  · replace h := fg_ip c h
    refine bs_iconst (v := (nI 0)) dX10_at_12 (by decide) ?_
    refine bs_goto (tgt := 22) dX10_at_13 (by decide) ?_
    cases h
    exact bs_iret dX10_at_22 rfl (Nat.zero_le _) (Nat.zero_le _) (kr _ rfl hR)
  · replace h := fg_iN c h
    refine bs_iload_n dX10_at_4 rfl ?_
    refine bs_aload_n dX10_at_5 rfl ?_
    refine bs_getI dX10_at_6 fX10_15 (HX.s 5 rfl rfl rfl) ?_
    refine bs_icmp_lt (tgt := 16) dX10_at_9 (by decide) (fun c => ?_) (fun c => ?_)
    · replace h := fg_ip c h
      refine bs_aload_n dX10_at_16 rfl ?_
      refine fg_getR (b := (x + 6)) dX10_at_17 fX10_9 (HX.s 5 rfl rfl rfl) hR (HX.r 5 0 rfl rfl rfl) ?_
      refine bs_iload_n dX10_at_20 rfl ?_
      obtain ⟨g1, h⟩ := fg_gdE h
      refine bs_cald dX10_at_21 (HX.ss 6 rfl rfl) (fg_in_ix g1) ?_
      cases h
      exact bs_iret dX10_at_22 rfl (Nat.zero_le _) (Nat.zero_le _) (kr _ rfl hR)
    · replace h := fg_iN c h
      refine bs_iconst (v := (nI 0)) dX10_at_12 (by decide) ?_
      refine bs_goto (tgt := 22) dX10_at_13 (by decide) ?_
      cases h
      exact bs_iret dX10_at_22 rfl (Nat.zero_le _) (Nat.zero_le _) (kr _ rfl hR)
noncomputable def FX10_put_b3 (x : Nat)  (l1 : Int32) (s : Int32 × bs_Mm) : Option ((Int32 × bs_Mm) ⊕ (bs_Mm)) :=
  if s.1 < 0 then (
    some (.inr s.2)
  ) else (
    if (((Int32.toUInt32 l1 >>> (Int32.toUInt32 s.1 &&& Int32.toUInt32 31)).toInt32) &&& (nI 255)) = 0 then (
      some (.inl ((s.1 + (-8)), s.2))
    ) else (
      if (nI 200) ≤ (bs_iv (s.2 (x + 5) 1)) then (
        some (.inl ((s.1 + (-8)), s.2))
      ) else (
        fg_gd (fg_in (bs_iv (s.2 (x + 5) 1)) 200) (
        fg_wr s.2 (x + 6) (bs_iv (s.2 (x + 5) 1)).toNatClampNeg (.int ((Int32.toUInt32 (((Int32.toUInt32 l1 >>> (Int32.toUInt32 s.1 &&& Int32.toUInt32 31)).toInt32) &&& (nI 255)) % 65536).toInt32)) (fun mu2 => 
        fg_wr mu2 (x + 5) 1 (.int ((bs_iv (mu2 (x + 5) 1)) + (nI 1))) (fun mu3 => 
        some (.inl ((s.1 + (-8)), mu3)))))
      )
    )
  )
set_option maxHeartbeats 4000000 in
theorem wFX10_put_b3 {nx : Nat} {sh : bs_Sh} {R : Nat → Nat → Option Nat} {x : Nat} (HX : fg_S (bs_tS x) R x sh) {l1 : Int32} {Ph : bs_Po} {s : Int32 × bs_Mm} {r : (Int32 × bs_Mm) ⊕ (bs_Mm)} (ka : ∀ s, r = .inl s → fg_R R s.2 → bs_W Ph mX10_put (bs_rm 0 0 0) 3 (bs_mk [(0, .ref (x + 5)), (1, .int l1), (2, .int s.1)]) [] 0 0 nx sh s.2) (ke : ∀ s, r = .inr s → fg_R R s → bs_W Ph mX10_put (bs_rm 0 0 0) 56 (bs_mk [(0, .ref (x + 5)), (1, .int l1)]) [] 0 0 nx sh s) (hR : fg_R R s.2) (h : FX10_put_b3 x l1 s = some r) : bs_W Ph mX10_put (bs_rm 0 0 0) 3 (bs_mk [(0, .ref (x + 5)), (1, .int l1), (2, .int s.1)]) [] 0 0 nx sh s.2 := by
  unfold FX10_put_b3 at h
  refine bs_iload_n dX10_put_3 rfl ?_
  refine bs_if_lt (tgt := 56) dX10_put_4 (by decide) (fun c => ?_) (fun c => ?_)
  · replace h := fg_ip c h
    cases h
    refine bs_W.mk [(0, .ref (x + 5)), (1, .int l1)] (by intro q hq; simp only [List.mem_cons, List.not_mem_nil, or_false] at hq; rcases hq with rfl | rfl <;> rfl) (ke _ rfl hR)
  · replace h := fg_iN c h
    refine bs_iload_n dX10_put_7 rfl ?_
    refine bs_iload_n dX10_put_8 rfl ?_
    refine bs_iushr dX10_put_9 ?_
    refine bs_sipush (v := (nI 255)) dX10_put_10 (by decide) ?_
    refine bs_iand dX10_put_13 ?_
    refine bs_istore_n dX10_put_14 rfl (by decide) ?_
    refine bs_iload_n dX10_put_15 rfl ?_
    refine bs_if_eq (tgt := 50) dX10_put_16 (by decide) (fun c => ?_) (fun c => ?_)
    · replace h := fg_ip c h
      refine fg_iinc (m := (-8)) dX10_put_50 rfl rfl (by decide) ?_
      refine bs_goto (tgt := 3) dX10_put_53 (by decide) ?_
      cases h
      refine bs_W.mk [(0, .ref (x + 5)), (1, .int l1), (2, .int (s.1 + (-8)))] (by intro q hq; simp only [List.mem_cons, List.not_mem_nil, or_false] at hq; rcases hq with rfl | rfl | rfl <;> rfl) (by have k := ka _ rfl hR; dsimp only at k; exact k)
    · replace h := fg_iN c h
      refine bs_aload_n dX10_put_19 rfl ?_
      refine bs_getI dX10_put_20 fX10_15 (HX.s 5 rfl rfl rfl) ?_
      refine bs_sipush (v := (nI 200)) dX10_put_23 (by decide) ?_
      refine bs_icmp_ge (tgt := 50) dX10_put_26 (by decide) (fun c => ?_) (fun c => ?_)
      · replace h := fg_ip c h
        refine fg_iinc (m := (-8)) dX10_put_50 rfl rfl (by decide) ?_
        refine bs_goto (tgt := 3) dX10_put_53 (by decide) ?_
        cases h
        refine bs_W.mk [(0, .ref (x + 5)), (1, .int l1), (2, .int (s.1 + (-8)))] (by intro q hq; simp only [List.mem_cons, List.not_mem_nil, or_false] at hq; rcases hq with rfl | rfl | rfl <;> rfl) (by have k := ka _ rfl hR; dsimp only at k; exact k)
      · replace h := fg_iN c h
        refine bs_aload_n dX10_put_29 rfl ?_
        refine fg_getR (b := (x + 6)) dX10_put_30 fX10_9 (HX.s 5 rfl rfl rfl) hR (HX.r 5 0 rfl rfl rfl) ?_
        refine bs_aload_n dX10_put_33 rfl ?_
        refine bs_getI dX10_put_34 fX10_15 (HX.s 5 rfl rfl rfl) ?_
        refine bs_iload_n dX10_put_37 rfl ?_
        refine bs_i2c dX10_put_38 ?_
        obtain ⟨g1, h⟩ := fg_gdE h
        refine fg_cast dX10_put_39 (HX.ss 6 rfl rfl) (fun j => HX.n 6 j rfl rfl rfl) g1 hR h (pk_nc _) (fun mu2 hR h => ?_)
        refine bs_aload_n dX10_put_40 rfl ?_
        refine bs_dup dX10_put_41 rfl ?_
        refine bs_getI dX10_put_42 fX10_15 (HX.s 5 rfl rfl rfl) ?_
        refine bs_iconst (v := (nI 1)) dX10_put_45 (by decide) ?_
        refine bs_iadd dX10_put_46 ?_
        refine fg_putI dX10_put_47 pX10_15 (HX.s 5 rfl rfl rfl) (HX.n 5 1 rfl rfl rfl) hR h (fun mu3 hR h => ?_)
        refine fg_iinc (m := (-8)) dX10_put_50 rfl rfl (by decide) ?_
        refine bs_goto (tgt := 3) dX10_put_53 (by decide) ?_
        cases h
        refine bs_W.mk [(0, .ref (x + 5)), (1, .int l1), (2, .int (s.1 + (-8)))] (by intro q hq; simp only [List.mem_cons, List.not_mem_nil, or_false] at hq; rcases hq with rfl | rfl | rfl <;> rfl) (by have k := ka _ rfl hR; dsimp only at k; exact k)
theorem wFX10_put_l3 {nx : Nat} {sh : bs_Sh} {R : Nat → Nat → Option Nat} {x : Nat} (HX : fg_S (bs_tS x) R x sh) {l1 : Int32} {Ph : bs_Po} {t : bs_Mm} : ∀ n (y0 : Int32) (mu1 : bs_Mm), fg_lp (FX10_put_b3 x l1) n (y0, mu1) = some t → fg_R R mu1 → (ke : ∀ s, t = s → fg_R R s → bs_W Ph mX10_put (bs_rm 0 0 0) 56 (bs_mk [(0, .ref (x + 5)), (1, .int l1)]) [] 0 0 nx sh s) → bs_W Ph mX10_put (bs_rm 0 0 0) 3 (bs_mk [(0, .ref (x + 5)), (1, .int l1), (2, .int y0)]) [] 0 0 nx sh mu1 := by
  intro n
  induction n with
  | zero => intro y0 mu1 h; exact absurd h (fun z => fg_lp0 z)
  | succ n ih =>
    intro y0 mu1 h hR ke
    obtain ⟨r, hb, h1, h2⟩ := fg_lpE h
    exact wFX10_put_b3 (s := (y0, mu1)) HX (fun s' e hR' => ih s'.1 s'.2 (h1 s' e) hR' ke) (fun s' e => ke s' (h2 _ e).symm) hR hb
noncomputable def FX10_put (x : Nat) (mu : bs_Mm) (p1 : Int32) : Option (bs_Mm) :=
  fg_bd (fg_lp (FX10_put_b3 x p1) fg_fu ((nI 24), mu)) (fun t4 => 
    some t4
  )
set_option maxHeartbeats 4000000 in
theorem wX10_put {nx : Nat} {sh : bs_Sh} {R : Nat → Nat → Option Nat} {x : Nat} (HX : fg_S (bs_tS x) R x sh) {mu : bs_Mm} (hR : fg_R R mu) {p1 : Int32} {r : bs_Mm} (h : FX10_put x mu p1 = some r) : bs_C mX10_put (bs_rm 0 0 0) [.ref (x + 5), .int p1] nx sh mu (fg_po R nx sh none r) := by
  refine bs_ct (by decide +kernel) (Nat.le_of_ble_eq_true rfl) ?_
  have kr : ∀ q, r = q → fg_R R q → (fg_po R nx sh none r) none nx sh q := fun q e hq => by subst e; exact ⟨rfl, rfl, rfl, rfl, hq⟩
  unfold FX10_put at h
  refine bs_bipush (v := (nI 24)) dX10_put_0 (by decide) ?_
  refine bs_istore_n dX10_put_2 rfl (by decide) ?_
  obtain ⟨t4, k5, h⟩ := fg_bdE h
  refine bs_W.mk [(0, .ref (x + 5)), (1, .int p1), (2, .int (nI 24))] (by intro q hq; simp only [List.mem_cons, List.not_mem_nil, or_false] at hq; rcases hq with rfl | rfl | rfl <;> rfl) ?_
  refine wFX10_put_l3 HX _ _ _ k5 hR ?_
  intro s e hR
  subst e
  cases h
  exact bs_vret dX10_put_56 rfl (Nat.zero_le _) (Nat.zero_le _) (kr _ rfl hR)
noncomputable def FX11_figureAt (x : Nat) (mu : bs_Mm) (p1 : Int32) : Option (Option Nat) :=
  if p1 < 0 then (
    some (none)
  ) else (
    if p1 < (bs_iv (mu x 13)) then (
      fg_gd (fg_in p1 12) (
      fg_let (x + 63 + 7 * p1.toNatClampNeg) (fun b2 => 
      some (some b2)))
    ) else (
      some (none)
    )
  )
set_option maxHeartbeats 4000000 in
theorem wX11_figureAt {nx : Nat} {sh : bs_Sh} {R : Nat → Nat → Option Nat} {x : Nat} (HX : fg_S (bs_tS x) R x sh) {mu : bs_Mm} (hR : fg_R R mu) {p1 : Int32} {r : Option Nat} (h : FX11_figureAt x mu p1 = some r) : bs_C mX11_figureAt (bs_rm 0 0 0) [.ref x, .int p1] nx sh mu (fg_po R nx sh (some (va_rf r)) mu) := by
  refine bs_ct (by decide +kernel) (Nat.le_of_ble_eq_true rfl) ?_
  have kr : ∀ q, r = q → fg_R R mu → (fg_po R nx sh (some (va_rf r)) mu) (some (va_rf q)) nx sh mu := fun q e hq => by subst e; exact ⟨rfl, rfl, rfl, rfl, hq⟩
  unfold FX11_figureAt at h
  refine bs_iload_n dX11_figureAt_0 rfl ?_
  refine bs_if_lt (tgt := 12) dX11_figureAt_1 (by decide) (fun c => ?_) (fun c => ?_)
  · replace h := fg_ip c h
    refine bs_null dX11_figureAt_12 ?_
    refine bs_goto (tgt := 22) dX11_figureAt_13 (by decide) ?_
    cases h
    exact bs_aret dX11_figureAt_22 rfl (Or.inl ⟨_, rfl⟩) (Or.inl rfl) (Nat.zero_le _) (Nat.zero_le _) (kr _ rfl hR)
  · replace h := fg_iN c h
    refine bs_iload_n dX11_figureAt_4 rfl ?_
    refine bs_aload_n dX11_figureAt_5 rfl ?_
    refine bs_getI dX11_figureAt_6 fX11_131 (HX.s 0 rfl rfl rfl) ?_
    refine bs_icmp_lt (tgt := 16) dX11_figureAt_9 (by decide) (fun c => ?_) (fun c => ?_)
    · replace h := fg_ip c h
      refine bs_aload_n dX11_figureAt_16 rfl ?_
      refine fg_getR (b := (x + 7)) dX11_figureAt_17 fX11_25 (HX.s 0 rfl rfl rfl) hR (HX.r 0 2 rfl rfl rfl) ?_
      refine bs_iload_n dX11_figureAt_20 rfl ?_
      obtain ⟨g1, h⟩ := fg_gdE h
      refine fg_aald dX11_figureAt_21 (HX.ss 7 rfl rfl) (Or.inl rfl) (fg_in_ix g1) hR (fg_fR HX _ (fg_in_lt g1)) ?_
      have h_b2 := fg_F12 HX _ (fg_in_lt g1)
      generalize x + 63 + 7 * p1.toNatClampNeg = b2 at h h_b2 ⊢
      replace h := fg_letE h
      cases h
      exact bs_aret dX11_figureAt_22 rfl (Or.inl ⟨_, rfl⟩) (Or.inr ⟨_, rfl⟩) (Nat.zero_le _) (Nat.zero_le _) (kr _ rfl hR)
    · replace h := fg_iN c h
      refine bs_null dX11_figureAt_12 ?_
      refine bs_goto (tgt := 22) dX11_figureAt_13 (by decide) ?_
      cases h
      exact bs_aret dX11_figureAt_22 rfl (Or.inl ⟨_, rfl⟩) (Or.inl rfl) (Nat.zero_le _) (Nat.zero_le _) (kr _ rfl hR)
noncomputable def FX11_freeFigure (x : Nat) (mu : bs_Mm) : Option (Option Nat) :=
  if (nI 12) ≤ (bs_iv (mu x 13)) then (
    some (none)
  ) else (
    fg_gd (fg_in (bs_iv (mu x 13)) 12) (
    fg_let (x + 63 + 7 * (bs_iv (mu x 13)).toNatClampNeg) (fun b2 => 
    some (some b2)))
  )
set_option maxHeartbeats 4000000 in
theorem wX11_freeFigure {nx : Nat} {sh : bs_Sh} {R : Nat → Nat → Option Nat} {x : Nat} (HX : fg_S (bs_tS x) R x sh) {mu : bs_Mm} (hR : fg_R R mu) {r : Option Nat} (h : FX11_freeFigure x mu = some r) : bs_C mX11_freeFigure (bs_rm 0 0 0) [.ref x] nx sh mu (fg_po R nx sh (some (va_rf r)) mu) := by
  refine bs_ct (by decide +kernel) (Nat.le_of_ble_eq_true rfl) ?_
  have kr : ∀ q, r = q → fg_R R mu → (fg_po R nx sh (some (va_rf r)) mu) (some (va_rf q)) nx sh mu := fun q e hq => by subst e; exact ⟨rfl, rfl, rfl, rfl, hq⟩
  unfold FX11_freeFigure at h
  refine bs_aload_n dX11_freeFigure_0 rfl ?_
  refine bs_getI dX11_freeFigure_1 fX11_131 (HX.s 0 rfl rfl rfl) ?_
  refine bs_bipush (v := (nI 12)) dX11_freeFigure_4 (by decide) ?_
  refine bs_icmp_ge (tgt := 21) dX11_freeFigure_6 (by decide) (fun c => ?_) (fun c => ?_)
  · replace h := fg_ip c h
    refine bs_null dX11_freeFigure_21 ?_
    cases h
    exact bs_aret dX11_freeFigure_22 rfl (Or.inl ⟨_, rfl⟩) (Or.inl rfl) (Nat.zero_le _) (Nat.zero_le _) (kr _ rfl hR)
  · replace h := fg_iN c h
    refine bs_aload_n dX11_freeFigure_9 rfl ?_
    refine fg_getR (b := (x + 7)) dX11_freeFigure_10 fX11_25 (HX.s 0 rfl rfl rfl) hR (HX.r 0 2 rfl rfl rfl) ?_
    refine bs_aload_n dX11_freeFigure_13 rfl ?_
    refine bs_getI dX11_freeFigure_14 fX11_131 (HX.s 0 rfl rfl rfl) ?_
    obtain ⟨g1, h⟩ := fg_gdE h
    refine fg_aald dX11_freeFigure_17 (HX.ss 7 rfl rfl) (Or.inl rfl) (fg_in_ix g1) hR (fg_fR HX _ (fg_in_lt g1)) ?_
    have h_b2 := fg_F12 HX _ (fg_in_lt g1)
    generalize x + 63 + 7 * (bs_iv (mu x 13)).toNatClampNeg = b2 at h h_b2 ⊢
    replace h := fg_letE h
    refine bs_goto (tgt := 22) dX11_freeFigure_18 (by decide) ?_
    cases h
    exact bs_aret dX11_freeFigure_22 rfl (Or.inl ⟨_, rfl⟩) (Or.inr ⟨_, rfl⟩) (Nat.zero_le _) (Nat.zero_le _) (kr _ rfl hR)
noncomputable def FX1_hasPoint (x : Nat) (f : Nat) (mu : bs_Mm) (p1 : Int32) : Option (Int32) :=
  if p1 < 0 then (
    some ((nI 0))
  ) else (
    if (bs_iv (mu f 8)) ≤ p1 then (
      some ((nI 0))
    ) else (
      some ((nI 1))
    )
  )
set_option maxHeartbeats 4000000 in
theorem wX1_hasPoint {nx : Nat} {sh : bs_Sh} {R : Nat → Nat → Option Nat} {x : Nat} (HX : fg_S (bs_tS x) R x sh) {f : Nat} (h_f : fg_F R sh f) {mu : bs_Mm} (hR : fg_R R mu) {p1 : Int32} {r : Int32} (h : FX1_hasPoint x f mu p1 = some r) : bs_C mX1_hasPoint (bs_rm 0 0 0) [.ref f, .int p1] nx sh mu (fg_po R nx sh (some (.int r)) mu) := by
  refine bs_ct (by decide +kernel) (Nat.le_of_ble_eq_true rfl) ?_
  have kr : ∀ q, r = q → fg_R R mu → (fg_po R nx sh (some (.int r)) mu) (some (.int q)) nx sh mu := fun q e hq => by subst e; exact ⟨rfl, rfl, rfl, rfl, hq⟩
  unfold FX1_hasPoint at h
  refine bs_iload_n dX1_hasPoint_0 rfl ?_
  refine bs_if_lt (tgt := 16) dX1_hasPoint_1 (by decide) (fun c => ?_) (fun c => ?_)
  · replace h := fg_ip c h
    refine bs_iconst (v := (nI 0)) dX1_hasPoint_16 (by decide) ?_
    cases h
    exact bs_zret dX1_hasPoint_17 rfl (Or.inl rfl) (Nat.zero_le _) (Nat.zero_le _) (kr _ rfl hR)
  · replace h := fg_iN c h
    refine bs_iload_n dX1_hasPoint_4 rfl ?_
    refine bs_aload_n dX1_hasPoint_5 rfl ?_
    refine bs_getI dX1_hasPoint_6 fX1_43 (h_f.s0) ?_
    refine bs_icmp_ge (tgt := 16) dX1_hasPoint_9 (by decide) (fun c => ?_) (fun c => ?_)
    · replace h := fg_ip c h
      refine bs_iconst (v := (nI 0)) dX1_hasPoint_16 (by decide) ?_
      cases h
      exact bs_zret dX1_hasPoint_17 rfl (Or.inl rfl) (Nat.zero_le _) (Nat.zero_le _) (kr _ rfl hR)
    · replace h := fg_iN c h
      refine bs_iconst (v := (nI 1)) dX1_hasPoint_12 (by decide) ?_
      refine bs_goto (tgt := 17) dX1_hasPoint_13 (by decide) ?_
      cases h
      exact bs_zret dX1_hasPoint_17 rfl (Or.inr rfl) (Nat.zero_le _) (Nat.zero_le _) (kr _ rfl hR)
noncomputable def FX1_clear (x : Nat) (f : Nat) (mu : bs_Mm) : Option (bs_Mm) :=
  fg_wf mu (f + 6) 30 (.int (nI 0)) (fun mu1 => 
  fg_wr mu1 f 6 (.int (nI 0)) (fun mu2 => 
  fg_wr mu2 f 7 (.int (nI 0)) (fun mu3 => 
  fg_wr mu3 f 8 (.int (nI 0)) (fun mu4 => 
  fg_wr mu4 f 9 (.int (nI 0)) (fun mu5 => 
  some mu5)))))
set_option maxHeartbeats 4000000 in
theorem wX1_clear {nx : Nat} {sh : bs_Sh} {R : Nat → Nat → Option Nat} {x : Nat} (HX : fg_S (bs_tS x) R x sh) {f : Nat} (h_f : fg_F R sh f) {mu : bs_Mm} (hR : fg_R R mu) {r : bs_Mm} (h : FX1_clear x f mu = some r) : bs_C mX1_clear (bs_rm 1 0 0) [.ref f] nx sh mu (fg_po R nx sh none r) := by
  refine bs_ct (by decide +kernel) (Nat.le_of_ble_eq_true rfl) ?_
  have kr : ∀ q, r = q → fg_R R q → (fg_po R nx sh none r) none nx sh q := fun q e hq => by subst e; exact ⟨rfl, rfl, rfl, rfl, hq⟩
  unfold FX1_clear at h
  refine bs_aload_n dX1_clear_0 rfl ?_
  refine fg_getR (b := (f + 6)) dX1_clear_1 fX1_27 (h_f.s0) hR (h_f.r5) ?_
  refine bs_iconst (v := (nI 0)) dX1_clear_4 (by decide) ?_
  refine fg_fill dX1_clear_5 qX1_30 (h_f.s6) (h_f.j6) (by decide) (Nat.le_of_ble_eq_true rfl) (fg_cr (by first | decide | omega) (by decide)) hR h (fun mu1 hR h => ?_)
  refine bs_aload_n dX1_clear_8 rfl ?_
  refine bs_iconst (v := (nI 0)) dX1_clear_9 (by decide) ?_
  refine fg_putI dX1_clear_10 pX1_36 (h_f.s0) (h_f.n6) hR h (fun mu2 hR h => ?_)
  refine bs_aload_n dX1_clear_13 rfl ?_
  refine bs_iconst (v := (nI 0)) dX1_clear_14 (by decide) ?_
  refine fg_putI dX1_clear_15 pX1_40 (h_f.s0) (h_f.n7) hR h (fun mu3 hR h => ?_)
  refine bs_aload_n dX1_clear_18 rfl ?_
  refine bs_iconst (v := (nI 0)) dX1_clear_19 (by decide) ?_
  refine fg_putI dX1_clear_20 pX1_43 (h_f.s0) (h_f.n8) hR h (fun mu4 hR h => ?_)
  refine bs_aload_n dX1_clear_23 rfl ?_
  refine bs_iconst (v := (nI 0)) dX1_clear_24 (by decide) ?_
  refine fg_putI dX1_clear_25 pX1_46 (h_f.s0) (h_f.n9) hR h (fun mu5 hR h => ?_)
  cases h
  exact bs_vret dX1_clear_28 rfl (Nat.zero_le _) (Nat.zero_le _) (kr _ rfl hR)
noncomputable def FX1_startBalloon (x : Nat) (f : Nat) (mu : bs_Mm) (p1 : Int32) : Option (bs_Mm) :=
  if (nI 6) ≤ (bs_iv (mu f 6)) then (
    some mu
  ) else (
    fg_gd (fg_in (bs_iv (mu f 6)) 6) (
    fg_wr mu (f + 1) (bs_iv (mu f 6)).toNatClampNeg (.int p1) (fun mu2 => 
    fg_wr mu2 f 6 (.int ((bs_iv (mu2 f 6)) + (nI 1))) (fun mu3 => 
    some mu3)))
  )
set_option maxHeartbeats 4000000 in
theorem wX1_startBalloon {nx : Nat} {sh : bs_Sh} {R : Nat → Nat → Option Nat} {x : Nat} (HX : fg_S (bs_tS x) R x sh) {f : Nat} (h_f : fg_F R sh f) {mu : bs_Mm} (hR : fg_R R mu) {p1 : Int32} {r : bs_Mm} (h : FX1_startBalloon x f mu p1 = some r) : bs_C mX1_startBalloon (bs_rm 0 0 0) [.ref f, .int p1] nx sh mu (fg_po R nx sh none r) := by
  refine bs_ct (by decide +kernel) (Nat.le_of_ble_eq_true rfl) ?_
  have kr : ∀ q, r = q → fg_R R q → (fg_po R nx sh none r) none nx sh q := fun q e hq => by subst e; exact ⟨rfl, rfl, rfl, rfl, hq⟩
  unfold FX1_startBalloon at h
  refine bs_aload_n dX1_startBalloon_0 rfl ?_
  refine bs_getI dX1_startBalloon_1 fX1_36 (h_f.s0) ?_
  refine bs_bipush (v := (nI 6)) dX1_startBalloon_4 (by decide) ?_
  refine bs_icmp_ge (tgt := 29) dX1_startBalloon_6 (by decide) (fun c => ?_) (fun c => ?_)
  · replace h := fg_ip c h
    cases h
    exact bs_vret dX1_startBalloon_29 rfl (Nat.zero_le _) (Nat.zero_le _) (kr _ rfl hR)
  · replace h := fg_iN c h
    refine bs_aload_n dX1_startBalloon_9 rfl ?_
    refine fg_getR (b := (f + 1)) dX1_startBalloon_10 fX1_9 (h_f.s0) hR (h_f.r0) ?_
    refine bs_aload_n dX1_startBalloon_13 rfl ?_
    refine bs_getI dX1_startBalloon_14 fX1_36 (h_f.s0) ?_
    refine bs_iload_n dX1_startBalloon_17 rfl ?_
    obtain ⟨g1, h⟩ := fg_gdE h
    refine fg_iast dX1_startBalloon_18 (h_f.s1) (h_f.j1) g1 hR h (fun mu2 hR h => ?_)
    refine bs_aload_n dX1_startBalloon_19 rfl ?_
    refine bs_dup dX1_startBalloon_20 rfl ?_
    refine bs_getI dX1_startBalloon_21 fX1_36 (h_f.s0) ?_
    refine bs_iconst (v := (nI 1)) dX1_startBalloon_24 (by decide) ?_
    refine bs_iadd dX1_startBalloon_25 ?_
    refine fg_putI dX1_startBalloon_26 pX1_36 (h_f.s0) (h_f.n6) hR h (fun mu3 hR h => ?_)
    cases h
    exact bs_vret dX1_startBalloon_29 rfl (Nat.zero_le _) (Nat.zero_le _) (kr _ rfl hR)
noncomputable def FX1_slackTwistsUpTo_b4 (x : Nat) (f : Nat) (mu : bs_Mm) (l1 : Int32) (s : Int32 × Int32) : Option ((Int32 × Int32) ⊕ (Int32)) :=
  if l1 ≤ s.2 then (
    some (.inr s.1)
  ) else (
    if (bs_iv (mu f 7)) ≤ (s.2 + (nI 1)) then (
      some (.inr s.1)
    ) else (
      fg_gd (fg_in s.2 24) (
      fg_gd (fg_in (s.2 + (nI 1)) 24) (
      if (bs_iv (mu (f + 5) s.2.toNatClampNeg)) = (bs_iv (mu (f + 5) (s.2 + (nI 1)).toNatClampNeg)) then (
        fg_gd (fg_in s.2 24) (
        fg_gd (fg_in (bs_iv (mu (f + 4) s.2.toNatClampNeg)) 30) (
        if (nI 3) ≤ (bs_iv (mu (f + 6) (bs_iv (mu (f + 4) s.2.toNatClampNeg)).toNatClampNeg)) then (
          some (.inl (s.1, (s.2 + (nI 1))))
        ) else (
          some (.inl ((s.1 + (nI 1)), (s.2 + (nI 1))))
        )))
      ) else (
        some (.inl (s.1, (s.2 + (nI 1))))
      )))
    )
  )
set_option maxHeartbeats 4000000 in
theorem wFX1_slackTwistsUpTo_b4 {nx : Nat} {sh : bs_Sh} {R : Nat → Nat → Option Nat} {x : Nat} (HX : fg_S (bs_tS x) R x sh) {f : Nat} (h_f : fg_F R sh f) {mu : bs_Mm} {l1 : Int32} {Ph : bs_Po} {s : Int32 × Int32} {r : (Int32 × Int32) ⊕ (Int32)} (ka : ∀ s, r = .inl s → bs_W Ph mX1_slackTwistsUpTo (bs_rm 0 0 0) 4 (bs_mk [(0, .ref f), (1, .int l1), (2, .int s.1), (3, .int s.2)]) [] 0 0 nx sh mu) (ke : ∀ s, r = .inr s → bs_W Ph mX1_slackTwistsUpTo (bs_rm 0 0 0) 60 (bs_mk [(0, .ref f), (1, .int l1), (2, .int s)]) [] 0 0 nx sh mu) (hR : fg_R R mu) (h : FX1_slackTwistsUpTo_b4 x f mu l1 s = some r) : bs_W Ph mX1_slackTwistsUpTo (bs_rm 0 0 0) 4 (bs_mk [(0, .ref f), (1, .int l1), (2, .int s.1), (3, .int s.2)]) [] 0 0 nx sh mu := by
  unfold FX1_slackTwistsUpTo_b4 at h
  refine bs_iload_n dX1_slackTwistsUpTo_4 rfl ?_
  refine bs_iload_n dX1_slackTwistsUpTo_5 rfl ?_
  refine bs_icmp_ge (tgt := 60) dX1_slackTwistsUpTo_6 (by decide) (fun c => ?_) (fun c => ?_)
  · replace h := fg_ip c h
    cases h
    refine bs_W.mk [(0, .ref f), (1, .int l1), (2, .int s.1)] (by intro q hq; simp only [List.mem_cons, List.not_mem_nil, or_false] at hq; rcases hq with rfl | rfl | rfl <;> rfl) (ke _ rfl)
  · replace h := fg_iN c h
    refine bs_iload_n dX1_slackTwistsUpTo_9 rfl ?_
    refine bs_iconst (v := (nI 1)) dX1_slackTwistsUpTo_10 (by decide) ?_
    refine bs_iadd dX1_slackTwistsUpTo_11 ?_
    refine bs_aload_n dX1_slackTwistsUpTo_12 rfl ?_
    refine bs_getI dX1_slackTwistsUpTo_13 fX1_40 (h_f.s0) ?_
    refine bs_icmp_ge (tgt := 60) dX1_slackTwistsUpTo_16 (by decide) (fun c => ?_) (fun c => ?_)
    · replace h := fg_ip c h
      cases h
      refine bs_W.mk [(0, .ref f), (1, .int l1), (2, .int s.1)] (by intro q hq; simp only [List.mem_cons, List.not_mem_nil, or_false] at hq; rcases hq with rfl | rfl | rfl <;> rfl) (ke _ rfl)
    · replace h := fg_iN c h
      refine bs_aload_n dX1_slackTwistsUpTo_19 rfl ?_
      refine fg_getR (b := (f + 5)) dX1_slackTwistsUpTo_20 fX1_24 (h_f.s0) hR (h_f.r4) ?_
      refine bs_iload_n dX1_slackTwistsUpTo_23 rfl ?_
      obtain ⟨g1, h⟩ := fg_gdE h
      refine bs_iald dX1_slackTwistsUpTo_24 (h_f.s5) (fg_in_ix g1) ?_
      refine bs_aload_n dX1_slackTwistsUpTo_25 rfl ?_
      refine fg_getR (b := (f + 5)) dX1_slackTwistsUpTo_26 fX1_24 (h_f.s0) hR (h_f.r4) ?_
      refine bs_iload_n dX1_slackTwistsUpTo_29 rfl ?_
      refine bs_iconst (v := (nI 1)) dX1_slackTwistsUpTo_30 (by decide) ?_
      refine bs_iadd dX1_slackTwistsUpTo_31 ?_
      obtain ⟨g2, h⟩ := fg_gdE h
      refine bs_iald dX1_slackTwistsUpTo_32 (h_f.s5) (fg_in_ix g2) ?_
      refine bs_icmp_ne (tgt := 54) dX1_slackTwistsUpTo_33 (by decide) (fun c => ?_) (fun c => ?_)
      · replace h := fg_iN c h
        refine fg_iinc (m := (nI 1)) dX1_slackTwistsUpTo_54 rfl rfl (by decide) ?_
        refine bs_goto (tgt := 4) dX1_slackTwistsUpTo_57 (by decide) ?_
        cases h
        refine bs_W.mk [(0, .ref f), (1, .int l1), (2, .int s.1), (3, .int (s.2 + (nI 1)))] (by intro q hq; simp only [List.mem_cons, List.not_mem_nil, or_false] at hq; rcases hq with rfl | rfl | rfl | rfl <;> rfl) (by have k := ka _ rfl; dsimp only at k; exact k)
      · replace h := fg_ip c h
        refine bs_aload_n dX1_slackTwistsUpTo_36 rfl ?_
        refine fg_getR (b := (f + 6)) dX1_slackTwistsUpTo_37 fX1_27 (h_f.s0) hR (h_f.r5) ?_
        refine bs_aload_n dX1_slackTwistsUpTo_40 rfl ?_
        refine fg_getR (b := (f + 4)) dX1_slackTwistsUpTo_41 fX1_21 (h_f.s0) hR (h_f.r3) ?_
        refine bs_iload_n dX1_slackTwistsUpTo_44 rfl ?_
        obtain ⟨g3, h⟩ := fg_gdE h
        refine bs_iald dX1_slackTwistsUpTo_45 (h_f.s4) (fg_in_ix g3) ?_
        obtain ⟨g4, h⟩ := fg_gdE h
        refine bs_iald dX1_slackTwistsUpTo_46 (h_f.s6) (fg_in_ix g4) ?_
        refine bs_iconst (v := (nI 3)) dX1_slackTwistsUpTo_47 (by decide) ?_
        refine bs_icmp_ge (tgt := 54) dX1_slackTwistsUpTo_48 (by decide) (fun c => ?_) (fun c => ?_)
        · replace h := fg_ip c h
          refine fg_iinc (m := (nI 1)) dX1_slackTwistsUpTo_54 rfl rfl (by decide) ?_
          refine bs_goto (tgt := 4) dX1_slackTwistsUpTo_57 (by decide) ?_
          cases h
          refine bs_W.mk [(0, .ref f), (1, .int l1), (2, .int s.1), (3, .int (s.2 + (nI 1)))] (by intro q hq; simp only [List.mem_cons, List.not_mem_nil, or_false] at hq; rcases hq with rfl | rfl | rfl | rfl <;> rfl) (by have k := ka _ rfl; dsimp only at k; exact k)
        · replace h := fg_iN c h
          refine fg_iinc (m := (nI 1)) dX1_slackTwistsUpTo_51 rfl rfl (by decide) ?_
          refine fg_iinc (m := (nI 1)) dX1_slackTwistsUpTo_54 rfl rfl (by decide) ?_
          refine bs_goto (tgt := 4) dX1_slackTwistsUpTo_57 (by decide) ?_
          cases h
          refine bs_W.mk [(0, .ref f), (1, .int l1), (2, .int (s.1 + (nI 1))), (3, .int (s.2 + (nI 1)))] (by intro q hq; simp only [List.mem_cons, List.not_mem_nil, or_false] at hq; rcases hq with rfl | rfl | rfl | rfl <;> rfl) (by have k := ka _ rfl; dsimp only at k; exact k)
theorem wFX1_slackTwistsUpTo_l4 {nx : Nat} {sh : bs_Sh} {R : Nat → Nat → Option Nat} {x : Nat} (HX : fg_S (bs_tS x) R x sh) {f : Nat} (h_f : fg_F R sh f) {mu : bs_Mm} {l1 : Int32} {Ph : bs_Po} {t : Int32} : ∀ n (y0 : Int32) (y1 : Int32), fg_lp (FX1_slackTwistsUpTo_b4 x f mu l1) n (y0, y1) = some t → fg_R R mu → (ke : ∀ s, t = s → bs_W Ph mX1_slackTwistsUpTo (bs_rm 0 0 0) 60 (bs_mk [(0, .ref f), (1, .int l1), (2, .int s)]) [] 0 0 nx sh mu) → bs_W Ph mX1_slackTwistsUpTo (bs_rm 0 0 0) 4 (bs_mk [(0, .ref f), (1, .int l1), (2, .int y0), (3, .int y1)]) [] 0 0 nx sh mu := by
  intro n
  induction n with
  | zero => intro y0 y1 h; exact absurd h (fun z => fg_lp0 z)
  | succ n ih =>
    intro y0 y1 h hR ke
    obtain ⟨r, hb, h1, h2⟩ := fg_lpE h
    exact wFX1_slackTwistsUpTo_b4 (s := (y0, y1)) HX h_f (fun s' e => ih s'.1 s'.2 (h1 s' e) hR ke) (fun s' e => ke s' (h2 _ e).symm) hR hb
noncomputable def FX1_slackTwistsUpTo (x : Nat) (f : Nat) (mu : bs_Mm) (p1 : Int32) : Option (Int32) :=
  fg_bd (fg_lp (FX1_slackTwistsUpTo_b4 x f mu p1) fg_fu ((nI 0), (nI 0))) (fun t5 => 
    some (t5)
  )
set_option maxHeartbeats 4000000 in
theorem wX1_slackTwistsUpTo {nx : Nat} {sh : bs_Sh} {R : Nat → Nat → Option Nat} {x : Nat} (HX : fg_S (bs_tS x) R x sh) {f : Nat} (h_f : fg_F R sh f) {mu : bs_Mm} (hR : fg_R R mu) {p1 : Int32} {r : Int32} (h : FX1_slackTwistsUpTo x f mu p1 = some r) : bs_C mX1_slackTwistsUpTo (bs_rm 0 0 0) [.ref f, .int p1] nx sh mu (fg_po R nx sh (some (.int r)) mu) := by
  refine bs_ct (by decide +kernel) (Nat.le_of_ble_eq_true rfl) ?_
  have kr : ∀ q, r = q → fg_R R mu → (fg_po R nx sh (some (.int r)) mu) (some (.int q)) nx sh mu := fun q e hq => by subst e; exact ⟨rfl, rfl, rfl, rfl, hq⟩
  unfold FX1_slackTwistsUpTo at h
  refine bs_iconst (v := (nI 0)) dX1_slackTwistsUpTo_0 (by decide) ?_
  refine bs_istore_n dX1_slackTwistsUpTo_1 rfl (by decide) ?_
  refine bs_iconst (v := (nI 0)) dX1_slackTwistsUpTo_2 (by decide) ?_
  refine bs_istore_n dX1_slackTwistsUpTo_3 rfl (by decide) ?_
  obtain ⟨t5, k6, h⟩ := fg_bdE h
  refine bs_W.mk [(0, .ref f), (1, .int p1), (2, .int (nI 0)), (3, .int (nI 0))] (by intro q hq; simp only [List.mem_cons, List.not_mem_nil, or_false] at hq; rcases hq with rfl | rfl | rfl | rfl <;> rfl) ?_
  refine wFX1_slackTwistsUpTo_l4 HX h_f _ _ _ k6 hR ?_
  intro s e
  subst e
  refine bs_iload_n dX1_slackTwistsUpTo_60 rfl ?_
  cases h
  exact bs_iret dX1_slackTwistsUpTo_61 rfl (Nat.zero_le _) (Nat.zero_le _) (kr _ rfl hR)
noncomputable def FX1_makeBubble (x : Nat) (f : Nat) (mu : bs_Mm) (p1 : Int32) (p2 : Int32) (p3 : Int32) : Option (bs_Mm) :=
  if (bs_iv (mu f 7)) < (nI 24) then (
    fg_gd (fg_in (bs_iv (mu f 7)) 24) (
    fg_wr mu (f + 2) (bs_iv (mu f 7)).toNatClampNeg (.int p1) (fun mu2 => 
    fg_gd (fg_in (bs_iv (mu2 f 7)) 24) (
    fg_wr mu2 (f + 3) (bs_iv (mu2 f 7)).toNatClampNeg (.int p2) (fun mu4 => 
    fg_gd (fg_in (bs_iv (mu4 f 7)) 24) (
    fg_wr mu4 (f + 4) (bs_iv (mu4 f 7)).toNatClampNeg (.int p3) (fun mu6 => 
    fg_gd (fg_in (bs_iv (mu6 f 7)) 24) (
    fg_wr mu6 (f + 5) (bs_iv (mu6 f 7)).toNatClampNeg (.int ((bs_iv (mu6 f 6)) - (nI 1))) (fun mu8 => 
    fg_gd (fg_in p2 30) (
    fg_gd (fg_in p2 30) (
    fg_wr mu8 (f + 6) p2.toNatClampNeg (.int ((bs_iv (mu8 (f + 6) p2.toNatClampNeg)) + (nI 1))) (fun mu11 => 
    fg_gd (fg_in p3 30) (
    fg_gd (fg_in p3 30) (
    fg_wr mu11 (f + 6) p3.toNatClampNeg (.int ((bs_iv (mu11 (f + 6) p3.toNatClampNeg)) + (nI 1))) (fun mu14 => 
    fg_wr mu14 f 7 (.int ((bs_iv (mu14 f 7)) + (nI 1))) (fun mu15 => 
    fg_bd (FX1_slackTwistsUpTo x f mu15 ((bs_iv (mu15 f 7)) - (nI 1))) (fun v17 => 
    fg_wr mu15 f 9 (.int (if (bs_iv (mu15 f 9)) < v17 then v17 else (bs_iv (mu15 f 9)))) (fun mu18 => 
    some mu18)))))))))))))))))
  ) else (
    some mu
  )
set_option maxHeartbeats 4000000 in
theorem wX1_makeBubble {nx : Nat} {sh : bs_Sh} {R : Nat → Nat → Option Nat} {x : Nat} (HX : fg_S (bs_tS x) R x sh) {f : Nat} (h_f : fg_F R sh f) {mu : bs_Mm} (hR : fg_R R mu) {p1 : Int32} {p2 : Int32} {p3 : Int32} {r : bs_Mm} (h : FX1_makeBubble x f mu p1 p2 p3 = some r) : bs_C mX1_makeBubble (bs_rm 1 0 0) [.ref f, .int p1, .int p2, .int p3] nx sh mu (fg_po R nx sh none r) := by
  refine bs_ct (by decide +kernel) (Nat.le_of_ble_eq_true rfl) ?_
  have kr : ∀ q, r = q → fg_R R q → (fg_po R nx sh none r) none nx sh q := fun q e hq => by subst e; exact ⟨rfl, rfl, rfl, rfl, hq⟩
  unfold FX1_makeBubble at h
  refine bs_aload_n dX1_makeBubble_0 rfl ?_
  refine bs_getI dX1_makeBubble_1 fX1_40 (h_f.s0) ?_
  refine bs_bipush (v := (nI 24)) dX1_makeBubble_4 (by decide) ?_
  refine bs_icmp_lt (tgt := 10) dX1_makeBubble_6 (by decide) (fun c => ?_) (fun c => ?_)
  · replace h := fg_ip c h
    refine bs_aload_n dX1_makeBubble_10 rfl ?_
    refine fg_getR (b := (f + 2)) dX1_makeBubble_11 fX1_15 (h_f.s0) hR (h_f.r1) ?_
    refine bs_aload_n dX1_makeBubble_14 rfl ?_
    refine bs_getI dX1_makeBubble_15 fX1_40 (h_f.s0) ?_
    refine bs_iload_n dX1_makeBubble_18 rfl ?_
    obtain ⟨g1, h⟩ := fg_gdE h
    refine fg_iast dX1_makeBubble_19 (h_f.s2) (h_f.j2) g1 hR h (fun mu2 hR h => ?_)
    refine bs_aload_n dX1_makeBubble_20 rfl ?_
    refine fg_getR (b := (f + 3)) dX1_makeBubble_21 fX1_18 (h_f.s0) hR (h_f.r2) ?_
    refine bs_aload_n dX1_makeBubble_24 rfl ?_
    refine bs_getI dX1_makeBubble_25 fX1_40 (h_f.s0) ?_
    refine bs_iload_n dX1_makeBubble_28 rfl ?_
    obtain ⟨g3, h⟩ := fg_gdE h
    refine fg_iast dX1_makeBubble_29 (h_f.s3) (h_f.j3) g3 hR h (fun mu4 hR h => ?_)
    refine bs_aload_n dX1_makeBubble_30 rfl ?_
    refine fg_getR (b := (f + 4)) dX1_makeBubble_31 fX1_21 (h_f.s0) hR (h_f.r3) ?_
    refine bs_aload_n dX1_makeBubble_34 rfl ?_
    refine bs_getI dX1_makeBubble_35 fX1_40 (h_f.s0) ?_
    refine bs_iload_n dX1_makeBubble_38 rfl ?_
    obtain ⟨g5, h⟩ := fg_gdE h
    refine fg_iast dX1_makeBubble_39 (h_f.s4) (h_f.j4) g5 hR h (fun mu6 hR h => ?_)
    refine bs_aload_n dX1_makeBubble_40 rfl ?_
    refine fg_getR (b := (f + 5)) dX1_makeBubble_41 fX1_24 (h_f.s0) hR (h_f.r4) ?_
    refine bs_aload_n dX1_makeBubble_44 rfl ?_
    refine bs_getI dX1_makeBubble_45 fX1_40 (h_f.s0) ?_
    refine bs_aload_n dX1_makeBubble_48 rfl ?_
    refine bs_getI dX1_makeBubble_49 fX1_36 (h_f.s0) ?_
    refine bs_iconst (v := (nI 1)) dX1_makeBubble_52 (by decide) ?_
    refine bs_isub dX1_makeBubble_53 ?_
    obtain ⟨g7, h⟩ := fg_gdE h
    refine fg_iast dX1_makeBubble_54 (h_f.s5) (h_f.j5) g7 hR h (fun mu8 hR h => ?_)
    refine bs_aload_n dX1_makeBubble_55 rfl ?_
    refine fg_getR (b := (f + 6)) dX1_makeBubble_56 fX1_27 (h_f.s0) hR (h_f.r5) ?_
    refine bs_iload_n dX1_makeBubble_59 rfl ?_
    refine bs_dup2 dX1_makeBubble_60 rfl rfl ?_
    obtain ⟨g9, h⟩ := fg_gdE h
    refine bs_iald dX1_makeBubble_61 (h_f.s6) (fg_in_ix g9) ?_
    refine bs_iconst (v := (nI 1)) dX1_makeBubble_62 (by decide) ?_
    refine bs_iadd dX1_makeBubble_63 ?_
    obtain ⟨g10, h⟩ := fg_gdE h
    refine fg_iast dX1_makeBubble_64 (h_f.s6) (h_f.j6) g10 hR h (fun mu11 hR h => ?_)
    refine bs_aload_n dX1_makeBubble_65 rfl ?_
    refine fg_getR (b := (f + 6)) dX1_makeBubble_66 fX1_27 (h_f.s0) hR (h_f.r5) ?_
    refine bs_iload_n dX1_makeBubble_69 rfl ?_
    refine bs_dup2 dX1_makeBubble_70 rfl rfl ?_
    obtain ⟨g12, h⟩ := fg_gdE h
    refine bs_iald dX1_makeBubble_71 (h_f.s6) (fg_in_ix g12) ?_
    refine bs_iconst (v := (nI 1)) dX1_makeBubble_72 (by decide) ?_
    refine bs_iadd dX1_makeBubble_73 ?_
    obtain ⟨g13, h⟩ := fg_gdE h
    refine fg_iast dX1_makeBubble_74 (h_f.s6) (h_f.j6) g13 hR h (fun mu14 hR h => ?_)
    refine bs_aload_n dX1_makeBubble_75 rfl ?_
    refine bs_dup dX1_makeBubble_76 rfl ?_
    refine bs_getI dX1_makeBubble_77 fX1_40 (h_f.s0) ?_
    refine bs_iconst (v := (nI 1)) dX1_makeBubble_80 (by decide) ?_
    refine bs_iadd dX1_makeBubble_81 ?_
    refine fg_putI dX1_makeBubble_82 pX1_40 (h_f.s0) (h_f.n7) hR h (fun mu15 hR h => ?_)
    refine bs_aload_n dX1_makeBubble_85 rfl ?_
    refine bs_aload_n dX1_makeBubble_86 rfl ?_
    refine bs_getI dX1_makeBubble_87 fX1_46 (h_f.s0) ?_
    refine bs_aload_n dX1_makeBubble_90 rfl ?_
    refine bs_aload_n dX1_makeBubble_91 rfl ?_
    refine bs_getI dX1_makeBubble_92 fX1_40 (h_f.s0) ?_
    refine bs_iconst (v := (nI 1)) dX1_makeBubble_95 (by decide) ?_
    refine bs_isub dX1_makeBubble_96 ?_
    obtain ⟨v17, k16, h⟩ := fg_bdE h
    refine fg_callV dX1_makeBubble_97 qX1_55 (wX1_slackTwistsUpTo HX h_f hR k16) rfl (h_f.s0) rfl (Nat.le_of_ble_eq_true rfl) (fg_cr (by first | decide | omega) (by decide)) (fun hR => ?_)
    refine bs_mmax dX1_makeBubble_100 xX1_59 (by first | decide | (simp only [bs_rm]; omega)) (by first | exact Nat.le_of_ble_eq_true rfl | (simp only [bs_rm, List.map, List.sum_cons, List.sum_nil, Value.category]; omega)) (Nat.zero_le _) (Nat.zero_le _) ?_
    refine fg_putI dX1_makeBubble_103 pX1_46 (h_f.s0) (h_f.n9) hR h (fun mu18 hR h => ?_)
    cases h
    exact bs_vret dX1_makeBubble_106 rfl (Nat.zero_le _) (Nat.zero_le _) (kr _ rfl hR)
  · replace h := fg_iN c h
    cases h
    exact bs_vret dX1_makeBubble_9 rfl (Nat.zero_le _) (Nat.zero_le _) (kr _ rfl hR)
noncomputable def FX1_joinedNumber (x : Nat) (mu : bs_Mm) (p0 : Int32) (p1 : Int32) (p2 : Int32) (p3 : Int32) : Option (Int32) :=
  if p0 = p3 then (
    some (p2)
  ) else (
    if p0 ≤ p3 then (
      some (((p1 + p0) - (nI 0)))
    ) else (
      some (((p1 + p0) - (nI 1)))
    )
  )
set_option maxHeartbeats 4000000 in
theorem wX1_joinedNumber {nx : Nat} {sh : bs_Sh} {R : Nat → Nat → Option Nat} {x : Nat} (HX : fg_S (bs_tS x) R x sh) {mu : bs_Mm} (hR : fg_R R mu) {p0 : Int32} {p1 : Int32} {p2 : Int32} {p3 : Int32} {r : Int32} (h : FX1_joinedNumber x mu p0 p1 p2 p3 = some r) : bs_C mX1_joinedNumber (bs_rm 0 0 0) [.int p0, .int p1, .int p2, .int p3] nx sh mu (fg_po R nx sh (some (.int r)) mu) := by
  refine bs_ct (by decide +kernel) (Nat.le_of_ble_eq_true rfl) ?_
  have kr : ∀ q, r = q → fg_R R mu → (fg_po R nx sh (some (.int r)) mu) (some (.int q)) nx sh mu := fun q e hq => by subst e; exact ⟨rfl, rfl, rfl, rfl, hq⟩
  unfold FX1_joinedNumber at h
  refine bs_iload_n dX1_joinedNumber_0 rfl ?_
  refine bs_iload_n dX1_joinedNumber_1 rfl ?_
  refine bs_icmp_ne (tgt := 7) dX1_joinedNumber_2 (by decide) (fun c => ?_) (fun c => ?_)
  · replace h := fg_iN c h
    refine bs_iload_n dX1_joinedNumber_7 rfl ?_
    refine bs_iload_n dX1_joinedNumber_8 rfl ?_
    refine bs_iadd dX1_joinedNumber_9 ?_
    refine bs_iload_n dX1_joinedNumber_10 rfl ?_
    refine bs_iload_n dX1_joinedNumber_11 rfl ?_
    refine bs_icmp_le (tgt := 19) dX1_joinedNumber_12 (by decide) (fun c => ?_) (fun c => ?_)
    · replace h := fg_ip c h
      refine bs_iconst (v := (nI 0)) dX1_joinedNumber_19 (by decide) ?_
      refine bs_isub dX1_joinedNumber_20 ?_
      cases h
      exact bs_iret dX1_joinedNumber_21 rfl (Nat.zero_le _) (Nat.zero_le _) (kr _ rfl hR)
    · replace h := fg_iN c h
      refine bs_iconst (v := (nI 1)) dX1_joinedNumber_15 (by decide) ?_
      refine bs_goto (tgt := 20) dX1_joinedNumber_16 (by decide) ?_
      refine bs_isub dX1_joinedNumber_20 ?_
      cases h
      exact bs_iret dX1_joinedNumber_21 rfl (Nat.zero_le _) (Nat.zero_le _) (kr _ rfl hR)
  · replace h := fg_ip c h
    refine bs_iload_n dX1_joinedNumber_5 rfl ?_
    cases h
    exact bs_iret dX1_joinedNumber_6 rfl (Nat.zero_le _) (Nat.zero_le _) (kr _ rfl hR)
noncomputable def FX1_joinTwo_b45_L25 (x : Nat) (f : Nat) (p1 : Nat) (p2 : Nat)  (l3 : Int32) (l4 : Int32) (l6 : Int32) (s : Int32 × bs_Mm) : Option ((Int32 × bs_Mm) ⊕ (Int32 × bs_Mm)) :=
  if (bs_iv (s.2 p1 7)) ≤ s.1 then (
    some (.inr (s.1, s.2))
  ) else (
    fg_gd (fg_in s.1 24) (
    if (bs_iv (s.2 (p1 + 5) s.1.toNatClampNeg)) = l6 then (
      fg_gd (fg_in s.1 24) (
      fg_gd (fg_in s.1 24) (
      fg_gd (fg_in s.1 24) (
      fg_bd (FX1_makeBubble x f s.2 (bs_iv (s.2 (p1 + 2) s.1.toNatClampNeg)) (bs_iv (s.2 (p1 + 3) s.1.toNatClampNeg)) (bs_iv (s.2 (p1 + 4) s.1.toNatClampNeg))) (fun mu12 => 
      some (.inl ((s.1 + (nI 1)), mu12))))))
    ) else (
      some (.inr (s.1, s.2))
    ))
  )
set_option maxHeartbeats 4000000 in
theorem wFX1_joinTwo_b45_L25 {nx : Nat} {sh : bs_Sh} {R : Nat → Nat → Option Nat} {x : Nat} (HX : fg_S (bs_tS x) R x sh) {f : Nat} (h_f : fg_F R sh f) {p1 : Nat} (h_p1 : fg_F R sh p1) {p2 : Nat} (h_p2 : fg_F R sh p2) {l3 : Int32} {l4 : Int32} {l6 : Int32} {Ph : bs_Po} {s : Int32 × bs_Mm} {r : (Int32 × bs_Mm) ⊕ (Int32 × bs_Mm)} (ka : ∀ s, r = .inl s → fg_R R s.2 → bs_W Ph mX1_joinTwo (bs_rm 2 0 0) 45 (bs_mk [(0, .ref f), (1, .ref p1), (2, .ref p2), (3, .int l3), (4, .int l4), (5, .int s.1), (6, .int l6)]) [] 0 0 nx sh s.2) (ke : ∀ s, r = .inr s → fg_R R s.2 → bs_W Ph mX1_joinTwo (bs_rm 2 0 0) 97 (bs_mk [(0, .ref f), (1, .ref p1), (2, .ref p2), (3, .int l3), (4, .int l4), (5, .int s.1), (6, .int l6)]) [] 0 0 nx sh s.2) (hR : fg_R R s.2) (h : FX1_joinTwo_b45_L25 x f p1 p2 l3 l4 l6 s = some r) : bs_W Ph mX1_joinTwo (bs_rm 2 0 0) 45 (bs_mk [(0, .ref f), (1, .ref p1), (2, .ref p2), (3, .int l3), (4, .int l4), (5, .int s.1), (6, .int l6)]) [] 0 0 nx sh s.2 := by
  unfold FX1_joinTwo_b45_L25 at h
  refine bs_iload dX1_joinTwo_45 rfl ?_
  refine bs_aload_n dX1_joinTwo_47 rfl ?_
  refine bs_getI dX1_joinTwo_48 fX1_40 (h_p1.s0) ?_
  refine bs_icmp_ge (tgt := 97) dX1_joinTwo_51 (by decide) (fun c => ?_) (fun c => ?_)
  · replace h := fg_ip c h
    cases h
    refine bs_W.mk [(0, .ref f), (1, .ref p1), (2, .ref p2), (3, .int l3), (4, .int l4), (5, .int s.1), (6, .int l6)] (by intro q hq; simp only [List.mem_cons, List.not_mem_nil, or_false] at hq; rcases hq with rfl | rfl | rfl | rfl | rfl | rfl | rfl <;> rfl) (ke _ rfl hR)
  · replace h := fg_iN c h
    refine bs_aload_n dX1_joinTwo_54 rfl ?_
    refine fg_getR (b := (p1 + 5)) dX1_joinTwo_55 fX1_24 (h_p1.s0) hR (h_p1.r4) ?_
    refine bs_iload dX1_joinTwo_58 rfl ?_
    obtain ⟨g7, h⟩ := fg_gdE h
    refine bs_iald dX1_joinTwo_60 (h_p1.s5) (fg_in_ix g7) ?_
    refine bs_iload dX1_joinTwo_61 rfl ?_
    refine bs_icmp_ne (tgt := 97) dX1_joinTwo_63 (by decide) (fun c => ?_) (fun c => ?_)
    · replace h := fg_iN c h
      cases h
      refine bs_W.mk [(0, .ref f), (1, .ref p1), (2, .ref p2), (3, .int l3), (4, .int l4), (5, .int s.1), (6, .int l6)] (by intro q hq; simp only [List.mem_cons, List.not_mem_nil, or_false] at hq; rcases hq with rfl | rfl | rfl | rfl | rfl | rfl | rfl <;> rfl) (ke _ rfl hR)
    · replace h := fg_ip c h
      refine bs_aload_n dX1_joinTwo_66 rfl ?_
      refine bs_aload_n dX1_joinTwo_67 rfl ?_
      refine fg_getR (b := (p1 + 2)) dX1_joinTwo_68 fX1_15 (h_p1.s0) hR (h_p1.r1) ?_
      refine bs_iload dX1_joinTwo_71 rfl ?_
      obtain ⟨g8, h⟩ := fg_gdE h
      refine bs_iald dX1_joinTwo_73 (h_p1.s2) (fg_in_ix g8) ?_
      refine bs_aload_n dX1_joinTwo_74 rfl ?_
      refine fg_getR (b := (p1 + 3)) dX1_joinTwo_75 fX1_18 (h_p1.s0) hR (h_p1.r2) ?_
      refine bs_iload dX1_joinTwo_78 rfl ?_
      obtain ⟨g9, h⟩ := fg_gdE h
      refine bs_iald dX1_joinTwo_80 (h_p1.s3) (fg_in_ix g9) ?_
      refine bs_aload_n dX1_joinTwo_81 rfl ?_
      refine fg_getR (b := (p1 + 4)) dX1_joinTwo_82 fX1_21 (h_p1.s0) hR (h_p1.r3) ?_
      refine bs_iload dX1_joinTwo_85 rfl ?_
      obtain ⟨g10, h⟩ := fg_gdE h
      refine bs_iald dX1_joinTwo_87 (h_p1.s4) (fg_in_ix g10) ?_
      obtain ⟨mu12, k11, h⟩ := fg_bdE h
      refine fg_callVv dX1_joinTwo_88 qX1_90 (wX1_makeBubble HX h_f hR k11) rfl (h_f.s0) rfl (Nat.le_of_ble_eq_true rfl) (fg_cr (by first | decide | omega) (by decide)) (fun hR => ?_)
      refine fg_iinc (m := (nI 1)) dX1_joinTwo_91 rfl rfl (by decide) ?_
      refine bs_goto (tgt := 45) dX1_joinTwo_94 (by decide) ?_
      cases h
      refine bs_W.mk [(0, .ref f), (1, .ref p1), (2, .ref p2), (3, .int l3), (4, .int l4), (5, .int (s.1 + (nI 1))), (6, .int l6)] (by intro q hq; simp only [List.mem_cons, List.not_mem_nil, or_false] at hq; rcases hq with rfl | rfl | rfl | rfl | rfl | rfl | rfl <;> rfl) (by have k := ka _ rfl hR; dsimp only at k; exact k)
theorem wFX1_joinTwo_l45_L25 {nx : Nat} {sh : bs_Sh} {R : Nat → Nat → Option Nat} {x : Nat} (HX : fg_S (bs_tS x) R x sh) {f : Nat} (h_f : fg_F R sh f) {p1 : Nat} (h_p1 : fg_F R sh p1) {p2 : Nat} (h_p2 : fg_F R sh p2) {l3 : Int32} {l4 : Int32} {l6 : Int32} {Ph : bs_Po} {t : Int32 × bs_Mm} : ∀ n (y0 : Int32) (mu1 : bs_Mm), fg_lp (FX1_joinTwo_b45_L25 x f p1 p2 l3 l4 l6) n (y0, mu1) = some t → fg_R R mu1 → (ke : ∀ s, t = s → fg_R R s.2 → bs_W Ph mX1_joinTwo (bs_rm 2 0 0) 97 (bs_mk [(0, .ref f), (1, .ref p1), (2, .ref p2), (3, .int l3), (4, .int l4), (5, .int s.1), (6, .int l6)]) [] 0 0 nx sh s.2) → bs_W Ph mX1_joinTwo (bs_rm 2 0 0) 45 (bs_mk [(0, .ref f), (1, .ref p1), (2, .ref p2), (3, .int l3), (4, .int l4), (5, .int y0), (6, .int l6)]) [] 0 0 nx sh mu1 := by
  intro n
  induction n with
  | zero => intro y0 mu1 h; exact absurd h (fun z => fg_lp0 z)
  | succ n ih =>
    intro y0 mu1 h hR ke
    obtain ⟨r, hb, h1, h2⟩ := fg_lpE h
    exact wFX1_joinTwo_b45_L25 (s := (y0, mu1)) HX h_f h_p1 h_p2 (fun s' e hR' => ih s'.1 s'.2 (h1 s' e) hR' ke) (fun s' e => ke s' (h2 _ e).symm) hR hb
noncomputable def FX1_joinTwo_b25 (x : Nat) (f : Nat) (p1 : Nat) (p2 : Nat)  (l3 : Int32) (l4 : Int32) (s : Int32 × Int32 × bs_Mm) : Option ((Int32 × Int32 × bs_Mm) ⊕ (bs_Mm)) :=
  if (bs_iv (s.2.2 p1 6)) ≤ s.2.1 then (
    some (.inr s.2.2)
  ) else (
    fg_gd (fg_in s.2.1 6) (
    fg_bd (FX1_startBalloon x f s.2.2 (bs_iv (s.2.2 (p1 + 1) s.2.1.toNatClampNeg))) (fun mu6 => 
    fg_bd (fg_lp (FX1_joinTwo_b45_L25 x f p1 p2 l3 l4 s.2.1) fg_fu (s.1, mu6)) (fun t13 => 
      some (.inl (t13.1, (s.2.1 + (nI 1)), t13.2))
    )))
  )
set_option maxHeartbeats 4000000 in
theorem wFX1_joinTwo_b25 {nx : Nat} {sh : bs_Sh} {R : Nat → Nat → Option Nat} {x : Nat} (HX : fg_S (bs_tS x) R x sh) {f : Nat} (h_f : fg_F R sh f) {p1 : Nat} (h_p1 : fg_F R sh p1) {p2 : Nat} (h_p2 : fg_F R sh p2) {l3 : Int32} {l4 : Int32} {Ph : bs_Po} {s : Int32 × Int32 × bs_Mm} {r : (Int32 × Int32 × bs_Mm) ⊕ (bs_Mm)} (ka : ∀ s, r = .inl s → fg_R R s.2.2 → bs_W Ph mX1_joinTwo (bs_rm 2 0 0) 25 (bs_mk [(0, .ref f), (1, .ref p1), (2, .ref p2), (3, .int l3), (4, .int l4), (5, .int s.1), (6, .int s.2.1)]) [] 0 0 nx sh s.2.2) (ke : ∀ s, r = .inr s → fg_R R s → bs_W Ph mX1_joinTwo (bs_rm 2 0 0) 103 (bs_mk [(0, .ref f), (1, .ref p1), (2, .ref p2), (3, .int l3), (4, .int l4)]) [] 0 0 nx sh s) (hR : fg_R R s.2.2) (h : FX1_joinTwo_b25 x f p1 p2 l3 l4 s = some r) : bs_W Ph mX1_joinTwo (bs_rm 2 0 0) 25 (bs_mk [(0, .ref f), (1, .ref p1), (2, .ref p2), (3, .int l3), (4, .int l4), (5, .int s.1), (6, .int s.2.1)]) [] 0 0 nx sh s.2.2 := by
  unfold FX1_joinTwo_b25 at h
  refine bs_iload dX1_joinTwo_25 rfl ?_
  refine bs_aload_n dX1_joinTwo_27 rfl ?_
  refine bs_getI dX1_joinTwo_28 fX1_36 (h_p1.s0) ?_
  refine bs_icmp_ge (tgt := 103) dX1_joinTwo_31 (by decide) (fun c => ?_) (fun c => ?_)
  · replace h := fg_ip c h
    cases h
    refine bs_W.mk [(0, .ref f), (1, .ref p1), (2, .ref p2), (3, .int l3), (4, .int l4)] (by intro q hq; simp only [List.mem_cons, List.not_mem_nil, or_false] at hq; rcases hq with rfl | rfl | rfl | rfl | rfl <;> rfl) (ke _ rfl hR)
  · replace h := fg_iN c h
    refine bs_aload_n dX1_joinTwo_34 rfl ?_
    refine bs_aload_n dX1_joinTwo_35 rfl ?_
    refine fg_getR (b := (p1 + 1)) dX1_joinTwo_36 fX1_9 (h_p1.s0) hR (h_p1.r0) ?_
    refine bs_iload dX1_joinTwo_39 rfl ?_
    obtain ⟨g4, h⟩ := fg_gdE h
    refine bs_iald dX1_joinTwo_41 (h_p1.s1) (fg_in_ix g4) ?_
    obtain ⟨mu6, k5, h⟩ := fg_bdE h
    refine fg_callVv dX1_joinTwo_42 qX1_82 (wX1_startBalloon HX h_f hR k5) rfl (h_f.s0) rfl (Nat.le_of_ble_eq_true rfl) (fg_cr (by first | decide | omega) (by decide)) (fun hR => ?_)
    obtain ⟨t13, k14, h⟩ := fg_bdE h
    refine bs_W.mk [(0, .ref f), (1, .ref p1), (2, .ref p2), (3, .int l3), (4, .int l4), (5, .int s.1), (6, .int s.2.1)] (by intro q hq; simp only [List.mem_cons, List.not_mem_nil, or_false] at hq; rcases hq with rfl | rfl | rfl | rfl | rfl | rfl | rfl <;> rfl) ?_
    refine wFX1_joinTwo_l45_L25 HX h_f h_p1 h_p2 _ _ _ k14 hR ?_
    intro s e hR
    subst e
    refine fg_iinc (m := (nI 1)) dX1_joinTwo_97 rfl rfl (by decide) ?_
    refine bs_goto (tgt := 25) dX1_joinTwo_100 (by decide) ?_
    cases h
    refine bs_W.mk [(0, .ref f), (1, .ref p1), (2, .ref p2), (3, .int l3), (4, .int l4), (5, .int t13.1), (6, .int (s.2.1 + (nI 1)))] (by intro q hq; simp only [List.mem_cons, List.not_mem_nil, or_false] at hq; rcases hq with rfl | rfl | rfl | rfl | rfl | rfl | rfl <;> rfl) (by have k := ka _ rfl hR; dsimp only at k; exact k)
theorem wFX1_joinTwo_l25 {nx : Nat} {sh : bs_Sh} {R : Nat → Nat → Option Nat} {x : Nat} (HX : fg_S (bs_tS x) R x sh) {f : Nat} (h_f : fg_F R sh f) {p1 : Nat} (h_p1 : fg_F R sh p1) {p2 : Nat} (h_p2 : fg_F R sh p2) {l3 : Int32} {l4 : Int32} {Ph : bs_Po} {t : bs_Mm} : ∀ n (y0 : Int32) (y1 : Int32) (mu1 : bs_Mm), fg_lp (FX1_joinTwo_b25 x f p1 p2 l3 l4) n (y0, y1, mu1) = some t → fg_R R mu1 → (ke : ∀ s, t = s → fg_R R s → bs_W Ph mX1_joinTwo (bs_rm 2 0 0) 103 (bs_mk [(0, .ref f), (1, .ref p1), (2, .ref p2), (3, .int l3), (4, .int l4)]) [] 0 0 nx sh s) → bs_W Ph mX1_joinTwo (bs_rm 2 0 0) 25 (bs_mk [(0, .ref f), (1, .ref p1), (2, .ref p2), (3, .int l3), (4, .int l4), (5, .int y0), (6, .int y1)]) [] 0 0 nx sh mu1 := by
  intro n
  induction n with
  | zero => intro y0 y1 mu1 h; exact absurd h (fun z => fg_lp0 z)
  | succ n ih =>
    intro y0 y1 mu1 h hR ke
    obtain ⟨r, hb, h1, h2⟩ := fg_lpE h
    exact wFX1_joinTwo_b25 (s := (y0, y1, mu1)) HX h_f h_p1 h_p2 (fun s' e hR' => ih s'.1 s'.2.1 s'.2.2 (h1 s' e) hR' ke) (fun s' e => ke s' (h2 _ e).symm) hR hb
noncomputable def FX1_joinTwo_b129_L109 (x : Nat) (f : Nat) (p1 : Nat) (p2 : Nat)  (l3 : Int32) (l4 : Int32) (l6 : Int32) (s : Int32 × bs_Mm) : Option ((Int32 × bs_Mm) ⊕ (Int32 × bs_Mm)) :=
  if (bs_iv (s.2 p2 7)) ≤ s.1 then (
    some (.inr (s.1, s.2))
  ) else (
    fg_gd (fg_in s.1 24) (
    if (bs_iv (s.2 (p2 + 5) s.1.toNatClampNeg)) = l6 then (
      fg_gd (fg_in s.1 24) (
      fg_bd (FX1_joinedNumber x s.2 (bs_iv (s.2 (p2 + 3) s.1.toNatClampNeg)) (bs_iv (s.2 p1 8)) l3 l4) (fun v23 => 
      fg_gd (fg_in s.1 24) (
      fg_bd (FX1_joinedNumber x s.2 (bs_iv (s.2 (p2 + 4) s.1.toNatClampNeg)) (bs_iv (s.2 p1 8)) l3 l4) (fun v26 => 
      fg_gd (fg_in s.1 24) (
      fg_bd (FX1_makeBubble x f s.2 (bs_iv (s.2 (p2 + 2) s.1.toNatClampNeg)) v23 v26) (fun mu29 => 
      some (.inl ((s.1 + (nI 1)), mu29))))))))
    ) else (
      some (.inr (s.1, s.2))
    ))
  )
set_option maxHeartbeats 4000000 in
theorem wFX1_joinTwo_b129_L109 {nx : Nat} {sh : bs_Sh} {R : Nat → Nat → Option Nat} {x : Nat} (HX : fg_S (bs_tS x) R x sh) {f : Nat} (h_f : fg_F R sh f) {p1 : Nat} (h_p1 : fg_F R sh p1) {p2 : Nat} (h_p2 : fg_F R sh p2) {l3 : Int32} {l4 : Int32} {l6 : Int32} {Ph : bs_Po} {s : Int32 × bs_Mm} {r : (Int32 × bs_Mm) ⊕ (Int32 × bs_Mm)} (ka : ∀ s, r = .inl s → fg_R R s.2 → bs_W Ph mX1_joinTwo (bs_rm 2 0 0) 129 (bs_mk [(0, .ref f), (1, .ref p1), (2, .ref p2), (3, .int l3), (4, .int l4), (5, .int s.1), (6, .int l6)]) [] 0 0 nx sh s.2) (ke : ∀ s, r = .inr s → fg_R R s.2 → bs_W Ph mX1_joinTwo (bs_rm 2 0 0) 209 (bs_mk [(0, .ref f), (1, .ref p1), (2, .ref p2), (3, .int l3), (4, .int l4), (5, .int s.1), (6, .int l6)]) [] 0 0 nx sh s.2) (hR : fg_R R s.2) (h : FX1_joinTwo_b129_L109 x f p1 p2 l3 l4 l6 s = some r) : bs_W Ph mX1_joinTwo (bs_rm 2 0 0) 129 (bs_mk [(0, .ref f), (1, .ref p1), (2, .ref p2), (3, .int l3), (4, .int l4), (5, .int s.1), (6, .int l6)]) [] 0 0 nx sh s.2 := by
  unfold FX1_joinTwo_b129_L109 at h
  refine bs_iload dX1_joinTwo_129 rfl ?_
  refine bs_aload_n dX1_joinTwo_131 rfl ?_
  refine bs_getI dX1_joinTwo_132 fX1_40 (h_p2.s0) ?_
  refine bs_icmp_ge (tgt := 209) dX1_joinTwo_135 (by decide) (fun c => ?_) (fun c => ?_)
  · replace h := fg_ip c h
    cases h
    refine bs_W.mk [(0, .ref f), (1, .ref p1), (2, .ref p2), (3, .int l3), (4, .int l4), (5, .int s.1), (6, .int l6)] (by intro q hq; simp only [List.mem_cons, List.not_mem_nil, or_false] at hq; rcases hq with rfl | rfl | rfl | rfl | rfl | rfl | rfl <;> rfl) (ke _ rfl hR)
  · replace h := fg_iN c h
    refine bs_aload_n dX1_joinTwo_138 rfl ?_
    refine fg_getR (b := (p2 + 5)) dX1_joinTwo_139 fX1_24 (h_p2.s0) hR (h_p2.r4) ?_
    refine bs_iload dX1_joinTwo_142 rfl ?_
    obtain ⟨g20, h⟩ := fg_gdE h
    refine bs_iald dX1_joinTwo_144 (h_p2.s5) (fg_in_ix g20) ?_
    refine bs_iload dX1_joinTwo_145 rfl ?_
    refine bs_icmp_ne (tgt := 209) dX1_joinTwo_147 (by decide) (fun c => ?_) (fun c => ?_)
    · replace h := fg_iN c h
      cases h
      refine bs_W.mk [(0, .ref f), (1, .ref p1), (2, .ref p2), (3, .int l3), (4, .int l4), (5, .int s.1), (6, .int l6)] (by intro q hq; simp only [List.mem_cons, List.not_mem_nil, or_false] at hq; rcases hq with rfl | rfl | rfl | rfl | rfl | rfl | rfl <;> rfl) (ke _ rfl hR)
    · replace h := fg_ip c h
      refine bs_aload_n dX1_joinTwo_150 rfl ?_
      refine fg_getR (b := (p2 + 3)) dX1_joinTwo_151 fX1_18 (h_p2.s0) hR (h_p2.r2) ?_
      refine bs_iload dX1_joinTwo_154 rfl ?_
      obtain ⟨g21, h⟩ := fg_gdE h
      refine bs_iald dX1_joinTwo_156 (h_p2.s3) (fg_in_ix g21) ?_
      refine bs_aload_n dX1_joinTwo_157 rfl ?_
      refine bs_getI dX1_joinTwo_158 fX1_43 (h_p1.s0) ?_
      refine bs_iload_n dX1_joinTwo_161 rfl ?_
      refine bs_iload dX1_joinTwo_162 rfl ?_
      obtain ⟨v23, k22, h⟩ := fg_bdE h
      refine fg_callS dX1_joinTwo_164 qX1_94 (wX1_joinedNumber HX hR k22) rfl rfl (Nat.le_of_ble_eq_true rfl) (fg_cr (by first | decide | omega) (by decide)) (fun hR => ?_)
      refine bs_istore dX1_joinTwo_167 rfl (by decide) ?_
      refine bs_aload_n dX1_joinTwo_169 rfl ?_
      refine fg_getR (b := (p2 + 4)) dX1_joinTwo_170 fX1_21 (h_p2.s0) hR (h_p2.r3) ?_
      refine bs_iload dX1_joinTwo_173 rfl ?_
      obtain ⟨g24, h⟩ := fg_gdE h
      refine bs_iald dX1_joinTwo_175 (h_p2.s4) (fg_in_ix g24) ?_
      refine bs_aload_n dX1_joinTwo_176 rfl ?_
      refine bs_getI dX1_joinTwo_177 fX1_43 (h_p1.s0) ?_
      refine bs_iload_n dX1_joinTwo_180 rfl ?_
      refine bs_iload dX1_joinTwo_181 rfl ?_
      obtain ⟨v26, k25, h⟩ := fg_bdE h
      refine fg_callS dX1_joinTwo_183 qX1_94 (wX1_joinedNumber HX hR k25) rfl rfl (Nat.le_of_ble_eq_true rfl) (fg_cr (by first | decide | omega) (by decide)) (fun hR => ?_)
      refine bs_istore dX1_joinTwo_186 rfl (by decide) ?_
      refine bs_aload_n dX1_joinTwo_188 rfl ?_
      refine bs_aload_n dX1_joinTwo_189 rfl ?_
      refine fg_getR (b := (p2 + 2)) dX1_joinTwo_190 fX1_15 (h_p2.s0) hR (h_p2.r1) ?_
      refine bs_iload dX1_joinTwo_193 rfl ?_
      obtain ⟨g27, h⟩ := fg_gdE h
      refine bs_iald dX1_joinTwo_195 (h_p2.s2) (fg_in_ix g27) ?_
      refine bs_iload dX1_joinTwo_196 rfl ?_
      refine bs_iload dX1_joinTwo_198 rfl ?_
      obtain ⟨mu29, k28, h⟩ := fg_bdE h
      refine fg_callVv dX1_joinTwo_200 qX1_90 (wX1_makeBubble HX h_f hR k28) rfl (h_f.s0) rfl (Nat.le_of_ble_eq_true rfl) (fg_cr (by first | decide | omega) (by decide)) (fun hR => ?_)
      refine fg_iinc (m := (nI 1)) dX1_joinTwo_203 rfl rfl (by decide) ?_
      refine bs_goto (tgt := 129) dX1_joinTwo_206 (by decide) ?_
      cases h
      refine bs_W.mk [(0, .ref f), (1, .ref p1), (2, .ref p2), (3, .int l3), (4, .int l4), (5, .int (s.1 + (nI 1))), (6, .int l6)] (by intro q hq; simp only [List.mem_cons, List.not_mem_nil, or_false] at hq; rcases hq with rfl | rfl | rfl | rfl | rfl | rfl | rfl <;> rfl) (by have k := ka _ rfl hR; dsimp only at k; exact k)
theorem wFX1_joinTwo_l129_L109 {nx : Nat} {sh : bs_Sh} {R : Nat → Nat → Option Nat} {x : Nat} (HX : fg_S (bs_tS x) R x sh) {f : Nat} (h_f : fg_F R sh f) {p1 : Nat} (h_p1 : fg_F R sh p1) {p2 : Nat} (h_p2 : fg_F R sh p2) {l3 : Int32} {l4 : Int32} {l6 : Int32} {Ph : bs_Po} {t : Int32 × bs_Mm} : ∀ n (y0 : Int32) (mu1 : bs_Mm), fg_lp (FX1_joinTwo_b129_L109 x f p1 p2 l3 l4 l6) n (y0, mu1) = some t → fg_R R mu1 → (ke : ∀ s, t = s → fg_R R s.2 → bs_W Ph mX1_joinTwo (bs_rm 2 0 0) 209 (bs_mk [(0, .ref f), (1, .ref p1), (2, .ref p2), (3, .int l3), (4, .int l4), (5, .int s.1), (6, .int l6)]) [] 0 0 nx sh s.2) → bs_W Ph mX1_joinTwo (bs_rm 2 0 0) 129 (bs_mk [(0, .ref f), (1, .ref p1), (2, .ref p2), (3, .int l3), (4, .int l4), (5, .int y0), (6, .int l6)]) [] 0 0 nx sh mu1 := by
  intro n
  induction n with
  | zero => intro y0 mu1 h; exact absurd h (fun z => fg_lp0 z)
  | succ n ih =>
    intro y0 mu1 h hR ke
    obtain ⟨r, hb, h1, h2⟩ := fg_lpE h
    exact wFX1_joinTwo_b129_L109 (s := (y0, mu1)) HX h_f h_p1 h_p2 (fun s' e hR' => ih s'.1 s'.2 (h1 s' e) hR' ke) (fun s' e => ke s' (h2 _ e).symm) hR hb
noncomputable def FX1_joinTwo_b109 (x : Nat) (f : Nat) (p1 : Nat) (p2 : Nat)  (l3 : Int32) (l4 : Int32) (s : Int32 × Int32 × bs_Mm) : Option ((Int32 × Int32 × bs_Mm) ⊕ (bs_Mm)) :=
  if (bs_iv (s.2.2 p2 6)) ≤ s.2.1 then (
    some (.inr s.2.2)
  ) else (
    fg_gd (fg_in s.2.1 6) (
    fg_bd (FX1_startBalloon x f s.2.2 (bs_iv (s.2.2 (p2 + 1) s.2.1.toNatClampNeg))) (fun mu19 => 
    fg_bd (fg_lp (FX1_joinTwo_b129_L109 x f p1 p2 l3 l4 s.2.1) fg_fu (s.1, mu19)) (fun t30 => 
      some (.inl (t30.1, (s.2.1 + (nI 1)), t30.2))
    )))
  )
set_option maxHeartbeats 4000000 in
theorem wFX1_joinTwo_b109 {nx : Nat} {sh : bs_Sh} {R : Nat → Nat → Option Nat} {x : Nat} (HX : fg_S (bs_tS x) R x sh) {f : Nat} (h_f : fg_F R sh f) {p1 : Nat} (h_p1 : fg_F R sh p1) {p2 : Nat} (h_p2 : fg_F R sh p2) {l3 : Int32} {l4 : Int32} {Ph : bs_Po} {s : Int32 × Int32 × bs_Mm} {r : (Int32 × Int32 × bs_Mm) ⊕ (bs_Mm)} (ka : ∀ s, r = .inl s → fg_R R s.2.2 → bs_W Ph mX1_joinTwo (bs_rm 2 0 0) 109 (bs_mk [(0, .ref f), (1, .ref p1), (2, .ref p2), (3, .int l3), (4, .int l4), (5, .int s.1), (6, .int s.2.1)]) [] 0 0 nx sh s.2.2) (ke : ∀ s, r = .inr s → fg_R R s → bs_W Ph mX1_joinTwo (bs_rm 2 0 0) 215 (bs_mk [(0, .ref f), (1, .ref p1), (2, .ref p2), (3, .int l3), (4, .int l4)]) [] 0 0 nx sh s) (hR : fg_R R s.2.2) (h : FX1_joinTwo_b109 x f p1 p2 l3 l4 s = some r) : bs_W Ph mX1_joinTwo (bs_rm 2 0 0) 109 (bs_mk [(0, .ref f), (1, .ref p1), (2, .ref p2), (3, .int l3), (4, .int l4), (5, .int s.1), (6, .int s.2.1)]) [] 0 0 nx sh s.2.2 := by
  unfold FX1_joinTwo_b109 at h
  refine bs_iload dX1_joinTwo_109 rfl ?_
  refine bs_aload_n dX1_joinTwo_111 rfl ?_
  refine bs_getI dX1_joinTwo_112 fX1_36 (h_p2.s0) ?_
  refine bs_icmp_ge (tgt := 215) dX1_joinTwo_115 (by decide) (fun c => ?_) (fun c => ?_)
  · replace h := fg_ip c h
    cases h
    refine bs_W.mk [(0, .ref f), (1, .ref p1), (2, .ref p2), (3, .int l3), (4, .int l4)] (by intro q hq; simp only [List.mem_cons, List.not_mem_nil, or_false] at hq; rcases hq with rfl | rfl | rfl | rfl | rfl <;> rfl) (ke _ rfl hR)
  · replace h := fg_iN c h
    refine bs_aload_n dX1_joinTwo_118 rfl ?_
    refine bs_aload_n dX1_joinTwo_119 rfl ?_
    refine fg_getR (b := (p2 + 1)) dX1_joinTwo_120 fX1_9 (h_p2.s0) hR (h_p2.r0) ?_
    refine bs_iload dX1_joinTwo_123 rfl ?_
    obtain ⟨g17, h⟩ := fg_gdE h
    refine bs_iald dX1_joinTwo_125 (h_p2.s1) (fg_in_ix g17) ?_
    obtain ⟨mu19, k18, h⟩ := fg_bdE h
    refine fg_callVv dX1_joinTwo_126 qX1_82 (wX1_startBalloon HX h_f hR k18) rfl (h_f.s0) rfl (Nat.le_of_ble_eq_true rfl) (fg_cr (by first | decide | omega) (by decide)) (fun hR => ?_)
    obtain ⟨t30, k31, h⟩ := fg_bdE h
    refine bs_W.mk [(0, .ref f), (1, .ref p1), (2, .ref p2), (3, .int l3), (4, .int l4), (5, .int s.1), (6, .int s.2.1)] (by intro q hq; simp only [List.mem_cons, List.not_mem_nil, or_false] at hq; rcases hq with rfl | rfl | rfl | rfl | rfl | rfl | rfl <;> rfl) ?_
    refine wFX1_joinTwo_l129_L109 HX h_f h_p1 h_p2 _ _ _ k31 hR ?_
    intro s e hR
    subst e
    refine fg_iinc (m := (nI 1)) dX1_joinTwo_209 rfl rfl (by decide) ?_
    refine bs_goto (tgt := 109) dX1_joinTwo_212 (by decide) ?_
    cases h
    refine bs_W.mk [(0, .ref f), (1, .ref p1), (2, .ref p2), (3, .int l3), (4, .int l4), (5, .int t30.1), (6, .int (s.2.1 + (nI 1)))] (by intro q hq; simp only [List.mem_cons, List.not_mem_nil, or_false] at hq; rcases hq with rfl | rfl | rfl | rfl | rfl | rfl | rfl <;> rfl) (by have k := ka _ rfl hR; dsimp only at k; exact k)
theorem wFX1_joinTwo_l109 {nx : Nat} {sh : bs_Sh} {R : Nat → Nat → Option Nat} {x : Nat} (HX : fg_S (bs_tS x) R x sh) {f : Nat} (h_f : fg_F R sh f) {p1 : Nat} (h_p1 : fg_F R sh p1) {p2 : Nat} (h_p2 : fg_F R sh p2) {l3 : Int32} {l4 : Int32} {Ph : bs_Po} {t : bs_Mm} : ∀ n (y0 : Int32) (y1 : Int32) (mu1 : bs_Mm), fg_lp (FX1_joinTwo_b109 x f p1 p2 l3 l4) n (y0, y1, mu1) = some t → fg_R R mu1 → (ke : ∀ s, t = s → fg_R R s → bs_W Ph mX1_joinTwo (bs_rm 2 0 0) 215 (bs_mk [(0, .ref f), (1, .ref p1), (2, .ref p2), (3, .int l3), (4, .int l4)]) [] 0 0 nx sh s) → bs_W Ph mX1_joinTwo (bs_rm 2 0 0) 109 (bs_mk [(0, .ref f), (1, .ref p1), (2, .ref p2), (3, .int l3), (4, .int l4), (5, .int y0), (6, .int y1)]) [] 0 0 nx sh mu1 := by
  intro n
  induction n with
  | zero => intro y0 y1 mu1 h; exact absurd h (fun z => fg_lp0 z)
  | succ n ih =>
    intro y0 y1 mu1 h hR ke
    obtain ⟨r, hb, h1, h2⟩ := fg_lpE h
    exact wFX1_joinTwo_b109 (s := (y0, y1, mu1)) HX h_f h_p1 h_p2 (fun s' e hR' => ih s'.1 s'.2.1 s'.2.2 (h1 s' e) hR' ke) (fun s' e => ke s' (h2 _ e).symm) hR hb
noncomputable def FX1_joinTwo (x : Nat) (f : Nat) (mu : bs_Mm) (p1 : Nat) (p2 : Nat) (p3 : Int32) (p4 : Int32) : Option (bs_Mm) :=
  fg_bd (FX1_clear x f mu) (fun mu2 => 
  fg_wr mu2 f 8 (.int (((bs_iv (mu2 p1 8)) + (bs_iv (mu2 p2 8))) - (nI 1))) (fun mu3 => 
  fg_bd (fg_lp (FX1_joinTwo_b25 x f p1 p2 p3 p4) fg_fu ((nI 0), (nI 0), mu3)) (fun t15 => 
    fg_bd (fg_lp (FX1_joinTwo_b109 x f p1 p2 p3 p4) fg_fu ((nI 0), (nI 0), t15)) (fun t32 => 
      some t32
    )
  )))
set_option maxHeartbeats 4000000 in
theorem wX1_joinTwo {nx : Nat} {sh : bs_Sh} {R : Nat → Nat → Option Nat} {x : Nat} (HX : fg_S (bs_tS x) R x sh) {f : Nat} (h_f : fg_F R sh f) {p1 : Nat} (h_p1 : fg_F R sh p1) {p2 : Nat} (h_p2 : fg_F R sh p2) {mu : bs_Mm} (hR : fg_R R mu) {p3 : Int32} {p4 : Int32} {r : bs_Mm} (h : FX1_joinTwo x f mu p1 p2 p3 p4 = some r) : bs_C mX1_joinTwo (bs_rm 2 0 0) [.ref f, .ref p1, .ref p2, .int p3, .int p4] nx sh mu (fg_po R nx sh none r) := by
  refine bs_ct (by decide +kernel) (Nat.le_of_ble_eq_true rfl) ?_
  have kr : ∀ q, r = q → fg_R R q → (fg_po R nx sh none r) none nx sh q := fun q e hq => by subst e; exact ⟨rfl, rfl, rfl, rfl, hq⟩
  unfold FX1_joinTwo at h
  refine bs_aload_n dX1_joinTwo_0 rfl ?_
  obtain ⟨mu2, k1, h⟩ := fg_bdE h
  refine fg_callVv dX1_joinTwo_1 qX1_76 (wX1_clear HX h_f hR k1) rfl (h_f.s0) rfl (Nat.le_of_ble_eq_true rfl) (fg_cr (by first | decide | omega) (by decide)) (fun hR => ?_)
  refine bs_aload_n dX1_joinTwo_4 rfl ?_
  refine bs_aload_n dX1_joinTwo_5 rfl ?_
  refine bs_getI dX1_joinTwo_6 fX1_43 (h_p1.s0) ?_
  refine bs_aload_n dX1_joinTwo_9 rfl ?_
  refine bs_getI dX1_joinTwo_10 fX1_43 (h_p2.s0) ?_
  refine bs_iadd dX1_joinTwo_13 ?_
  refine bs_iconst (v := (nI 1)) dX1_joinTwo_14 (by decide) ?_
  refine bs_isub dX1_joinTwo_15 ?_
  refine fg_putI dX1_joinTwo_16 pX1_43 (h_f.s0) (h_f.n8) hR h (fun mu3 hR h => ?_)
  refine bs_iconst (v := (nI 0)) dX1_joinTwo_19 (by decide) ?_
  refine bs_istore dX1_joinTwo_20 rfl (by decide) ?_
  refine bs_iconst (v := (nI 0)) dX1_joinTwo_22 (by decide) ?_
  refine bs_istore dX1_joinTwo_23 rfl (by decide) ?_
  obtain ⟨t15, k16, h⟩ := fg_bdE h
  refine bs_W.mk [(0, .ref f), (1, .ref p1), (2, .ref p2), (3, .int p3), (4, .int p4), (5, .int (nI 0)), (6, .int (nI 0))] (by intro q hq; simp only [List.mem_cons, List.not_mem_nil, or_false] at hq; rcases hq with rfl | rfl | rfl | rfl | rfl | rfl | rfl <;> rfl) ?_
  refine wFX1_joinTwo_l25 HX h_f h_p1 h_p2 _ _ _ _ k16 hR ?_
  intro s e hR
  subst e
  refine bs_iconst (v := (nI 0)) dX1_joinTwo_103 (by decide) ?_
  refine bs_istore dX1_joinTwo_104 rfl (by decide) ?_
  refine bs_iconst (v := (nI 0)) dX1_joinTwo_106 (by decide) ?_
  refine bs_istore dX1_joinTwo_107 rfl (by decide) ?_
  obtain ⟨t32, k33, h⟩ := fg_bdE h
  refine bs_W.mk [(0, .ref f), (1, .ref p1), (2, .ref p2), (3, .int p3), (4, .int p4), (5, .int (nI 0)), (6, .int (nI 0))] (by intro q hq; simp only [List.mem_cons, List.not_mem_nil, or_false] at hq; rcases hq with rfl | rfl | rfl | rfl | rfl | rfl | rfl <;> rfl) ?_
  refine wFX1_joinTwo_l109 HX h_f h_p1 h_p2 _ _ _ _ k33 hR ?_
  intro s e hR
  subst e
  cases h
  exact bs_vret dX1_joinTwo_215 rfl (Nat.zero_le _) (Nat.zero_le _) (kr _ rfl hR)
