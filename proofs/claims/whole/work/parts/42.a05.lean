noncomputable def FX1_numberAnew_b4 (x : Nat) (p0 : Nat)  (l1 : Int32) (s : Int32 × Int32 × bs_Mm) : Option ((Int32 × Int32 × bs_Mm) ⊕ (Int32 × bs_Mm)) :=
  if l1 ≤ s.2.1 then (
    some (.inr (s.1, s.2.2))
  ) else (
    fg_gd (fg_in s.2.1 30) (
    if (bs_iv (s.2.2 p0 s.2.1.toNatClampNeg)) = (-1) then (
      some (.inl (s.1, (s.2.1 + (nI 1)), s.2.2))
    ) else (
      fg_gd (fg_in s.2.1 30) (
      fg_wr s.2.2 p0 s.2.1.toNatClampNeg (.int s.1) (fun mu3 => 
      some (.inl ((s.1 + (nI 1)), (s.2.1 + (nI 1)), mu3))))
    ))
  )
set_option maxHeartbeats 4000000 in
theorem wFX1_numberAnew_b4 {nx : Nat} {sh : bs_Sh} {R : Nat → Nat → Option Nat} {x : Nat} (HX : fg_S (bs_tS x) R x sh) {p0 : Nat} (h_p0 : fg_A R sh p0 30) {l1 : Int32} {Ph : bs_Po} {s : Int32 × Int32 × bs_Mm} {r : (Int32 × Int32 × bs_Mm) ⊕ (Int32 × bs_Mm)} (ka : ∀ s, r = .inl s → fg_R R s.2.2 → bs_W Ph mX1_numberAnew (bs_rm 0 0 0) 4 (bs_mk [(0, .ref p0), (1, .int l1), (2, .int s.1), (3, .int s.2.1)]) [] 0 0 nx sh s.2.2) (ke : ∀ s, r = .inr s → fg_R R s.2 → bs_W Ph mX1_numberAnew (bs_rm 0 0 0) 29 (bs_mk [(0, .ref p0), (1, .int l1), (2, .int s.1)]) [] 0 0 nx sh s.2) (hR : fg_R R s.2.2) (h : FX1_numberAnew_b4 x p0 l1 s = some r) : bs_W Ph mX1_numberAnew (bs_rm 0 0 0) 4 (bs_mk [(0, .ref p0), (1, .int l1), (2, .int s.1), (3, .int s.2.1)]) [] 0 0 nx sh s.2.2 := by
  unfold FX1_numberAnew_b4 at h
  refine bs_iload_n dX1_numberAnew_4 rfl ?_
  refine bs_iload_n dX1_numberAnew_5 rfl ?_
  refine bs_icmp_ge (tgt := 29) dX1_numberAnew_6 (by decide) (fun c => ?_) (fun c => ?_)
  · replace h := fg_ip c h
    cases h
    refine bs_W.mk [(0, .ref p0), (1, .int l1), (2, .int s.1)] (by intro q hq; simp only [List.mem_cons, List.not_mem_nil, or_false] at hq; rcases hq with rfl | rfl | rfl <;> rfl) (ke _ rfl hR)
  · replace h := fg_iN c h
    refine bs_aload_n dX1_numberAnew_9 rfl ?_
    refine bs_iload_n dX1_numberAnew_10 rfl ?_
    obtain ⟨g1, h⟩ := fg_gdE h
    refine bs_iald dX1_numberAnew_11 (h_p0.1) (fg_in_ix g1) ?_
    refine bs_iconst (v := (-1)) dX1_numberAnew_12 (by decide) ?_
    refine bs_icmp_eq (tgt := 23) dX1_numberAnew_13 (by decide) (fun c => ?_) (fun c => ?_)
    · replace h := fg_ip c h
      refine fg_iinc (m := (nI 1)) dX1_numberAnew_23 rfl rfl (by decide) ?_
      refine bs_goto (tgt := 4) dX1_numberAnew_26 (by decide) ?_
      cases h
      refine bs_W.mk [(0, .ref p0), (1, .int l1), (2, .int s.1), (3, .int (s.2.1 + (nI 1)))] (by intro q hq; simp only [List.mem_cons, List.not_mem_nil, or_false] at hq; rcases hq with rfl | rfl | rfl | rfl <;> rfl) (by have k := ka _ rfl hR; dsimp only at k; exact k)
    · replace h := fg_iN c h
      refine bs_aload_n dX1_numberAnew_16 rfl ?_
      refine bs_iload_n dX1_numberAnew_17 rfl ?_
      refine bs_iload_n dX1_numberAnew_18 rfl ?_
      obtain ⟨g2, h⟩ := fg_gdE h
      refine fg_iast dX1_numberAnew_19 (h_p0.1) (h_p0.2.1) g2 hR h (fun mu3 hR h => ?_)
      refine fg_iinc (m := (nI 1)) dX1_numberAnew_20 rfl rfl (by decide) ?_
      refine fg_iinc (m := (nI 1)) dX1_numberAnew_23 rfl rfl (by decide) ?_
      refine bs_goto (tgt := 4) dX1_numberAnew_26 (by decide) ?_
      cases h
      refine bs_W.mk [(0, .ref p0), (1, .int l1), (2, .int (s.1 + (nI 1))), (3, .int (s.2.1 + (nI 1)))] (by intro q hq; simp only [List.mem_cons, List.not_mem_nil, or_false] at hq; rcases hq with rfl | rfl | rfl | rfl <;> rfl) (by have k := ka _ rfl hR; dsimp only at k; exact k)
theorem wFX1_numberAnew_l4 {nx : Nat} {sh : bs_Sh} {R : Nat → Nat → Option Nat} {x : Nat} (HX : fg_S (bs_tS x) R x sh) {p0 : Nat} (h_p0 : fg_A R sh p0 30) {l1 : Int32} {Ph : bs_Po} {t : Int32 × bs_Mm} : ∀ n (y0 : Int32) (y1 : Int32) (mu1 : bs_Mm), fg_lp (FX1_numberAnew_b4 x p0 l1) n (y0, y1, mu1) = some t → fg_R R mu1 → (ke : ∀ s, t = s → fg_R R s.2 → bs_W Ph mX1_numberAnew (bs_rm 0 0 0) 29 (bs_mk [(0, .ref p0), (1, .int l1), (2, .int s.1)]) [] 0 0 nx sh s.2) → bs_W Ph mX1_numberAnew (bs_rm 0 0 0) 4 (bs_mk [(0, .ref p0), (1, .int l1), (2, .int y0), (3, .int y1)]) [] 0 0 nx sh mu1 := by
  intro n
  induction n with
  | zero => intro y0 y1 mu1 h; exact absurd h (fun z => fg_lp0 z)
  | succ n ih =>
    intro y0 y1 mu1 h hR ke
    obtain ⟨r, hb, h1, h2⟩ := fg_lpE h
    exact wFX1_numberAnew_b4 (s := (y0, y1, mu1)) HX h_p0 (fun s' e hR' => ih s'.1 s'.2.1 s'.2.2 (h1 s' e) hR' ke) (fun s' e => ke s' (h2 _ e).symm) hR hb
noncomputable def FX1_numberAnew (x : Nat) (mu : bs_Mm) (p0 : Nat) (p1 : Int32) : Option (Int32 × bs_Mm) :=
  fg_bd (fg_lp (FX1_numberAnew_b4 x p0 p1) fg_fu ((nI 0), (nI 0), mu)) (fun t4 => 
    some (t4.1, t4.2)
  )
set_option maxHeartbeats 4000000 in
theorem wX1_numberAnew {nx : Nat} {sh : bs_Sh} {R : Nat → Nat → Option Nat} {x : Nat} (HX : fg_S (bs_tS x) R x sh) {p0 : Nat} (h_p0 : fg_A R sh p0 30) {mu : bs_Mm} (hR : fg_R R mu) {p1 : Int32} {r : Int32 × bs_Mm} (h : FX1_numberAnew x mu p0 p1 = some r) : bs_C mX1_numberAnew (bs_rm 0 0 0) [.ref p0, .int p1] nx sh mu (fg_po R nx sh (some (.int r.1)) r.2) := by
  refine bs_ct (by decide +kernel) (Nat.le_of_ble_eq_true rfl) ?_
  have kr : ∀ q, r = q → fg_R R q.2 → (fg_po R nx sh (some (.int r.1)) r.2) (some (.int q.1)) nx sh q.2 := fun q e hq => by subst e; exact ⟨rfl, rfl, rfl, rfl, hq⟩
  unfold FX1_numberAnew at h
  refine bs_iconst (v := (nI 0)) dX1_numberAnew_0 (by decide) ?_
  refine bs_istore_n dX1_numberAnew_1 rfl (by decide) ?_
  refine bs_iconst (v := (nI 0)) dX1_numberAnew_2 (by decide) ?_
  refine bs_istore_n dX1_numberAnew_3 rfl (by decide) ?_
  obtain ⟨t4, k5, h⟩ := fg_bdE h
  refine bs_W.mk [(0, .ref p0), (1, .int p1), (2, .int (nI 0)), (3, .int (nI 0))] (by intro q hq; simp only [List.mem_cons, List.not_mem_nil, or_false] at hq; rcases hq with rfl | rfl | rfl | rfl <;> rfl) ?_
  refine wFX1_numberAnew_l4 HX h_p0 _ _ _ _ k5 hR ?_
  intro s e hR
  subst e
  refine bs_iload_n dX1_numberAnew_29 rfl ?_
  cases h
  exact bs_iret dX1_numberAnew_30 rfl (Nat.zero_le _) (Nat.zero_le _) (kr _ rfl hR)
noncomputable def FX1_closeUp_b11 (x : Nat) (f : Nat) (p1 : Nat)  (l2 : Int32) (s : Int32 × bs_Mm) : Option ((Int32 × bs_Mm) ⊕ (bs_Mm)) :=
  if (bs_iv (s.2 f 8)) ≤ s.1 then (
    some (.inr s.2)
  ) else (
    fg_gd (fg_in s.1 30) (
    if (bs_iv (s.2 p1 s.1.toNatClampNeg)) = (-1) then (
      some (.inl ((s.1 + (nI 1)), s.2))
    ) else (
      fg_gd (fg_in s.1 30) (
      fg_gd (fg_in s.1 30) (
      fg_gd (fg_in (bs_iv (s.2 p1 s.1.toNatClampNeg)) 30) (
      fg_wr s.2 (f + 6) (bs_iv (s.2 p1 s.1.toNatClampNeg)).toNatClampNeg (.int (bs_iv (s.2 (f + 6) s.1.toNatClampNeg))) (fun mu8 => 
      some (.inl ((s.1 + (nI 1)), mu8))))))
    ))
  )
set_option maxHeartbeats 4000000 in
theorem wFX1_closeUp_b11 {nx : Nat} {sh : bs_Sh} {R : Nat → Nat → Option Nat} {x : Nat} (HX : fg_S (bs_tS x) R x sh) {f : Nat} (h_f : fg_F R sh f) {p1 : Nat} (h_p1 : fg_A R sh p1 30) {l2 : Int32} {Ph : bs_Po} {s : Int32 × bs_Mm} {r : (Int32 × bs_Mm) ⊕ (bs_Mm)} (ka : ∀ s, r = .inl s → fg_R R s.2 → bs_W Ph mX1_closeUp (bs_rm 1 0 0) 11 (bs_mk [(0, .ref f), (1, .ref p1), (2, .int l2), (3, .int s.1)]) [] 0 0 nx sh s.2) (ke : ∀ s, r = .inr s → fg_R R s → bs_W Ph mX1_closeUp (bs_rm 1 0 0) 46 (bs_mk [(0, .ref f), (1, .ref p1), (2, .int l2)]) [] 0 0 nx sh s) (hR : fg_R R s.2) (h : FX1_closeUp_b11 x f p1 l2 s = some r) : bs_W Ph mX1_closeUp (bs_rm 1 0 0) 11 (bs_mk [(0, .ref f), (1, .ref p1), (2, .int l2), (3, .int s.1)]) [] 0 0 nx sh s.2 := by
  unfold FX1_closeUp_b11 at h
  refine bs_iload_n dX1_closeUp_11 rfl ?_
  refine bs_aload_n dX1_closeUp_12 rfl ?_
  refine bs_getI dX1_closeUp_13 fX1_43 (h_f.s0) ?_
  refine bs_icmp_ge (tgt := 46) dX1_closeUp_16 (by decide) (fun c => ?_) (fun c => ?_)
  · replace h := fg_ip c h
    cases h
    refine bs_W.mk [(0, .ref f), (1, .ref p1), (2, .int l2)] (by intro q hq; simp only [List.mem_cons, List.not_mem_nil, or_false] at hq; rcases hq with rfl | rfl | rfl <;> rfl) (ke _ rfl hR)
  · replace h := fg_iN c h
    refine bs_aload_n dX1_closeUp_19 rfl ?_
    refine bs_iload_n dX1_closeUp_20 rfl ?_
    obtain ⟨g4, h⟩ := fg_gdE h
    refine bs_iald dX1_closeUp_21 (h_p1.1) (fg_in_ix g4) ?_
    refine bs_iconst (v := (-1)) dX1_closeUp_22 (by decide) ?_
    refine bs_icmp_eq (tgt := 40) dX1_closeUp_23 (by decide) (fun c => ?_) (fun c => ?_)
    · replace h := fg_ip c h
      refine fg_iinc (m := (nI 1)) dX1_closeUp_40 rfl rfl (by decide) ?_
      refine bs_goto (tgt := 11) dX1_closeUp_43 (by decide) ?_
      cases h
      refine bs_W.mk [(0, .ref f), (1, .ref p1), (2, .int l2), (3, .int (s.1 + (nI 1)))] (by intro q hq; simp only [List.mem_cons, List.not_mem_nil, or_false] at hq; rcases hq with rfl | rfl | rfl | rfl <;> rfl) (by have k := ka _ rfl hR; dsimp only at k; exact k)
    · replace h := fg_iN c h
      refine bs_aload_n dX1_closeUp_26 rfl ?_
      refine fg_getR (b := (f + 6)) dX1_closeUp_27 fX1_27 (h_f.s0) hR (h_f.r5) ?_
      refine bs_aload_n dX1_closeUp_30 rfl ?_
      refine bs_iload_n dX1_closeUp_31 rfl ?_
      obtain ⟨g5, h⟩ := fg_gdE h
      refine bs_iald dX1_closeUp_32 (h_p1.1) (fg_in_ix g5) ?_
      refine bs_aload_n dX1_closeUp_33 rfl ?_
      refine fg_getR (b := (f + 6)) dX1_closeUp_34 fX1_27 (h_f.s0) hR (h_f.r5) ?_
      refine bs_iload_n dX1_closeUp_37 rfl ?_
      obtain ⟨g6, h⟩ := fg_gdE h
      refine bs_iald dX1_closeUp_38 (h_f.s6) (fg_in_ix g6) ?_
      obtain ⟨g7, h⟩ := fg_gdE h
      refine fg_iast dX1_closeUp_39 (h_f.s6) (h_f.j6) g7 hR h (fun mu8 hR h => ?_)
      refine fg_iinc (m := (nI 1)) dX1_closeUp_40 rfl rfl (by decide) ?_
      refine bs_goto (tgt := 11) dX1_closeUp_43 (by decide) ?_
      cases h
      refine bs_W.mk [(0, .ref f), (1, .ref p1), (2, .int l2), (3, .int (s.1 + (nI 1)))] (by intro q hq; simp only [List.mem_cons, List.not_mem_nil, or_false] at hq; rcases hq with rfl | rfl | rfl | rfl <;> rfl) (by have k := ka _ rfl hR; dsimp only at k; exact k)
theorem wFX1_closeUp_l11 {nx : Nat} {sh : bs_Sh} {R : Nat → Nat → Option Nat} {x : Nat} (HX : fg_S (bs_tS x) R x sh) {f : Nat} (h_f : fg_F R sh f) {p1 : Nat} (h_p1 : fg_A R sh p1 30) {l2 : Int32} {Ph : bs_Po} {t : bs_Mm} : ∀ n (y0 : Int32) (mu1 : bs_Mm), fg_lp (FX1_closeUp_b11 x f p1 l2) n (y0, mu1) = some t → fg_R R mu1 → (ke : ∀ s, t = s → fg_R R s → bs_W Ph mX1_closeUp (bs_rm 1 0 0) 46 (bs_mk [(0, .ref f), (1, .ref p1), (2, .int l2)]) [] 0 0 nx sh s) → bs_W Ph mX1_closeUp (bs_rm 1 0 0) 11 (bs_mk [(0, .ref f), (1, .ref p1), (2, .int l2), (3, .int y0)]) [] 0 0 nx sh mu1 := by
  intro n
  induction n with
  | zero => intro y0 mu1 h; exact absurd h (fun z => fg_lp0 z)
  | succ n ih =>
    intro y0 mu1 h hR ke
    obtain ⟨r, hb, h1, h2⟩ := fg_lpE h
    exact wFX1_closeUp_b11 (s := (y0, mu1)) HX h_f h_p1 (fun s' e hR' => ih s'.1 s'.2 (h1 s' e) hR' ke) (fun s' e => ke s' (h2 _ e).symm) hR hb
noncomputable def FX1_closeUp_b48 (x : Nat) (f : Nat) (p1 : Nat)  (l2 : Int32) (s : Int32 × bs_Mm) : Option ((Int32 × bs_Mm) ⊕ (bs_Mm)) :=
  if (bs_iv (s.2 f 7)) ≤ s.1 then (
    some (.inr s.2)
  ) else (
    fg_gd (fg_in s.1 24) (
    fg_gd (fg_in (bs_iv (s.2 (f + 3) s.1.toNatClampNeg)) 30) (
    fg_gd (fg_in s.1 24) (
    fg_wr s.2 (f + 3) s.1.toNatClampNeg (.int (bs_iv (s.2 p1 (bs_iv (s.2 (f + 3) s.1.toNatClampNeg)).toNatClampNeg))) (fun mu14 => 
    fg_gd (fg_in s.1 24) (
    fg_gd (fg_in (bs_iv (mu14 (f + 4) s.1.toNatClampNeg)) 30) (
    fg_gd (fg_in s.1 24) (
    fg_wr mu14 (f + 4) s.1.toNatClampNeg (.int (bs_iv (mu14 p1 (bs_iv (mu14 (f + 4) s.1.toNatClampNeg)).toNatClampNeg))) (fun mu18 => 
    some (.inl ((s.1 + (nI 1)), mu18))))))))))
  )
set_option maxHeartbeats 4000000 in
theorem wFX1_closeUp_b48 {nx : Nat} {sh : bs_Sh} {R : Nat → Nat → Option Nat} {x : Nat} (HX : fg_S (bs_tS x) R x sh) {f : Nat} (h_f : fg_F R sh f) {p1 : Nat} (h_p1 : fg_A R sh p1 30) {l2 : Int32} {Ph : bs_Po} {s : Int32 × bs_Mm} {r : (Int32 × bs_Mm) ⊕ (bs_Mm)} (ka : ∀ s, r = .inl s → fg_R R s.2 → bs_W Ph mX1_closeUp (bs_rm 1 0 0) 48 (bs_mk [(0, .ref f), (1, .ref p1), (2, .int l2), (3, .int s.1)]) [] 0 0 nx sh s.2) (ke : ∀ s, r = .inr s → fg_R R s → bs_W Ph mX1_closeUp (bs_rm 1 0 0) 90 (bs_mk [(0, .ref f), (1, .ref p1), (2, .int l2)]) [] 0 0 nx sh s) (hR : fg_R R s.2) (h : FX1_closeUp_b48 x f p1 l2 s = some r) : bs_W Ph mX1_closeUp (bs_rm 1 0 0) 48 (bs_mk [(0, .ref f), (1, .ref p1), (2, .int l2), (3, .int s.1)]) [] 0 0 nx sh s.2 := by
  unfold FX1_closeUp_b48 at h
  refine bs_iload_n dX1_closeUp_48 rfl ?_
  refine bs_aload_n dX1_closeUp_49 rfl ?_
  refine bs_getI dX1_closeUp_50 fX1_40 (h_f.s0) ?_
  refine bs_icmp_ge (tgt := 90) dX1_closeUp_53 (by decide) (fun c => ?_) (fun c => ?_)
  · replace h := fg_ip c h
    cases h
    refine bs_W.mk [(0, .ref f), (1, .ref p1), (2, .int l2)] (by intro q hq; simp only [List.mem_cons, List.not_mem_nil, or_false] at hq; rcases hq with rfl | rfl | rfl <;> rfl) (ke _ rfl hR)
  · replace h := fg_iN c h
    refine bs_aload_n dX1_closeUp_56 rfl ?_
    refine fg_getR (b := (f + 3)) dX1_closeUp_57 fX1_18 (h_f.s0) hR (h_f.r2) ?_
    refine bs_iload_n dX1_closeUp_60 rfl ?_
    refine bs_aload_n dX1_closeUp_61 rfl ?_
    refine bs_aload_n dX1_closeUp_62 rfl ?_
    refine fg_getR (b := (f + 3)) dX1_closeUp_63 fX1_18 (h_f.s0) hR (h_f.r2) ?_
    refine bs_iload_n dX1_closeUp_66 rfl ?_
    obtain ⟨g11, h⟩ := fg_gdE h
    refine bs_iald dX1_closeUp_67 (h_f.s3) (fg_in_ix g11) ?_
    obtain ⟨g12, h⟩ := fg_gdE h
    refine bs_iald dX1_closeUp_68 (h_p1.1) (fg_in_ix g12) ?_
    obtain ⟨g13, h⟩ := fg_gdE h
    refine fg_iast dX1_closeUp_69 (h_f.s3) (h_f.j3) g13 hR h (fun mu14 hR h => ?_)
    refine bs_aload_n dX1_closeUp_70 rfl ?_
    refine fg_getR (b := (f + 4)) dX1_closeUp_71 fX1_21 (h_f.s0) hR (h_f.r3) ?_
    refine bs_iload_n dX1_closeUp_74 rfl ?_
    refine bs_aload_n dX1_closeUp_75 rfl ?_
    refine bs_aload_n dX1_closeUp_76 rfl ?_
    refine fg_getR (b := (f + 4)) dX1_closeUp_77 fX1_21 (h_f.s0) hR (h_f.r3) ?_
    refine bs_iload_n dX1_closeUp_80 rfl ?_
    obtain ⟨g15, h⟩ := fg_gdE h
    refine bs_iald dX1_closeUp_81 (h_f.s4) (fg_in_ix g15) ?_
    obtain ⟨g16, h⟩ := fg_gdE h
    refine bs_iald dX1_closeUp_82 (h_p1.1) (fg_in_ix g16) ?_
    obtain ⟨g17, h⟩ := fg_gdE h
    refine fg_iast dX1_closeUp_83 (h_f.s4) (h_f.j4) g17 hR h (fun mu18 hR h => ?_)
    refine fg_iinc (m := (nI 1)) dX1_closeUp_84 rfl rfl (by decide) ?_
    refine bs_goto (tgt := 48) dX1_closeUp_87 (by decide) ?_
    cases h
    refine bs_W.mk [(0, .ref f), (1, .ref p1), (2, .int l2), (3, .int (s.1 + (nI 1)))] (by intro q hq; simp only [List.mem_cons, List.not_mem_nil, or_false] at hq; rcases hq with rfl | rfl | rfl | rfl <;> rfl) (by have k := ka _ rfl hR; dsimp only at k; exact k)
theorem wFX1_closeUp_l48 {nx : Nat} {sh : bs_Sh} {R : Nat → Nat → Option Nat} {x : Nat} (HX : fg_S (bs_tS x) R x sh) {f : Nat} (h_f : fg_F R sh f) {p1 : Nat} (h_p1 : fg_A R sh p1 30) {l2 : Int32} {Ph : bs_Po} {t : bs_Mm} : ∀ n (y0 : Int32) (mu1 : bs_Mm), fg_lp (FX1_closeUp_b48 x f p1 l2) n (y0, mu1) = some t → fg_R R mu1 → (ke : ∀ s, t = s → fg_R R s → bs_W Ph mX1_closeUp (bs_rm 1 0 0) 90 (bs_mk [(0, .ref f), (1, .ref p1), (2, .int l2)]) [] 0 0 nx sh s) → bs_W Ph mX1_closeUp (bs_rm 1 0 0) 48 (bs_mk [(0, .ref f), (1, .ref p1), (2, .int l2), (3, .int y0)]) [] 0 0 nx sh mu1 := by
  intro n
  induction n with
  | zero => intro y0 mu1 h; exact absurd h (fun z => fg_lp0 z)
  | succ n ih =>
    intro y0 mu1 h hR ke
    obtain ⟨r, hb, h1, h2⟩ := fg_lpE h
    exact wFX1_closeUp_b48 (s := (y0, mu1)) HX h_f h_p1 (fun s' e hR' => ih s'.1 s'.2 (h1 s' e) hR' ke) (fun s' e => ke s' (h2 _ e).symm) hR hb
noncomputable def FX1_closeUp (x : Nat) (f : Nat) (mu : bs_Mm) (p1 : Nat) : Option (bs_Mm) :=
  fg_b2 (FX1_numberAnew x mu p1 (bs_iv (mu f 8))) (fun v3 mu2 => 
  fg_bd (fg_lp (FX1_closeUp_b11 x f p1 v3) fg_fu ((nI 0), mu2)) (fun t9 => 
    fg_bd (fg_lp (FX1_closeUp_b48 x f p1 v3) fg_fu ((nI 0), t9)) (fun t19 => 
      fg_wr t19 f 8 (.int v3) (fun mu21 => 
      some mu21)
    )
  ))
set_option maxHeartbeats 4000000 in
theorem wX1_closeUp {nx : Nat} {sh : bs_Sh} {R : Nat → Nat → Option Nat} {x : Nat} (HX : fg_S (bs_tS x) R x sh) {f : Nat} (h_f : fg_F R sh f) {p1 : Nat} (h_p1 : fg_A R sh p1 30) {mu : bs_Mm} (hR : fg_R R mu) {r : bs_Mm} (h : FX1_closeUp x f mu p1 = some r) : bs_C mX1_closeUp (bs_rm 1 0 0) [.ref f, .ref p1] nx sh mu (fg_po R nx sh none r) := by
  refine bs_ct (by decide +kernel) (Nat.le_of_ble_eq_true rfl) ?_
  have kr : ∀ q, r = q → fg_R R q → (fg_po R nx sh none r) none nx sh q := fun q e hq => by subst e; exact ⟨rfl, rfl, rfl, rfl, hq⟩
  unfold FX1_closeUp at h
  refine bs_aload_n dX1_closeUp_0 rfl ?_
  refine bs_aload_n dX1_closeUp_1 rfl ?_
  refine bs_getI dX1_closeUp_2 fX1_43 (h_f.s0) ?_
  obtain ⟨v3, mu2, k1, h⟩ := fg_b2E h
  refine fg_callS dX1_closeUp_5 qX1_72 (wX1_numberAnew HX h_p1 hR k1) rfl rfl (Nat.le_of_ble_eq_true rfl) (fg_cr (by first | decide | omega) (by decide)) (fun hR => ?_)
  refine bs_istore_n dX1_closeUp_8 rfl (by decide) ?_
  refine bs_iconst (v := (nI 0)) dX1_closeUp_9 (by decide) ?_
  refine bs_istore_n dX1_closeUp_10 rfl (by decide) ?_
  obtain ⟨t9, k10, h⟩ := fg_bdE h
  refine bs_W.mk [(0, .ref f), (1, .ref p1), (2, .int v3), (3, .int (nI 0))] (by intro q hq; simp only [List.mem_cons, List.not_mem_nil, or_false] at hq; rcases hq with rfl | rfl | rfl | rfl <;> rfl) ?_
  refine wFX1_closeUp_l11 HX h_f h_p1 _ _ _ k10 hR ?_
  intro s e hR
  subst e
  refine bs_iconst (v := (nI 0)) dX1_closeUp_46 (by decide) ?_
  refine bs_istore_n dX1_closeUp_47 rfl (by decide) ?_
  obtain ⟨t19, k20, h⟩ := fg_bdE h
  refine bs_W.mk [(0, .ref f), (1, .ref p1), (2, .int v3), (3, .int (nI 0))] (by intro q hq; simp only [List.mem_cons, List.not_mem_nil, or_false] at hq; rcases hq with rfl | rfl | rfl | rfl <;> rfl) ?_
  refine wFX1_closeUp_l48 HX h_f h_p1 _ _ _ k20 hR ?_
  intro s e hR
  subst e
  refine bs_aload_n dX1_closeUp_90 rfl ?_
  refine bs_iload_n dX1_closeUp_91 rfl ?_
  refine fg_putI dX1_closeUp_92 pX1_43 (h_f.s0) (h_f.n8) hR h (fun mu21 hR h => ?_)
  cases h
  exact bs_vret dX1_closeUp_95 rfl (Nat.zero_le _) (Nat.zero_le _) (kr _ rfl hR)
noncomputable def FX2_read_b7 (x : Nat)  (l2 : Int32) (s : Int32 × bs_Mm) : Option ((Int32 × bs_Mm) ⊕ ((bs_Mm) ⊕ (Int32 × bs_Mm))) :=
  if (bs_iv (s.2 (x + 5) 1)) ≤ s.1 then (
    some (.inr (.inl s.2))
  ) else (
    fg_bd (FX10_at x s.2 s.1) (fun v4 => 
    fg_bd (FX10_at x s.2 (s.1 + (nI 1))) (fun v6 => 
    fg_bd (FX11_isDigit x s.2 v6) (fun v8 => 
    fg_b2 (FX2_takes x s.2 v4 v8) (fun v11 mu10 => 
    if v11 = 0 then (
      some (.inr (.inr (s.1, mu10)))
    ) else (
      some (.inl ((s.1 + (nI 1)), mu10))
    )))))
  )
set_option maxHeartbeats 4000000 in
theorem wFX2_read_b7 {nx : Nat} {sh : bs_Sh} {R : Nat → Nat → Option Nat} {x : Nat} (HX : fg_S (bs_tS x) R x sh) {l2 : Int32} {Ph : bs_Po} {s : Int32 × bs_Mm} {r : (Int32 × bs_Mm) ⊕ ((bs_Mm) ⊕ (Int32 × bs_Mm))} (ka : ∀ s, r = .inl s → fg_R R s.2 → bs_W Ph mX2_read (bs_rm 5 0 0) 7 (bs_mk [(0, .ref (x + 9)), (1, .ref (x + 5)), (2, .int l2), (3, .int s.1)]) [] 0 0 nx sh s.2) (ke : ∀ s, r = .inr (.inl s) → fg_R R s → bs_W Ph mX2_read (bs_rm 5 0 0) 45 (bs_mk [(0, .ref (x + 9)), (1, .ref (x + 5)), (2, .int l2)]) [] 0 0 nx sh s) (kr : ∀ q, r = .inr (.inr q) → fg_R R q.2 → Ph (some (.int q.1)) nx sh q.2) (hR : fg_R R s.2) (h : FX2_read_b7 x l2 s = some r) : bs_W Ph mX2_read (bs_rm 5 0 0) 7 (bs_mk [(0, .ref (x + 9)), (1, .ref (x + 5)), (2, .int l2), (3, .int s.1)]) [] 0 0 nx sh s.2 := by
  unfold FX2_read_b7 at h
  refine bs_iload_n dX2_read_7 rfl ?_
  refine bs_aload_n dX2_read_8 rfl ?_
  refine bs_getI dX2_read_9 fX2_32 (HX.s 5 rfl rfl rfl) ?_
  refine bs_icmp_ge (tgt := 45) dX2_read_12 (by decide) (fun c => ?_) (fun c => ?_)
  · replace h := fg_ip c h
    cases h
    refine bs_W.mk [(0, .ref (x + 9)), (1, .ref (x + 5)), (2, .int l2)] (by intro q hq; simp only [List.mem_cons, List.not_mem_nil, or_false] at hq; rcases hq with rfl | rfl | rfl <;> rfl) (ke _ rfl hR)
  · replace h := fg_iN c h
    refine bs_aload_n dX2_read_15 rfl ?_
    refine bs_aload_n dX2_read_16 rfl ?_
    refine bs_iload_n dX2_read_17 rfl ?_
    obtain ⟨v4, k3, h⟩ := fg_bdE h
    refine fg_callV dX2_read_18 qX2_38 (wX10_at HX hR k3) rfl (HX.s 5 rfl rfl rfl) rfl (Nat.le_of_ble_eq_true rfl) (fg_cr (by first | decide | omega) (by decide)) (fun hR => ?_)
    refine bs_aload_n dX2_read_21 rfl ?_
    refine bs_iload_n dX2_read_22 rfl ?_
    refine bs_iconst (v := (nI 1)) dX2_read_23 (by decide) ?_
    refine bs_iadd dX2_read_24 ?_
    obtain ⟨v6, k5, h⟩ := fg_bdE h
    refine fg_callV dX2_read_25 qX2_38 (wX10_at HX hR k5) rfl (HX.s 5 rfl rfl rfl) rfl (Nat.le_of_ble_eq_true rfl) (fg_cr (by first | decide | omega) (by decide)) (fun hR => ?_)
    obtain ⟨v8, k7, h⟩ := fg_bdE h
    refine fg_callSN dX2_read_28 qX2_42 (wX11_isDigit HX hR k7) rfl rfl (Nat.le_of_ble_eq_true rfl) (fg_cr (by first | decide | omega) (by decide)) (fun hR => ?_)
    obtain ⟨v11, mu10, k9, h⟩ := fg_b2E h
    refine fg_callV dX2_read_31 qX2_46 (wX2_takes HX hR k9) rfl (HX.s 9 rfl rfl rfl) rfl (Nat.le_of_ble_eq_true rfl) (fg_cr (by first | decide | omega) (by decide)) (fun hR => ?_)
    refine bs_if_ne (tgt := 39) dX2_read_34 (by decide) (fun c => ?_) (fun c => ?_)
    · replace h := fg_iN c h
      refine fg_iinc (m := (nI 1)) dX2_read_39 rfl rfl (by decide) ?_
      refine bs_goto (tgt := 7) dX2_read_42 (by decide) ?_
      cases h
      refine bs_W.mk [(0, .ref (x + 9)), (1, .ref (x + 5)), (2, .int l2), (3, .int (s.1 + (nI 1)))] (by intro q hq; simp only [List.mem_cons, List.not_mem_nil, or_false] at hq; rcases hq with rfl | rfl | rfl | rfl <;> rfl) (by have k := ka _ rfl hR; dsimp only at k; exact k)
    · replace h := fg_ip c h
      refine bs_iload_n dX2_read_37 rfl ?_
      cases h
      exact bs_iret dX2_read_38 rfl (Nat.zero_le _) (Nat.zero_le _) (kr _ rfl hR)
theorem wFX2_read_l7 {nx : Nat} {sh : bs_Sh} {R : Nat → Nat → Option Nat} {x : Nat} (HX : fg_S (bs_tS x) R x sh) {l2 : Int32} {Ph : bs_Po} {t : (bs_Mm) ⊕ (Int32 × bs_Mm)} : ∀ n (y0 : Int32) (mu1 : bs_Mm), fg_lp (FX2_read_b7 x l2) n (y0, mu1) = some t → fg_R R mu1 → (ke : ∀ s, t = .inl s → fg_R R s → bs_W Ph mX2_read (bs_rm 5 0 0) 45 (bs_mk [(0, .ref (x + 9)), (1, .ref (x + 5)), (2, .int l2)]) [] 0 0 nx sh s) → (kr : ∀ q, t = .inr q → fg_R R q.2 → Ph (some (.int q.1)) nx sh q.2) → bs_W Ph mX2_read (bs_rm 5 0 0) 7 (bs_mk [(0, .ref (x + 9)), (1, .ref (x + 5)), (2, .int l2), (3, .int y0)]) [] 0 0 nx sh mu1 := by
  intro n
  induction n with
  | zero => intro y0 mu1 h; exact absurd h (fun z => fg_lp0 z)
  | succ n ih =>
    intro y0 mu1 h hR ke kr
    obtain ⟨r, hb, h1, h2⟩ := fg_lpE h
    exact wFX2_read_b7 (s := (y0, mu1)) HX (fun s' e hR' => ih s'.1 s'.2 (h1 s' e) hR' ke kr) (fun s' e => ke s' (h2 _ e).symm) (fun q e => kr q (h2 _ e).symm) hR hb
noncomputable def FX2_read (x : Nat) (mu : bs_Mm) (p2 : Int32) : Option (Int32 × bs_Mm) :=
  fg_bd (FX2_begin x mu p2) (fun mu2 => 
  fg_l3 (fg_lp (FX2_read_b7 x p2) fg_fu ((nI 0), mu2)) (fun t12 => 
    if (bs_iv (t12 (x + 9) 5)) = (nI 2) then (
      if (bs_iv (t12 (x + 9) 10)) = 0 then (
        if (bs_iv (t12 (x + 9) 7)) ≤ 0 then (
          fg_bd (FX1_closeUp x (x + 10) t12 (x + 17)) (fun mu15 => 
          some ((-1), mu15))
        ) else (
          some ((bs_iv (t12 (x + 5) 1)), t12)
        )
      ) else (
        some ((bs_iv (t12 (x + 5) 1)), t12)
      )
    ) else (
      some ((bs_iv (t12 (x + 5) 1)), t12)
    )
  ) (fun q16 => some q16))
set_option maxHeartbeats 4000000 in
theorem wX2_read {nx : Nat} {sh : bs_Sh} {R : Nat → Nat → Option Nat} {x : Nat} (HX : fg_S (bs_tS x) R x sh) {mu : bs_Mm} (hR : fg_R R mu) {p2 : Int32} {r : Int32 × bs_Mm} (h : FX2_read x mu p2 = some r) : bs_C mX2_read (bs_rm 5 0 0) [.ref (x + 9), .ref (x + 5), .int p2] nx sh mu (fg_po R nx sh (some (.int r.1)) r.2) := by
  refine bs_ct (by decide +kernel) (Nat.le_of_ble_eq_true rfl) ?_
  have kr : ∀ q, r = q → fg_R R q.2 → (fg_po R nx sh (some (.int r.1)) r.2) (some (.int q.1)) nx sh q.2 := fun q e hq => by subst e; exact ⟨rfl, rfl, rfl, rfl, hq⟩
  unfold FX2_read at h
  refine bs_aload_n dX2_read_0 rfl ?_
  refine bs_iload_n dX2_read_1 rfl ?_
  obtain ⟨mu2, k1, h⟩ := fg_bdE h
  refine fg_callVv dX2_read_2 qX2_28 (wX2_begin HX hR k1) rfl (HX.s 9 rfl rfl rfl) rfl (Nat.le_of_ble_eq_true rfl) (fg_cr (by first | decide | omega) (by decide)) (fun hR => ?_)
  refine bs_iconst (v := (nI 0)) dX2_read_5 (by decide) ?_
  refine bs_istore_n dX2_read_6 rfl (by decide) ?_
  obtain ⟨t120, k13, h1, h2⟩ := fg_l3E h
  refine bs_W.mk [(0, .ref (x + 9)), (1, .ref (x + 5)), (2, .int p2), (3, .int (nI 0))] (by intro q hq; simp only [List.mem_cons, List.not_mem_nil, or_false] at hq; rcases hq with rfl | rfl | rfl | rfl <;> rfl) ?_
  refine wFX2_read_l7 HX _ _ _ k13 hR ?_ ?_
  · intro t12 e hR
    replace h := h1 t12 e
    refine bs_aload_n dX2_read_45 rfl ?_
    refine bs_getI dX2_read_46 fX2_50 (HX.s 9 rfl rfl rfl) ?_
    refine bs_iconst (v := (nI 2)) dX2_read_49 (by decide) ?_
    refine bs_icmp_ne (tgt := 67) dX2_read_50 (by decide) (fun c => ?_) (fun c => ?_)
    · replace h := fg_iN c h
      refine bs_aload_n dX2_read_67 rfl ?_
      refine bs_getI dX2_read_68 fX2_32 (HX.s 5 rfl rfl rfl) ?_
      cases h
      exact bs_iret dX2_read_71 rfl (Nat.zero_le _) (Nat.zero_le _) (kr _ rfl hR)
    · replace h := fg_ip c h
      refine bs_aload_n dX2_read_53 rfl ?_
      refine bs_getI dX2_read_54 fX2_53 (HX.s 9 rfl rfl rfl) ?_
      refine bs_if_ne (tgt := 67) dX2_read_57 (by decide) (fun c => ?_) (fun c => ?_)
      · replace h := fg_iN c h
        refine bs_aload_n dX2_read_67 rfl ?_
        refine bs_getI dX2_read_68 fX2_32 (HX.s 5 rfl rfl rfl) ?_
        cases h
        exact bs_iret dX2_read_71 rfl (Nat.zero_le _) (Nat.zero_le _) (kr _ rfl hR)
      · replace h := fg_ip c h
        refine bs_aload_n dX2_read_60 rfl ?_
        refine bs_getI dX2_read_61 fX2_57 (HX.s 9 rfl rfl rfl) ?_
        refine bs_if_le (tgt := 72) dX2_read_64 (by decide) (fun c => ?_) (fun c => ?_)
        · replace h := fg_ip c h
          refine bs_aload_n dX2_read_72 rfl ?_
          refine fg_getR (b := (x + 10)) dX2_read_73 fX2_12 (HX.s 9 rfl rfl rfl) hR (HX.r 9 0 rfl rfl rfl) ?_
          refine bs_aload_n dX2_read_76 rfl ?_
          refine fg_getR (b := (x + 17)) dX2_read_77 fX2_18 (HX.s 9 rfl rfl rfl) hR (HX.r 9 1 rfl rfl rfl) ?_
          obtain ⟨mu15, k14, h⟩ := fg_bdE h
          refine fg_callVv dX2_read_80 qX2_60 (wX1_closeUp HX (fg_Fd HX) ⟨(HX.ss 17 rfl rfl), (fun j => HX.n 17 j rfl rfl rfl), by decide⟩ hR k14) rfl (HX.s 10 rfl rfl rfl) rfl (Nat.le_of_ble_eq_true rfl) (fg_cr (by first | decide | omega) (by decide)) (fun hR => ?_)
          refine bs_iconst (v := (-1)) dX2_read_83 (by decide) ?_
          cases h
          exact bs_iret dX2_read_84 rfl (Nat.zero_le _) (Nat.zero_le _) (kr _ rfl hR)
        · replace h := fg_iN c h
          refine bs_aload_n dX2_read_67 rfl ?_
          refine bs_getI dX2_read_68 fX2_32 (HX.s 5 rfl rfl rfl) ?_
          cases h
          exact bs_iret dX2_read_71 rfl (Nat.zero_le _) (Nat.zero_le _) (kr _ rfl hR)
  · intro q16 e hR
    replace h := h2 q16 e
    cases h
    exact kr _ rfl hR
noncomputable def FX7_begin (x : Nat) (mu : bs_Mm) : Option (bs_Mm) :=
  fg_wr mu (x + 21) 1 (.int (nI 0)) (fun mu1 => 
  fg_wr mu1 (x + 20) 4 (.int (nI 0)) (fun mu2 => 
  fg_wr mu2 (x + 20) 5 (.int (nI 0)) (fun mu3 => 
  fg_wr mu3 (x + 20) 6 (.int (nI 0)) (fun mu4 => 
  fg_wr mu4 (x + 20) 7 (.int (nI 0)) (fun mu5 => 
  fg_wr mu5 (x + 20) 8 (.int (nI 0)) (fun mu6 => 
  fg_wr mu6 (x + 20) 9 (.int (nI 0)) (fun mu7 => 
  fg_wr mu7 (x + 20) 10 (.int (-1)) (fun mu8 => 
  some mu8))))))))
set_option maxHeartbeats 4000000 in
theorem wX7_begin {nx : Nat} {sh : bs_Sh} {R : Nat → Nat → Option Nat} {x : Nat} (HX : fg_S (bs_tS x) R x sh) {mu : bs_Mm} (hR : fg_R R mu) {r : bs_Mm} (h : FX7_begin x mu = some r) : bs_C mX7_begin (bs_rm 0 0 0) [.ref (x + 20)] nx sh mu (fg_po R nx sh none r) := by
  refine bs_ct (by decide +kernel) (Nat.le_of_ble_eq_true rfl) ?_
  have kr : ∀ q, r = q → fg_R R q → (fg_po R nx sh none r) none nx sh q := fun q e hq => by subst e; exact ⟨rfl, rfl, rfl, rfl, hq⟩
  unfold FX7_begin at h
  refine bs_aload_n dX7_begin_0 rfl ?_
  refine fg_getR (b := (x + 21)) dX7_begin_1 fX7_12 (HX.s 20 rfl rfl rfl) hR (HX.r 20 0 rfl rfl rfl) ?_
  refine bs_iconst (v := (nI 0)) dX7_begin_4 (by decide) ?_
  refine fg_putI dX7_begin_5 pX7_53 (HX.s 21 rfl rfl rfl) (HX.n 21 1 rfl rfl rfl) hR h (fun mu1 hR h => ?_)
  refine bs_aload_n dX7_begin_8 rfl ?_
  refine bs_iconst (v := (nI 0)) dX7_begin_9 (by decide) ?_
  refine fg_putI dX7_begin_10 pX7_56 (HX.s 20 rfl rfl rfl) (HX.n 20 4 rfl rfl rfl) hR h (fun mu2 hR h => ?_)
  refine bs_aload_n dX7_begin_13 rfl ?_
  refine bs_iconst (v := (nI 0)) dX7_begin_14 (by decide) ?_
  refine fg_putI dX7_begin_15 pX7_46 (HX.s 20 rfl rfl rfl) (HX.n 20 5 rfl rfl rfl) hR h (fun mu3 hR h => ?_)
  refine bs_aload_n dX7_begin_18 rfl ?_
  refine bs_iconst (v := (nI 0)) dX7_begin_19 (by decide) ?_
  refine fg_putI dX7_begin_20 pX7_59 (HX.s 20 rfl rfl rfl) (HX.n 20 6 rfl rfl rfl) hR h (fun mu4 hR h => ?_)
  refine bs_aload_n dX7_begin_23 rfl ?_
  refine bs_iconst (v := (nI 0)) dX7_begin_24 (by decide) ?_
  refine fg_putI dX7_begin_25 pX7_62 (HX.s 20 rfl rfl rfl) (HX.n 20 7 rfl rfl rfl) hR h (fun mu5 hR h => ?_)
  refine bs_aload_n dX7_begin_28 rfl ?_
  refine bs_iconst (v := (nI 0)) dX7_begin_29 (by decide) ?_
  refine fg_putI dX7_begin_30 pX7_65 (HX.s 20 rfl rfl rfl) (HX.n 20 8 rfl rfl rfl) hR h (fun mu6 hR h => ?_)
  refine bs_aload_n dX7_begin_33 rfl ?_
  refine bs_iconst (v := (nI 0)) dX7_begin_34 (by decide) ?_
  refine fg_putI dX7_begin_35 pX7_68 (HX.s 20 rfl rfl rfl) (HX.n 20 9 rfl rfl rfl) hR h (fun mu7 hR h => ?_)
  refine bs_aload_n dX7_begin_38 rfl ?_
  refine bs_iconst (v := (-1)) dX7_begin_39 (by decide) ?_
  refine fg_putI dX7_begin_40 pX7_71 (HX.s 20 rfl rfl rfl) (HX.n 20 10 rfl rfl rfl) hR h (fun mu8 hR h => ?_)
  cases h
  exact bs_vret dX7_begin_43 rfl (Nat.zero_le _) (Nat.zero_le _) (kr _ rfl hR)
noncomputable def FX7_tell (x : Nat) (mu : bs_Mm) (p1 : Int32) : Option (bs_Mm) :=
  if (nI 201) ≤ (bs_iv (mu (x + 21) 1)) then (
    some mu
  ) else (
    fg_gd (fg_in (bs_iv (mu (x + 21) 1)) 201) (
    fg_wr mu (x + 22) (bs_iv (mu (x + 21) 1)).toNatClampNeg (.int p1) (fun mu2 => 
    fg_wr mu2 (x + 21) 1 (.int ((bs_iv (mu2 (x + 21) 1)) + (nI 1))) (fun mu3 => 
    some mu3)))
  )
set_option maxHeartbeats 4000000 in
theorem wX7_tell {nx : Nat} {sh : bs_Sh} {R : Nat → Nat → Option Nat} {x : Nat} (HX : fg_S (bs_tS x) R x sh) {mu : bs_Mm} (hR : fg_R R mu) {p1 : Int32} {r : bs_Mm} (h : FX7_tell x mu p1 = some r) : bs_C mX7_tell (bs_rm 0 0 0) [.ref (x + 20), .int p1] nx sh mu (fg_po R nx sh none r) := by
  refine bs_ct (by decide +kernel) (Nat.le_of_ble_eq_true rfl) ?_
  have kr : ∀ q, r = q → fg_R R q → (fg_po R nx sh none r) none nx sh q := fun q e hq => by subst e; exact ⟨rfl, rfl, rfl, rfl, hq⟩
  unfold FX7_tell at h
  refine bs_aload_n dX7_tell_0 rfl ?_
  refine fg_getR (b := (x + 21)) dX7_tell_1 fX7_12 (HX.s 20 rfl rfl rfl) hR (HX.r 20 0 rfl rfl rfl) ?_
  refine bs_getI dX7_tell_4 fX7_53 (HX.s 21 rfl rfl rfl) ?_
  refine bs_sipush (v := (nI 201)) dX7_tell_7 (by decide) ?_
  refine bs_icmp_ge (tgt := 42) dX7_tell_10 (by decide) (fun c => ?_) (fun c => ?_)
  · replace h := fg_ip c h
    cases h
    exact bs_vret dX7_tell_42 rfl (Nat.zero_le _) (Nat.zero_le _) (kr _ rfl hR)
  · replace h := fg_iN c h
    refine bs_aload_n dX7_tell_13 rfl ?_
    refine fg_getR (b := (x + 21)) dX7_tell_14 fX7_12 (HX.s 20 rfl rfl rfl) hR (HX.r 20 0 rfl rfl rfl) ?_
    refine fg_getR (b := (x + 22)) dX7_tell_17 fX7_89 (HX.s 21 rfl rfl rfl) hR (HX.r 21 0 rfl rfl rfl) ?_
    refine bs_aload_n dX7_tell_20 rfl ?_
    refine fg_getR (b := (x + 21)) dX7_tell_21 fX7_12 (HX.s 20 rfl rfl rfl) hR (HX.r 20 0 rfl rfl rfl) ?_
    refine bs_getI dX7_tell_24 fX7_53 (HX.s 21 rfl rfl rfl) ?_
    refine bs_iload_n dX7_tell_27 rfl ?_
    obtain ⟨g1, h⟩ := fg_gdE h
    refine fg_iast dX7_tell_28 (HX.ss 22 rfl rfl) (fun j => HX.n 22 j rfl rfl rfl) g1 hR h (fun mu2 hR h => ?_)
    refine bs_aload_n dX7_tell_29 rfl ?_
    refine fg_getR (b := (x + 21)) dX7_tell_30 fX7_12 (HX.s 20 rfl rfl rfl) hR (HX.r 20 0 rfl rfl rfl) ?_
    refine bs_dup dX7_tell_33 rfl ?_
    refine bs_getI dX7_tell_34 fX7_53 (HX.s 21 rfl rfl rfl) ?_
    refine bs_iconst (v := (nI 1)) dX7_tell_37 (by decide) ?_
    refine bs_iadd dX7_tell_38 ?_
    refine fg_putI dX7_tell_39 pX7_53 (HX.s 21 rfl rfl rfl) (HX.n 21 1 rfl rfl rfl) hR h (fun mu3 hR h => ?_)
    cases h
    exact bs_vret dX7_tell_42 rfl (Nat.zero_le _) (Nat.zero_le _) (kr _ rfl hR)
noncomputable def FX7_takesDigit_j82 (x : Nat) (mu : bs_Mm) (l1 : Int32) : Option (Int32 × bs_Mm) :=
  fg_bd (FX7_tell x mu l1) (fun mu2 => 
  fg_wr mu2 (x + 20) 9 (.int (nI 1)) (fun mu3 => 
  fg_wr mu3 (x + 20) 5 (.int (nI 4)) (fun mu4 => 
  some ((nI 1), mu4))))
set_option maxHeartbeats 4000000 in
theorem wFX7_takesDigit_j82 {nx : Nat} {sh : bs_Sh} {R : Nat → Nat → Option Nat} {x : Nat} (HX : fg_S (bs_tS x) R x sh) {mu : bs_Mm} {l1 : Int32} {Ph : bs_Po} {r : Int32 × bs_Mm} (kr : ∀ q, r = q → fg_R R q.2 → Ph (some (.int q.1)) nx sh q.2) (hR : fg_R R mu) (h : FX7_takesDigit_j82 x mu l1 = some r) : bs_W Ph mX7_takesDigit (bs_rm 1 0 0) 82 (bs_mk [(0, .ref (x + 20)), (1, .int l1)]) [] 0 0 nx sh mu := by
  unfold FX7_takesDigit_j82 at h
  refine bs_aload_n dX7_takesDigit_82 rfl ?_
  refine bs_iload_n dX7_takesDigit_83 rfl ?_
  obtain ⟨mu2, k1, h⟩ := fg_bdE h
  refine fg_callVv dX7_takesDigit_84 qX7_92 (wX7_tell HX hR k1) rfl (HX.s 20 rfl rfl rfl) rfl (Nat.le_of_ble_eq_true rfl) (fg_cr (by first | decide | omega) (by decide)) (fun hR => ?_)
  refine bs_aload_n dX7_takesDigit_87 rfl ?_
  refine bs_iconst (v := (nI 1)) dX7_takesDigit_88 (by decide) ?_
  refine fg_putI dX7_takesDigit_89 pX7_68 (HX.s 20 rfl rfl rfl) (HX.n 20 9 rfl rfl rfl) hR h (fun mu3 hR h => ?_)
  refine bs_aload_n dX7_takesDigit_92 rfl ?_
  refine bs_iconst (v := (nI 4)) dX7_takesDigit_93 (by decide) ?_
  refine fg_putI dX7_takesDigit_94 pX7_46 (HX.s 20 rfl rfl rfl) (HX.n 20 5 rfl rfl rfl) hR h (fun mu4 hR h => ?_)
  refine bs_iconst (v := (nI 1)) dX7_takesDigit_97 (by decide) ?_
  cases h
  exact bs_zret dX7_takesDigit_98 rfl (Or.inr rfl) (Nat.zero_le _) (Nat.zero_le _) (kr _ rfl hR)
noncomputable def FX7_takesDigit_j64 (x : Nat) (mu : bs_Mm) (l1 : Int32) : Option (Int32 × bs_Mm) :=
  if (bs_iv (mu (x + 20) 5)) = (nI 2) then (
    FX7_takesDigit_j82 x mu l1
  ) else (
    if (bs_iv (mu (x + 20) 5)) = (nI 3) then (
      FX7_takesDigit_j82 x mu l1
    ) else (
      some ((nI 0), mu)
    )
  )
set_option maxHeartbeats 4000000 in
theorem wFX7_takesDigit_j64 {nx : Nat} {sh : bs_Sh} {R : Nat → Nat → Option Nat} {x : Nat} (HX : fg_S (bs_tS x) R x sh) {mu : bs_Mm} {l1 : Int32} {Ph : bs_Po} {r : Int32 × bs_Mm} (kr : ∀ q, r = q → fg_R R q.2 → Ph (some (.int q.1)) nx sh q.2) (hR : fg_R R mu) (h : FX7_takesDigit_j64 x mu l1 = some r) : bs_W Ph mX7_takesDigit (bs_rm 1 0 0) 64 (bs_mk [(0, .ref (x + 20)), (1, .int l1)]) [] 0 0 nx sh mu := by
  unfold FX7_takesDigit_j64 at h
  refine bs_aload_n dX7_takesDigit_64 rfl ?_
  refine bs_getI dX7_takesDigit_65 fX7_46 (HX.s 20 rfl rfl rfl) ?_
  refine bs_iconst (v := (nI 2)) dX7_takesDigit_68 (by decide) ?_
  refine bs_icmp_eq (tgt := 82) dX7_takesDigit_69 (by decide) (fun c => ?_) (fun c => ?_)
  · replace h := fg_ip c h
    refine bs_W.mk [(0, .ref (x + 20)), (1, .int l1)] (by intro q hq; simp only [List.mem_cons, List.not_mem_nil, or_false] at hq; rcases hq with rfl | rfl <;> rfl) ?_
    exact wFX7_takesDigit_j82 HX kr hR h
  · replace h := fg_iN c h
    refine bs_aload_n dX7_takesDigit_72 rfl ?_
    refine bs_getI dX7_takesDigit_73 fX7_46 (HX.s 20 rfl rfl rfl) ?_
    refine bs_iconst (v := (nI 3)) dX7_takesDigit_76 (by decide) ?_
    refine bs_icmp_eq (tgt := 82) dX7_takesDigit_77 (by decide) (fun c => ?_) (fun c => ?_)
    · replace h := fg_ip c h
      refine bs_W.mk [(0, .ref (x + 20)), (1, .int l1)] (by intro q hq; simp only [List.mem_cons, List.not_mem_nil, or_false] at hq; rcases hq with rfl | rfl <;> rfl) ?_
      exact wFX7_takesDigit_j82 HX kr hR h
    · replace h := fg_iN c h
      refine bs_iconst (v := (nI 0)) dX7_takesDigit_80 (by decide) ?_
      cases h
      exact bs_zret dX7_takesDigit_81 rfl (Or.inl rfl) (Nat.zero_le _) (Nat.zero_le _) (kr _ rfl hR)
noncomputable def FX7_takesDigit (x : Nat) (mu : bs_Mm) (p1 : Int32) : Option (Int32 × bs_Mm) :=
  if (bs_iv (mu (x + 20) 9)) ≤ 0 then (
    FX7_takesDigit_j64 x mu p1
  ) else (
    if (nI 4) ≤ (bs_iv (mu (x + 20) 9)) then (
      FX7_takesDigit_j64 x mu p1
    ) else (
      if ((bs_iv (mu (x + 21) 1)) - (nI 1)) < 0 then (
        fg_wr mu (x + 20) 9 (.int ((bs_iv (mu (x + 20) 9)) + (nI 1))) (fun mu5 => 
        some ((nI 1), mu5))
      ) else (
        fg_gd (fg_in ((bs_iv (mu (x + 21) 1)) - (nI 1)) 201) (
        fg_gd (fg_in ((bs_iv (mu (x + 21) 1)) - (nI 1)) 201) (
        fg_wr mu (x + 22) ((bs_iv (mu (x + 21) 1)) - (nI 1)).toNatClampNeg (.int (((bs_iv (mu (x + 22) ((bs_iv (mu (x + 21) 1)) - (nI 1)).toNatClampNeg)) * (nI 10)) + p1)) (fun mu8 => 
        fg_wr mu8 (x + 20) 9 (.int ((bs_iv (mu8 (x + 20) 9)) + (nI 1))) (fun mu9 => 
        some ((nI 1), mu9)))))
      )
    )
  )
set_option maxHeartbeats 4000000 in
theorem wX7_takesDigit {nx : Nat} {sh : bs_Sh} {R : Nat → Nat → Option Nat} {x : Nat} (HX : fg_S (bs_tS x) R x sh) {mu : bs_Mm} (hR : fg_R R mu) {p1 : Int32} {r : Int32 × bs_Mm} (h : FX7_takesDigit x mu p1 = some r) : bs_C mX7_takesDigit (bs_rm 1 0 0) [.ref (x + 20), .int p1] nx sh mu (fg_po R nx sh (some (.int r.1)) r.2) := by
  refine bs_ct (by decide +kernel) (Nat.le_of_ble_eq_true rfl) ?_
  have kr : ∀ q, r = q → fg_R R q.2 → (fg_po R nx sh (some (.int r.1)) r.2) (some (.int q.1)) nx sh q.2 := fun q e hq => by subst e; exact ⟨rfl, rfl, rfl, rfl, hq⟩
  unfold FX7_takesDigit at h
  refine bs_aload_n dX7_takesDigit_0 rfl ?_
  refine bs_getI dX7_takesDigit_1 fX7_68 (HX.s 20 rfl rfl rfl) ?_
  refine bs_if_le (tgt := 64) dX7_takesDigit_4 (by decide) (fun c => ?_) (fun c => ?_)
  · replace h := fg_ip c h
    refine bs_W.mk [(0, .ref (x + 20)), (1, .int p1)] (by intro q hq; simp only [List.mem_cons, List.not_mem_nil, or_false] at hq; rcases hq with rfl | rfl <;> rfl) ?_
    exact wFX7_takesDigit_j64 HX kr hR h
  · replace h := fg_iN c h
    refine bs_aload_n dX7_takesDigit_7 rfl ?_
    refine bs_getI dX7_takesDigit_8 fX7_68 (HX.s 20 rfl rfl rfl) ?_
    refine bs_iconst (v := (nI 4)) dX7_takesDigit_11 (by decide) ?_
    refine bs_icmp_ge (tgt := 64) dX7_takesDigit_12 (by decide) (fun c => ?_) (fun c => ?_)
    · replace h := fg_ip c h
      refine bs_W.mk [(0, .ref (x + 20)), (1, .int p1)] (by intro q hq; simp only [List.mem_cons, List.not_mem_nil, or_false] at hq; rcases hq with rfl | rfl <;> rfl) ?_
      exact wFX7_takesDigit_j64 HX kr hR h
    · replace h := fg_iN c h
      refine bs_aload_n dX7_takesDigit_15 rfl ?_
      refine fg_getR (b := (x + 21)) dX7_takesDigit_16 fX7_12 (HX.s 20 rfl rfl rfl) hR (HX.r 20 0 rfl rfl rfl) ?_
      refine bs_getI dX7_takesDigit_19 fX7_53 (HX.s 21 rfl rfl rfl) ?_
      refine bs_iconst (v := (nI 1)) dX7_takesDigit_22 (by decide) ?_
      refine bs_isub dX7_takesDigit_23 ?_
      refine bs_istore_n dX7_takesDigit_24 rfl (by decide) ?_
      refine bs_iload_n dX7_takesDigit_25 rfl ?_
      refine bs_if_lt (tgt := 52) dX7_takesDigit_26 (by decide) (fun c => ?_) (fun c => ?_)
      · replace h := fg_ip c h
        refine bs_aload_n dX7_takesDigit_52 rfl ?_
        refine bs_dup dX7_takesDigit_53 rfl ?_
        refine bs_getI dX7_takesDigit_54 fX7_68 (HX.s 20 rfl rfl rfl) ?_
        refine bs_iconst (v := (nI 1)) dX7_takesDigit_57 (by decide) ?_
        refine bs_iadd dX7_takesDigit_58 ?_
        refine fg_putI dX7_takesDigit_59 pX7_68 (HX.s 20 rfl rfl rfl) (HX.n 20 9 rfl rfl rfl) hR h (fun mu5 hR h => ?_)
        refine bs_iconst (v := (nI 1)) dX7_takesDigit_62 (by decide) ?_
        cases h
        exact bs_zret dX7_takesDigit_63 rfl (Or.inr rfl) (Nat.zero_le _) (Nat.zero_le _) (kr _ rfl hR)
      · replace h := fg_iN c h
        refine bs_aload_n dX7_takesDigit_29 rfl ?_
        refine fg_getR (b := (x + 21)) dX7_takesDigit_30 fX7_12 (HX.s 20 rfl rfl rfl) hR (HX.r 20 0 rfl rfl rfl) ?_
        refine fg_getR (b := (x + 22)) dX7_takesDigit_33 fX7_89 (HX.s 21 rfl rfl rfl) hR (HX.r 21 0 rfl rfl rfl) ?_
        refine bs_iload_n dX7_takesDigit_36 rfl ?_
        refine bs_aload_n dX7_takesDigit_37 rfl ?_
        refine fg_getR (b := (x + 21)) dX7_takesDigit_38 fX7_12 (HX.s 20 rfl rfl rfl) hR (HX.r 20 0 rfl rfl rfl) ?_
        refine fg_getR (b := (x + 22)) dX7_takesDigit_41 fX7_89 (HX.s 21 rfl rfl rfl) hR (HX.r 21 0 rfl rfl rfl) ?_
        refine bs_iload_n dX7_takesDigit_44 rfl ?_
        obtain ⟨g6, h⟩ := fg_gdE h
        refine bs_iald dX7_takesDigit_45 (HX.ss 22 rfl rfl) (fg_in_ix g6) ?_
        refine bs_bipush (v := (nI 10)) dX7_takesDigit_46 (by decide) ?_
        refine bs_imul dX7_takesDigit_48 ?_
        refine bs_iload_n dX7_takesDigit_49 rfl ?_
        refine bs_iadd dX7_takesDigit_50 ?_
        obtain ⟨g7, h⟩ := fg_gdE h
        refine fg_iast dX7_takesDigit_51 (HX.ss 22 rfl rfl) (fun j => HX.n 22 j rfl rfl rfl) g7 hR h (fun mu8 hR h => ?_)
        refine bs_aload_n dX7_takesDigit_52 rfl ?_
        refine bs_dup dX7_takesDigit_53 rfl ?_
        refine bs_getI dX7_takesDigit_54 fX7_68 (HX.s 20 rfl rfl rfl) ?_
        refine bs_iconst (v := (nI 1)) dX7_takesDigit_57 (by decide) ?_
        refine bs_iadd dX7_takesDigit_58 ?_
        refine fg_putI dX7_takesDigit_59 pX7_68 (HX.s 20 rfl rfl rfl) (HX.n 20 9 rfl rfl rfl) hR h (fun mu9 hR h => ?_)
        refine bs_iconst (v := (nI 1)) dX7_takesDigit_62 (by decide) ?_
        cases h
        exact bs_zret dX7_takesDigit_63 rfl (Or.inr rfl) (Nat.zero_le _) (Nat.zero_le _) (kr _ rfl hR)
noncomputable def FX7_await (x : Nat) (mu : bs_Mm) (p1 : Int32) : Option (bs_Mm) :=
  if (nI 200) ≤ (bs_iv (mu (x + 20) 4)) then (
    some mu
  ) else (
    fg_gd (fg_in (bs_iv (mu (x + 20) 4)) 200) (
    fg_wr mu (x + 24) (bs_iv (mu (x + 20) 4)).toNatClampNeg (.int p1) (fun mu2 => 
    fg_gd (fg_in (bs_iv (mu2 (x + 20) 4)) 200) (
    fg_wr mu2 (x + 25) (bs_iv (mu2 (x + 20) 4)).toNatClampNeg (.int (bs_iv (mu2 (x + 20) 6))) (fun mu4 => 
    fg_wr mu4 (x + 20) 4 (.int ((bs_iv (mu4 (x + 20) 4)) + (nI 1))) (fun mu5 => 
    some mu5)))))
  )
set_option maxHeartbeats 4000000 in
theorem wX7_await {nx : Nat} {sh : bs_Sh} {R : Nat → Nat → Option Nat} {x : Nat} (HX : fg_S (bs_tS x) R x sh) {mu : bs_Mm} (hR : fg_R R mu) {p1 : Int32} {r : bs_Mm} (h : FX7_await x mu p1 = some r) : bs_C mX7_await (bs_rm 0 0 0) [.ref (x + 20), .int p1] nx sh mu (fg_po R nx sh none r) := by
  refine bs_ct (by decide +kernel) (Nat.le_of_ble_eq_true rfl) ?_
  have kr : ∀ q, r = q → fg_R R q → (fg_po R nx sh none r) none nx sh q := fun q e hq => by subst e; exact ⟨rfl, rfl, rfl, rfl, hq⟩
  unfold FX7_await at h
  refine bs_aload_n dX7_await_0 rfl ?_
  refine bs_getI dX7_await_1 fX7_56 (HX.s 20 rfl rfl rfl) ?_
  refine bs_sipush (v := (nI 200)) dX7_await_4 (by decide) ?_
  refine bs_icmp_ge (tgt := 43) dX7_await_7 (by decide) (fun c => ?_) (fun c => ?_)
  · replace h := fg_ip c h
    cases h
    exact bs_vret dX7_await_43 rfl (Nat.zero_le _) (Nat.zero_le _) (kr _ rfl hR)
  · replace h := fg_iN c h
    refine bs_aload_n dX7_await_10 rfl ?_
    refine fg_getR (b := (x + 24)) dX7_await_11 fX7_22 (HX.s 20 rfl rfl rfl) hR (HX.r 20 2 rfl rfl rfl) ?_
    refine bs_aload_n dX7_await_14 rfl ?_
    refine bs_getI dX7_await_15 fX7_56 (HX.s 20 rfl rfl rfl) ?_
    refine bs_iload_n dX7_await_18 rfl ?_
    obtain ⟨g1, h⟩ := fg_gdE h
    refine fg_iast dX7_await_19 (HX.ss 24 rfl rfl) (fun j => HX.n 24 j rfl rfl rfl) g1 hR h (fun mu2 hR h => ?_)
    refine bs_aload_n dX7_await_20 rfl ?_
    refine fg_getR (b := (x + 25)) dX7_await_21 fX7_26 (HX.s 20 rfl rfl rfl) hR (HX.r 20 3 rfl rfl rfl) ?_
    refine bs_aload_n dX7_await_24 rfl ?_
    refine bs_getI dX7_await_25 fX7_56 (HX.s 20 rfl rfl rfl) ?_
    refine bs_aload_n dX7_await_28 rfl ?_
    refine bs_getI dX7_await_29 fX7_59 (HX.s 20 rfl rfl rfl) ?_
    obtain ⟨g3, h⟩ := fg_gdE h
    refine fg_iast dX7_await_32 (HX.ss 25 rfl rfl) (fun j => HX.n 25 j rfl rfl rfl) g3 hR h (fun mu4 hR h => ?_)
    refine bs_aload_n dX7_await_33 rfl ?_
    refine bs_dup dX7_await_34 rfl ?_
    refine bs_getI dX7_await_35 fX7_56 (HX.s 20 rfl rfl rfl) ?_
    refine bs_iconst (v := (nI 1)) dX7_await_38 (by decide) ?_
    refine bs_iadd dX7_await_39 ?_
    refine fg_putI dX7_await_40 pX7_56 (HX.s 20 rfl rfl rfl) (HX.n 20 4 rfl rfl rfl) hR h (fun mu5 hR h => ?_)
    cases h
    exact bs_vret dX7_await_43 rfl (Nat.zero_le _) (Nat.zero_le _) (kr _ rfl hR)
noncomputable def FX7_opensUnit (x : Nat) (mu : bs_Mm) (p1 : Int32) : Option (Int32 × bs_Mm) :=
  if (bs_iv (mu (x + 20) 7)) < (nI 6) then (
    fg_wr mu (x + 20) 6 (.int (nI 1)) (fun mu1 => 
    fg_wr mu1 (x + 20) 7 (.int ((bs_iv (mu1 (x + 20) 7)) + (nI 1))) (fun mu2 => 
    if p1 = (nI 40) then (
      fg_wr mu2 (x + 20) 8 (.int ((bs_iv (mu2 (x + 20) 8)) + (nI 1))) (fun mu6 => 
      fg_bd (FX7_await x mu6 p1) (fun mu8 => 
      some ((nI 1), mu8)))
    ) else (
      fg_wr mu2 (x + 20) 8 (.int ((bs_iv (mu2 (x + 20) 8)) + (nI 0))) (fun mu3 => 
      fg_bd (FX7_await x mu3 p1) (fun mu5 => 
      some ((nI 1), mu5)))
    )))
  ) else (
    some ((nI 0), mu)
  )
set_option maxHeartbeats 4000000 in
theorem wX7_opensUnit {nx : Nat} {sh : bs_Sh} {R : Nat → Nat → Option Nat} {x : Nat} (HX : fg_S (bs_tS x) R x sh) {mu : bs_Mm} (hR : fg_R R mu) {p1 : Int32} {r : Int32 × bs_Mm} (h : FX7_opensUnit x mu p1 = some r) : bs_C mX7_opensUnit (bs_rm 1 0 0) [.ref (x + 20), .int p1] nx sh mu (fg_po R nx sh (some (.int r.1)) r.2) := by
  refine bs_ct (by decide +kernel) (Nat.le_of_ble_eq_true rfl) ?_
  have kr : ∀ q, r = q → fg_R R q.2 → (fg_po R nx sh (some (.int r.1)) r.2) (some (.int q.1)) nx sh q.2 := fun q e hq => by subst e; exact ⟨rfl, rfl, rfl, rfl, hq⟩
  unfold FX7_opensUnit at h
  refine bs_aload_n dX7_opensUnit_0 rfl ?_
  refine bs_getI dX7_opensUnit_1 fX7_62 (HX.s 20 rfl rfl rfl) ?_
  refine bs_bipush (v := (nI 6)) dX7_opensUnit_4 (by decide) ?_
  refine bs_icmp_lt (tgt := 11) dX7_opensUnit_6 (by decide) (fun c => ?_) (fun c => ?_)
  · replace h := fg_ip c h
    refine bs_aload_n dX7_opensUnit_11 rfl ?_
    refine bs_iconst (v := (nI 1)) dX7_opensUnit_12 (by decide) ?_
    refine fg_putI dX7_opensUnit_13 pX7_59 (HX.s 20 rfl rfl rfl) (HX.n 20 6 rfl rfl rfl) hR h (fun mu1 hR h => ?_)
    refine bs_aload_n dX7_opensUnit_16 rfl ?_
    refine bs_dup dX7_opensUnit_17 rfl ?_
    refine bs_getI dX7_opensUnit_18 fX7_62 (HX.s 20 rfl rfl rfl) ?_
    refine bs_iconst (v := (nI 1)) dX7_opensUnit_21 (by decide) ?_
    refine bs_iadd dX7_opensUnit_22 ?_
    refine fg_putI dX7_opensUnit_23 pX7_62 (HX.s 20 rfl rfl rfl) (HX.n 20 7 rfl rfl rfl) hR h (fun mu2 hR h => ?_)
    refine bs_aload_n dX7_opensUnit_26 rfl ?_
    refine bs_dup dX7_opensUnit_27 rfl ?_
    refine bs_getI dX7_opensUnit_28 fX7_65 (HX.s 20 rfl rfl rfl) ?_
    refine bs_iload_n dX7_opensUnit_31 rfl ?_
    refine bs_bipush (v := (nI 40)) dX7_opensUnit_32 (by decide) ?_
    refine bs_icmp_ne (tgt := 41) dX7_opensUnit_34 (by decide) (fun c => ?_) (fun c => ?_)
    · replace h := fg_iN c h
      refine bs_iconst (v := (nI 0)) dX7_opensUnit_41 (by decide) ?_
      refine bs_iadd dX7_opensUnit_42 ?_
      refine fg_putI dX7_opensUnit_43 pX7_65 (HX.s 20 rfl rfl rfl) (HX.n 20 8 rfl rfl rfl) hR h (fun mu3 hR h => ?_)
      refine bs_aload_n dX7_opensUnit_46 rfl ?_
      refine bs_iload_n dX7_opensUnit_47 rfl ?_
      obtain ⟨mu5, k4, h⟩ := fg_bdE h
      refine fg_callVv dX7_opensUnit_48 qX7_96 (wX7_await HX hR k4) rfl (HX.s 20 rfl rfl rfl) rfl (Nat.le_of_ble_eq_true rfl) (fg_cr (by first | decide | omega) (by decide)) (fun hR => ?_)
      refine bs_iconst (v := (nI 1)) dX7_opensUnit_51 (by decide) ?_
      cases h
      exact bs_zret dX7_opensUnit_52 rfl (Or.inr rfl) (Nat.zero_le _) (Nat.zero_le _) (kr _ rfl hR)
    · replace h := fg_ip c h
      refine bs_iconst (v := (nI 1)) dX7_opensUnit_37 (by decide) ?_
      refine bs_goto (tgt := 42) dX7_opensUnit_38 (by decide) ?_
      refine bs_iadd dX7_opensUnit_42 ?_
      refine fg_putI dX7_opensUnit_43 pX7_65 (HX.s 20 rfl rfl rfl) (HX.n 20 8 rfl rfl rfl) hR h (fun mu6 hR h => ?_)
      refine bs_aload_n dX7_opensUnit_46 rfl ?_
      refine bs_iload_n dX7_opensUnit_47 rfl ?_
      obtain ⟨mu8, k7, h⟩ := fg_bdE h
      refine fg_callVv dX7_opensUnit_48 qX7_96 (wX7_await HX hR k7) rfl (HX.s 20 rfl rfl rfl) rfl (Nat.le_of_ble_eq_true rfl) (fg_cr (by first | decide | omega) (by decide)) (fun hR => ?_)
      refine bs_iconst (v := (nI 1)) dX7_opensUnit_51 (by decide) ?_
      cases h
      exact bs_zret dX7_opensUnit_52 rfl (Or.inr rfl) (Nat.zero_le _) (Nat.zero_le _) (kr _ rfl hR)
  · replace h := fg_iN c h
    refine bs_iconst (v := (nI 0)) dX7_opensUnit_9 (by decide) ?_
    cases h
    exact bs_zret dX7_opensUnit_10 rfl (Or.inl rfl) (Nat.zero_le _) (Nat.zero_le _) (kr _ rfl hR)
noncomputable def FX7_opensBracket (x : Nat) (mu : bs_Mm) : Option (Int32 × bs_Mm) :=
  if (bs_iv (mu (x + 20) 7)) < (nI 6) then (
    fg_wr mu (x + 20) 7 (.int ((bs_iv (mu (x + 20) 7)) + (nI 1))) (fun mu1 => 
    fg_bd (FX7_await x mu1 (nI 91)) (fun mu3 => 
    fg_wr mu3 (x + 20) 6 (.int (nI 4)) (fun mu4 => 
    fg_wr mu4 (x + 20) 5 (.int (nI 3)) (fun mu5 => 
    some ((nI 1), mu5)))))
  ) else (
    some ((nI 0), mu)
  )
set_option maxHeartbeats 4000000 in
theorem wX7_opensBracket {nx : Nat} {sh : bs_Sh} {R : Nat → Nat → Option Nat} {x : Nat} (HX : fg_S (bs_tS x) R x sh) {mu : bs_Mm} (hR : fg_R R mu) {r : Int32 × bs_Mm} (h : FX7_opensBracket x mu = some r) : bs_C mX7_opensBracket (bs_rm 1 0 0) [.ref (x + 20)] nx sh mu (fg_po R nx sh (some (.int r.1)) r.2) := by
  refine bs_ct (by decide +kernel) (Nat.le_of_ble_eq_true rfl) ?_
  have kr : ∀ q, r = q → fg_R R q.2 → (fg_po R nx sh (some (.int r.1)) r.2) (some (.int q.1)) nx sh q.2 := fun q e hq => by subst e; exact ⟨rfl, rfl, rfl, rfl, hq⟩
  unfold FX7_opensBracket at h
  refine bs_aload_n dX7_opensBracket_0 rfl ?_
  refine bs_getI dX7_opensBracket_1 fX7_62 (HX.s 20 rfl rfl rfl) ?_
  refine bs_bipush (v := (nI 6)) dX7_opensBracket_4 (by decide) ?_
  refine bs_icmp_lt (tgt := 11) dX7_opensBracket_6 (by decide) (fun c => ?_) (fun c => ?_)
  · replace h := fg_ip c h
    refine bs_aload_n dX7_opensBracket_11 rfl ?_
    refine bs_dup dX7_opensBracket_12 rfl ?_
    refine bs_getI dX7_opensBracket_13 fX7_62 (HX.s 20 rfl rfl rfl) ?_
    refine bs_iconst (v := (nI 1)) dX7_opensBracket_16 (by decide) ?_
    refine bs_iadd dX7_opensBracket_17 ?_
    refine fg_putI dX7_opensBracket_18 pX7_62 (HX.s 20 rfl rfl rfl) (HX.n 20 7 rfl rfl rfl) hR h (fun mu1 hR h => ?_)
    refine bs_aload_n dX7_opensBracket_21 rfl ?_
    refine bs_bipush (v := (nI 91)) dX7_opensBracket_22 (by decide) ?_
    obtain ⟨mu3, k2, h⟩ := fg_bdE h
    refine fg_callVv dX7_opensBracket_24 qX7_96 (wX7_await HX hR k2) rfl (HX.s 20 rfl rfl rfl) rfl (Nat.le_of_ble_eq_true rfl) (fg_cr (by first | decide | omega) (by decide)) (fun hR => ?_)
    refine bs_aload_n dX7_opensBracket_27 rfl ?_
    refine bs_iconst (v := (nI 4)) dX7_opensBracket_28 (by decide) ?_
    refine fg_putI dX7_opensBracket_29 pX7_59 (HX.s 20 rfl rfl rfl) (HX.n 20 6 rfl rfl rfl) hR h (fun mu4 hR h => ?_)
    refine bs_aload_n dX7_opensBracket_32 rfl ?_
    refine bs_iconst (v := (nI 3)) dX7_opensBracket_33 (by decide) ?_
    refine fg_putI dX7_opensBracket_34 pX7_46 (HX.s 20 rfl rfl rfl) (HX.n 20 5 rfl rfl rfl) hR h (fun mu5 hR h => ?_)
    refine bs_iconst (v := (nI 1)) dX7_opensBracket_37 (by decide) ?_
    cases h
    exact bs_zret dX7_opensBracket_38 rfl (Or.inr rfl) (Nat.zero_le _) (Nat.zero_le _) (kr _ rfl hR)
  · replace h := fg_iN c h
    refine bs_iconst (v := (nI 0)) dX7_opensBracket_9 (by decide) ?_
    cases h
    exact bs_zret dX7_opensBracket_10 rfl (Or.inl rfl) (Nat.zero_le _) (Nat.zero_le _) (kr _ rfl hR)
noncomputable def FX7_letterOf (x : Nat) (mu : bs_Mm) (p0 : Int32) : Option (Int32) :=
  if p0 = (nI 97) then (
    some ((nI 4))
  ) else (
  if p0 = (nI 104) then (
    some ((nI 1))
  ) else (
  if p0 = (nI 107) then (
    some ((nI 2))
  ) else (
  if p0 = (nI 108) then (
    some ((nI 0))
  ) else (
  if p0 = (nI 115) then (
    some ((nI 3))
  ) else (
  some ((-1))
  )))))
set_option maxHeartbeats 4000000 in
theorem wX7_letterOf {nx : Nat} {sh : bs_Sh} {R : Nat → Nat → Option Nat} {x : Nat} (HX : fg_S (bs_tS x) R x sh) {mu : bs_Mm} (hR : fg_R R mu) {p0 : Int32} {r : Int32} (h : FX7_letterOf x mu p0 = some r) : bs_C mX7_letterOf (bs_rm 0 0 0) [.int p0] nx sh mu (fg_po R nx sh (some (.int r)) mu) := by
  refine bs_ct (by decide +kernel) (Nat.le_of_ble_eq_true rfl) ?_
  have kr : ∀ q, r = q → fg_R R mu → (fg_po R nx sh (some (.int r)) mu) (some (.int q)) nx sh mu := fun q e hq => by subst e; exact ⟨rfl, rfl, rfl, rfl, hq⟩
  unfold FX7_letterOf at h
  refine bs_iload_n dX7_letterOf_0 rfl ?_
  by_cases e1 : p0 = (nI 97)
  · replace h := fg_ip e1 h
    refine bs_lookup (off := 59) (tgt := 60) dX7_letterOf_1 (by decide) (by rw [e1]; decide) (by decide) ?_
    refine bs_iconst (v := (nI 4)) dX7_letterOf_60 (by decide) ?_
    cases h
    exact bs_iret dX7_letterOf_61 rfl (Nat.zero_le _) (Nat.zero_le _) (kr _ rfl hR)
  · replace h := fg_iN e1 h
    by_cases e2 : p0 = (nI 104)
    · replace h := fg_ip e2 h
      refine bs_lookup (off := 53) (tgt := 54) dX7_letterOf_1 (by decide) (by rw [e2]; decide) (by decide) ?_
      refine bs_iconst (v := (nI 1)) dX7_letterOf_54 (by decide) ?_
      cases h
      exact bs_iret dX7_letterOf_55 rfl (Nat.zero_le _) (Nat.zero_le _) (kr _ rfl hR)
    · replace h := fg_iN e2 h
      by_cases e3 : p0 = (nI 107)
      · replace h := fg_ip e3 h
        refine bs_lookup (off := 55) (tgt := 56) dX7_letterOf_1 (by decide) (by rw [e3]; decide) (by decide) ?_
        refine bs_iconst (v := (nI 2)) dX7_letterOf_56 (by decide) ?_
        cases h
        exact bs_iret dX7_letterOf_57 rfl (Nat.zero_le _) (Nat.zero_le _) (kr _ rfl hR)
      · replace h := fg_iN e3 h
        by_cases e4 : p0 = (nI 108)
        · replace h := fg_ip e4 h
          refine bs_lookup (off := 51) (tgt := 52) dX7_letterOf_1 (by decide) (by rw [e4]; decide) (by decide) ?_
          refine bs_iconst (v := (nI 0)) dX7_letterOf_52 (by decide) ?_
          cases h
          exact bs_iret dX7_letterOf_53 rfl (Nat.zero_le _) (Nat.zero_le _) (kr _ rfl hR)
        · replace h := fg_iN e4 h
          by_cases e5 : p0 = (nI 115)
          · replace h := fg_ip e5 h
            refine bs_lookup (off := 57) (tgt := 58) dX7_letterOf_1 (by decide) (by rw [e5]; decide) (by decide) ?_
            refine bs_iconst (v := (nI 3)) dX7_letterOf_58 (by decide) ?_
            cases h
            exact bs_iret dX7_letterOf_59 rfl (Nat.zero_le _) (Nat.zero_le _) (kr _ rfl hR)
          · replace h := fg_iN e5 h
            refine bs_lookup (off := 61) (tgt := 62) dX7_letterOf_1 (by decide) ?_ (by decide) ?_
            · show Op.lookupswitch.offset [((97 : Int), (59 : Int)), ((104 : Int), (53 : Int)), ((107 : Int), (55 : Int)), ((108 : Int), (51 : Int)), ((115 : Int), (57 : Int))] (61) _ = _; rw [lv_osw e1 (by decide), lv_osw e2 (by decide), lv_osw e3 (by decide), lv_osw e4 (by decide), lv_osw e5 (by decide)]; rfl
            · refine bs_iconst (v := (-1)) dX7_letterOf_62 (by decide) ?_
              cases h
              exact bs_iret dX7_letterOf_63 rfl (Nat.zero_le _) (Nat.zero_le _) (kr _ rfl hR)
noncomputable def FX7_takesAtom (x : Nat) (mu : bs_Mm) (p1 : Int32) : Option (Int32 × bs_Mm) :=
  if p1 = (nI 91) then (
    fg_b2 (FX7_opensBracket x mu) (fun v8 mu7 => 
    fg_gd (decide (v8 = 0 ∨ v8 = 1)) (
    some (v8, mu7)))
  ) else (
    fg_bd (FX7_letterOf x mu p1) (fun v2 => 
    if v2 = (-1) then (
      some ((nI 0), mu)
    ) else (
      fg_bd (FX7_tell x mu ((nI 10000) + v2)) (fun mu4 => 
      fg_wr mu4 (x + 20) 5 (.int (nI 4)) (fun mu5 => 
      some ((nI 1), mu5)))
    ))
  )
set_option maxHeartbeats 4000000 in
theorem wX7_takesAtom {nx : Nat} {sh : bs_Sh} {R : Nat → Nat → Option Nat} {x : Nat} (HX : fg_S (bs_tS x) R x sh) {mu : bs_Mm} (hR : fg_R R mu) {p1 : Int32} {r : Int32 × bs_Mm} (h : FX7_takesAtom x mu p1 = some r) : bs_C mX7_takesAtom (bs_rm 2 0 0) [.ref (x + 20), .int p1] nx sh mu (fg_po R nx sh (some (.int r.1)) r.2) := by
  refine bs_ct (by decide +kernel) (Nat.le_of_ble_eq_true rfl) ?_
  have kr : ∀ q, r = q → fg_R R q.2 → (fg_po R nx sh (some (.int r.1)) r.2) (some (.int q.1)) nx sh q.2 := fun q e hq => by subst e; exact ⟨rfl, rfl, rfl, rfl, hq⟩
  unfold FX7_takesAtom at h
  refine bs_iload_n dX7_takesAtom_0 rfl ?_
  refine bs_bipush (v := (nI 91)) dX7_takesAtom_1 (by decide) ?_
  refine bs_icmp_ne (tgt := 11) dX7_takesAtom_3 (by decide) (fun c => ?_) (fun c => ?_)
  · replace h := fg_iN c h
    refine bs_iload_n dX7_takesAtom_11 rfl ?_
    obtain ⟨v2, k1, h⟩ := fg_bdE h
    refine fg_callS dX7_takesAtom_12 qX7_102 (wX7_letterOf HX hR k1) rfl rfl (Nat.le_of_ble_eq_true rfl) (fg_cr (by first | decide | omega) (by decide)) (fun hR => ?_)
    refine bs_istore_n dX7_takesAtom_15 rfl (by decide) ?_
    refine bs_iload_n dX7_takesAtom_16 rfl ?_
    refine bs_iconst (v := (-1)) dX7_takesAtom_17 (by decide) ?_
    refine bs_icmp_ne (tgt := 23) dX7_takesAtom_18 (by decide) (fun c => ?_) (fun c => ?_)
    · replace h := fg_iN c h
      refine bs_aload_n dX7_takesAtom_23 rfl ?_
      refine bs_sipush (v := (nI 10000)) dX7_takesAtom_24 (by decide) ?_
      refine bs_iload_n dX7_takesAtom_27 rfl ?_
      refine bs_iadd dX7_takesAtom_28 ?_
      obtain ⟨mu4, k3, h⟩ := fg_bdE h
      refine fg_callVv dX7_takesAtom_29 qX7_92 (wX7_tell HX hR k3) rfl (HX.s 20 rfl rfl rfl) rfl (Nat.le_of_ble_eq_true rfl) (fg_cr (by first | decide | omega) (by decide)) (fun hR => ?_)
      refine bs_aload_n dX7_takesAtom_32 rfl ?_
      refine bs_iconst (v := (nI 4)) dX7_takesAtom_33 (by decide) ?_
      refine fg_putI dX7_takesAtom_34 pX7_46 (HX.s 20 rfl rfl rfl) (HX.n 20 5 rfl rfl rfl) hR h (fun mu5 hR h => ?_)
      refine bs_iconst (v := (nI 1)) dX7_takesAtom_37 (by decide) ?_
      cases h
      exact bs_zret dX7_takesAtom_38 rfl (Or.inr rfl) (Nat.zero_le _) (Nat.zero_le _) (kr _ rfl hR)
    · replace h := fg_ip c h
      refine bs_iconst (v := (nI 0)) dX7_takesAtom_21 (by decide) ?_
      cases h
      exact bs_zret dX7_takesAtom_22 rfl (Or.inl rfl) (Nat.zero_le _) (Nat.zero_le _) (kr _ rfl hR)
  · replace h := fg_ip c h
    refine bs_aload_n dX7_takesAtom_6 rfl ?_
    obtain ⟨v8, mu7, k6, h⟩ := fg_b2E h
    refine fg_callV dX7_takesAtom_7 qX7_99 (wX7_opensBracket HX hR k6) rfl (HX.s 20 rfl rfl rfl) rfl (Nat.le_of_ble_eq_true rfl) (fg_cr (by first | decide | omega) (by decide)) (fun hR => ?_)
    obtain ⟨g9, h⟩ := fg_gdE h
    cases h
    exact bs_zret dX7_takesAtom_10 rfl (of_decide_eq_true g9) (Nat.zero_le _) (Nat.zero_le _) (kr _ rfl hR)
noncomputable def FX7_tightness (x : Nat) (mu : bs_Mm) (p0 : Int32) : Option (Int32) :=
  if p0 = (nI 33) then (
    some ((nI 3))
  ) else (
  if p0 = (nI 38) then (
    some ((nI 2))
  ) else (
  if p0 = (nI 42) then (
    some ((nI 6))
  ) else (
  if p0 = (nI 43) then (
    some ((nI 5))
  ) else (
  if p0 = (nI 45) then (
    some ((nI 5))
  ) else (
  if p0 = (nI 47) then (
    some ((nI 6))
  ) else (
  if p0 = (nI 60) then (
    some ((nI 4))
  ) else (
  if p0 = (nI 61) then (
    some ((nI 4))
  ) else (
  if p0 = (nI 62) then (
    some ((nI 4))
  ) else (
  if p0 = (nI 124) then (
    some ((nI 1))
  ) else (
  some ((nI 0))
  ))))))))))
set_option maxHeartbeats 4000000 in
theorem wX7_tightness {nx : Nat} {sh : bs_Sh} {R : Nat → Nat → Option Nat} {x : Nat} (HX : fg_S (bs_tS x) R x sh) {mu : bs_Mm} (hR : fg_R R mu) {p0 : Int32} {r : Int32} (h : FX7_tightness x mu p0 = some r) : bs_C mX7_tightness (bs_rm 0 0 0) [.int p0] nx sh mu (fg_po R nx sh (some (.int r)) mu) := by
  refine bs_ct (by decide +kernel) (Nat.le_of_ble_eq_true rfl) ?_
  have kr : ∀ q, r = q → fg_R R mu → (fg_po R nx sh (some (.int r)) mu) (some (.int q)) nx sh mu := fun q e hq => by subst e; exact ⟨rfl, rfl, rfl, rfl, hq⟩
  unfold FX7_tightness at h
  refine bs_iload_n dX7_tightness_0 rfl ?_
  by_cases e1 : p0 = (nI 33)
  · replace h := fg_ip e1 h
    refine bs_lookup (off := 95) (tgt := 96) dX7_tightness_1 (by decide) (by rw [e1]; decide) (by decide) ?_
    refine bs_iconst (v := (nI 3)) dX7_tightness_96 (by decide) ?_
    cases h
    exact bs_iret dX7_tightness_97 rfl (Nat.zero_le _) (Nat.zero_le _) (kr _ rfl hR)
  · replace h := fg_iN e1 h
    by_cases e2 : p0 = (nI 38)
    · replace h := fg_ip e2 h
      refine bs_lookup (off := 93) (tgt := 94) dX7_tightness_1 (by decide) (by rw [e2]; decide) (by decide) ?_
      refine bs_iconst (v := (nI 2)) dX7_tightness_94 (by decide) ?_
      cases h
      exact bs_iret dX7_tightness_95 rfl (Nat.zero_le _) (Nat.zero_le _) (kr _ rfl hR)
    · replace h := fg_iN e2 h
      by_cases e3 : p0 = (nI 42)
      · replace h := fg_ip e3 h
        refine bs_lookup (off := 101) (tgt := 102) dX7_tightness_1 (by decide) (by rw [e3]; decide) (by decide) ?_
        refine bs_bipush (v := (nI 6)) dX7_tightness_102 (by decide) ?_
        cases h
        exact bs_iret dX7_tightness_104 rfl (Nat.zero_le _) (Nat.zero_le _) (kr _ rfl hR)
      · replace h := fg_iN e3 h
        by_cases e4 : p0 = (nI 43)
        · replace h := fg_ip e4 h
          refine bs_lookup (off := 99) (tgt := 100) dX7_tightness_1 (by decide) (by rw [e4]; decide) (by decide) ?_
          refine bs_iconst (v := (nI 5)) dX7_tightness_100 (by decide) ?_
          cases h
          exact bs_iret dX7_tightness_101 rfl (Nat.zero_le _) (Nat.zero_le _) (kr _ rfl hR)
        · replace h := fg_iN e4 h
          by_cases e5 : p0 = (nI 45)
          · replace h := fg_ip e5 h
            refine bs_lookup (off := 99) (tgt := 100) dX7_tightness_1 (by decide) (by rw [e5]; decide) (by decide) ?_
            refine bs_iconst (v := (nI 5)) dX7_tightness_100 (by decide) ?_
            cases h
            exact bs_iret dX7_tightness_101 rfl (Nat.zero_le _) (Nat.zero_le _) (kr _ rfl hR)
          · replace h := fg_iN e5 h
            by_cases e6 : p0 = (nI 47)
            · replace h := fg_ip e6 h
              refine bs_lookup (off := 101) (tgt := 102) dX7_tightness_1 (by decide) (by rw [e6]; decide) (by decide) ?_
              refine bs_bipush (v := (nI 6)) dX7_tightness_102 (by decide) ?_
              cases h
              exact bs_iret dX7_tightness_104 rfl (Nat.zero_le _) (Nat.zero_le _) (kr _ rfl hR)
            · replace h := fg_iN e6 h
              by_cases e7 : p0 = (nI 60)
              · replace h := fg_ip e7 h
                refine bs_lookup (off := 97) (tgt := 98) dX7_tightness_1 (by decide) (by rw [e7]; decide) (by decide) ?_
                refine bs_iconst (v := (nI 4)) dX7_tightness_98 (by decide) ?_
                cases h
                exact bs_iret dX7_tightness_99 rfl (Nat.zero_le _) (Nat.zero_le _) (kr _ rfl hR)
              · replace h := fg_iN e7 h
                by_cases e8 : p0 = (nI 61)
                · replace h := fg_ip e8 h
                  refine bs_lookup (off := 97) (tgt := 98) dX7_tightness_1 (by decide) (by rw [e8]; decide) (by decide) ?_
                  refine bs_iconst (v := (nI 4)) dX7_tightness_98 (by decide) ?_
                  cases h
                  exact bs_iret dX7_tightness_99 rfl (Nat.zero_le _) (Nat.zero_le _) (kr _ rfl hR)
                · replace h := fg_iN e8 h
                  by_cases e9 : p0 = (nI 62)
                  · replace h := fg_ip e9 h
                    refine bs_lookup (off := 97) (tgt := 98) dX7_tightness_1 (by decide) (by rw [e9]; decide) (by decide) ?_
                    refine bs_iconst (v := (nI 4)) dX7_tightness_98 (by decide) ?_
                    cases h
                    exact bs_iret dX7_tightness_99 rfl (Nat.zero_le _) (Nat.zero_le _) (kr _ rfl hR)
                  · replace h := fg_iN e9 h
                    by_cases e10 : p0 = (nI 124)
                    · replace h := fg_ip e10 h
                      refine bs_lookup (off := 91) (tgt := 92) dX7_tightness_1 (by decide) (by rw [e10]; decide) (by decide) ?_
                      refine bs_iconst (v := (nI 1)) dX7_tightness_92 (by decide) ?_
                      cases h
                      exact bs_iret dX7_tightness_93 rfl (Nat.zero_le _) (Nat.zero_le _) (kr _ rfl hR)
                    · replace h := fg_iN e10 h
                      refine bs_lookup (off := 104) (tgt := 105) dX7_tightness_1 (by decide) ?_ (by decide) ?_
                      · show Op.lookupswitch.offset [((33 : Int), (95 : Int)), ((38 : Int), (93 : Int)), ((42 : Int), (101 : Int)), ((43 : Int), (99 : Int)), ((45 : Int), (99 : Int)), ((47 : Int), (101 : Int)), ((60 : Int), (97 : Int)), ((61 : Int), (97 : Int)), ((62 : Int), (97 : Int)), ((124 : Int), (91 : Int))] (104) _ = _; rw [lv_osw e1 (by decide), lv_osw e2 (by decide), lv_osw e3 (by decide), lv_osw e4 (by decide), lv_osw e5 (by decide), lv_osw e6 (by decide), lv_osw e7 (by decide), lv_osw e8 (by decide), lv_osw e9 (by decide), lv_osw e10 (by decide)]; rfl
                      · refine bs_iconst (v := (nI 0)) dX7_tightness_105 (by decide) ?_
                        cases h
                        exact bs_iret dX7_tightness_106 rfl (Nat.zero_le _) (Nat.zero_le _) (kr _ rfl hR)
noncomputable def FX7_tellWaiting_j59_L0 (x : Nat) (mu : bs_Mm) (l1 : Int32) (t1 : Int32) (t2 : Int32) : Option ((bs_Mm) ⊕ (bs_Mm)) :=
  fg_wr mu (x + 20) 7 (.int (t1 - t2)) (fun mu6 => 
  fg_gd (fg_in (bs_iv (mu6 (x + 20) 4)) 200) (
  fg_bd (FX7_tell x mu6 (-(bs_iv (mu6 (x + 24) (bs_iv (mu6 (x + 20) 4)).toNatClampNeg)))) (fun mu9 => 
  some (.inl mu9))))
set_option maxHeartbeats 4000000 in
theorem wFX7_tellWaiting_j59_L0 {nx : Nat} {sh : bs_Sh} {R : Nat → Nat → Option Nat} {x : Nat} (HX : fg_S (bs_tS x) R x sh) {mu : bs_Mm} {l1 : Int32} {t1 : Int32} {t2 : Int32} {Ph : bs_Po} {r : (bs_Mm) ⊕ (bs_Mm)} (ka : ∀ s, r = .inl s → fg_R R s → bs_W Ph mX7_tellWaiting (bs_rm 1 0 0) 0 (bs_mk [(0, .ref (x + 20)), (1, .int l1)]) [] 0 0 nx sh s) (ke : ∀ s, r = .inr s → fg_R R s → bs_W Ph mX7_tellWaiting (bs_rm 1 0 0) 80 (bs_mk [(0, .ref (x + 20)), (1, .int l1)]) [] 0 0 nx sh s) (hR : fg_R R mu) (h : FX7_tellWaiting_j59_L0 x mu l1 t1 t2 = some r) : bs_W Ph mX7_tellWaiting (bs_rm 1 0 0) 59 (bs_mk [(0, .ref (x + 20)), (1, .int l1)]) [.int t2, .int t1, .ref (x + 20)] 0 0 nx sh mu := by
  unfold FX7_tellWaiting_j59_L0 at h
  refine bs_isub dX7_tellWaiting_59 ?_
  refine fg_putI dX7_tellWaiting_60 pX7_62 (HX.s 20 rfl rfl rfl) (HX.n 20 7 rfl rfl rfl) hR h (fun mu6 hR h => ?_)
  refine bs_aload_n dX7_tellWaiting_63 rfl ?_
  refine bs_aload_n dX7_tellWaiting_64 rfl ?_
  refine fg_getR (b := (x + 24)) dX7_tellWaiting_65 fX7_22 (HX.s 20 rfl rfl rfl) hR (HX.r 20 2 rfl rfl rfl) ?_
  refine bs_aload_n dX7_tellWaiting_68 rfl ?_
  refine bs_getI dX7_tellWaiting_69 fX7_56 (HX.s 20 rfl rfl rfl) ?_
  obtain ⟨g7, h⟩ := fg_gdE h
  refine bs_iald dX7_tellWaiting_72 (HX.ss 24 rfl rfl) (fg_in_ix g7) ?_
  refine bs_ineg dX7_tellWaiting_73 ?_
  obtain ⟨mu9, k8, h⟩ := fg_bdE h
  refine fg_callVv dX7_tellWaiting_74 qX7_92 (wX7_tell HX hR k8) rfl (HX.s 20 rfl rfl rfl) rfl (Nat.le_of_ble_eq_true rfl) (fg_cr (by first | decide | omega) (by decide)) (fun hR => ?_)
  refine bs_goto (tgt := 0) dX7_tellWaiting_77 (by decide) ?_
  cases h
  refine bs_W.mk [(0, .ref (x + 20)), (1, .int l1)] (by intro q hq; simp only [List.mem_cons, List.not_mem_nil, or_false] at hq; rcases hq with rfl | rfl <;> rfl) (ka _ rfl hR)
noncomputable def FX7_tellWaiting_b0 (x : Nat)  (l1 : Int32) (s : bs_Mm) : Option ((bs_Mm) ⊕ (bs_Mm)) :=
  if (bs_iv (s (x + 20) 4)) ≤ 0 then (
    some (.inr s)
  ) else (
    fg_gd (fg_in ((bs_iv (s (x + 20) 4)) - (nI 1)) 200) (
    fg_bd (FX7_tightness x s (bs_iv (s (x + 24) ((bs_iv (s (x + 20) 4)) - (nI 1)).toNatClampNeg))) (fun v3 => 
    if v3 < l1 then (
      some (.inr s)
    ) else (
      fg_wr s (x + 20) 4 (.int ((bs_iv (s (x + 20) 4)) - (nI 1))) (fun mu4 => 
      fg_gd (fg_in (bs_iv (mu4 (x + 20) 4)) 200) (
      if (bs_iv (mu4 (x + 24) (bs_iv (mu4 (x + 20) 4)).toNatClampNeg)) = (nI 33) then (
        FX7_tellWaiting_j59_L0 x mu4 l1 (bs_iv (mu4 (x + 20) 7)) (nI 1)
      ) else (
        FX7_tellWaiting_j59_L0 x mu4 l1 (bs_iv (mu4 (x + 20) 7)) (nI 0)
      )))
    )))
  )
set_option maxHeartbeats 4000000 in
theorem wFX7_tellWaiting_b0 {nx : Nat} {sh : bs_Sh} {R : Nat → Nat → Option Nat} {x : Nat} (HX : fg_S (bs_tS x) R x sh) {l1 : Int32} {Ph : bs_Po} {s : bs_Mm} {r : (bs_Mm) ⊕ (bs_Mm)} (ka : ∀ s, r = .inl s → fg_R R s → bs_W Ph mX7_tellWaiting (bs_rm 1 0 0) 0 (bs_mk [(0, .ref (x + 20)), (1, .int l1)]) [] 0 0 nx sh s) (ke : ∀ s, r = .inr s → fg_R R s → bs_W Ph mX7_tellWaiting (bs_rm 1 0 0) 80 (bs_mk [(0, .ref (x + 20)), (1, .int l1)]) [] 0 0 nx sh s) (hR : fg_R R s) (h : FX7_tellWaiting_b0 x l1 s = some r) : bs_W Ph mX7_tellWaiting (bs_rm 1 0 0) 0 (bs_mk [(0, .ref (x + 20)), (1, .int l1)]) [] 0 0 nx sh s := by
  unfold FX7_tellWaiting_b0 at h
  refine bs_aload_n dX7_tellWaiting_0 rfl ?_
  refine bs_getI dX7_tellWaiting_1 fX7_56 (HX.s 20 rfl rfl rfl) ?_
  refine bs_if_le (tgt := 80) dX7_tellWaiting_4 (by decide) (fun c => ?_) (fun c => ?_)
  · replace h := fg_ip c h
    cases h
    refine bs_W.mk [(0, .ref (x + 20)), (1, .int l1)] (by intro q hq; simp only [List.mem_cons, List.not_mem_nil, or_false] at hq; rcases hq with rfl | rfl <;> rfl) (ke _ rfl hR)
  · replace h := fg_iN c h
    refine bs_aload_n dX7_tellWaiting_7 rfl ?_
    refine fg_getR (b := (x + 24)) dX7_tellWaiting_8 fX7_22 (HX.s 20 rfl rfl rfl) hR (HX.r 20 2 rfl rfl rfl) ?_
    refine bs_aload_n dX7_tellWaiting_11 rfl ?_
    refine bs_getI dX7_tellWaiting_12 fX7_56 (HX.s 20 rfl rfl rfl) ?_
    refine bs_iconst (v := (nI 1)) dX7_tellWaiting_15 (by decide) ?_
    refine bs_isub dX7_tellWaiting_16 ?_
    obtain ⟨g1, h⟩ := fg_gdE h
    refine bs_iald dX7_tellWaiting_17 (HX.ss 24 rfl rfl) (fg_in_ix g1) ?_
    obtain ⟨v3, k2, h⟩ := fg_bdE h
    refine fg_callS dX7_tellWaiting_18 qX7_119 (wX7_tightness HX hR k2) rfl rfl (Nat.le_of_ble_eq_true rfl) (fg_cr (by first | decide | omega) (by decide)) (fun hR => ?_)
    refine bs_iload_n dX7_tellWaiting_21 rfl ?_
    refine bs_icmp_lt (tgt := 80) dX7_tellWaiting_22 (by decide) (fun c => ?_) (fun c => ?_)
    · replace h := fg_ip c h
      cases h
      refine bs_W.mk [(0, .ref (x + 20)), (1, .int l1)] (by intro q hq; simp only [List.mem_cons, List.not_mem_nil, or_false] at hq; rcases hq with rfl | rfl <;> rfl) (ke _ rfl hR)
    · replace h := fg_iN c h
      refine bs_aload_n dX7_tellWaiting_25 rfl ?_
      refine bs_dup dX7_tellWaiting_26 rfl ?_
      refine bs_getI dX7_tellWaiting_27 fX7_56 (HX.s 20 rfl rfl rfl) ?_
      refine bs_iconst (v := (nI 1)) dX7_tellWaiting_30 (by decide) ?_
      refine bs_isub dX7_tellWaiting_31 ?_
      refine fg_putI dX7_tellWaiting_32 pX7_56 (HX.s 20 rfl rfl rfl) (HX.n 20 4 rfl rfl rfl) hR h (fun mu4 hR h => ?_)
      refine bs_aload_n dX7_tellWaiting_35 rfl ?_
      refine bs_dup dX7_tellWaiting_36 rfl ?_
      refine bs_getI dX7_tellWaiting_37 fX7_62 (HX.s 20 rfl rfl rfl) ?_
      refine bs_aload_n dX7_tellWaiting_40 rfl ?_
      refine fg_getR (b := (x + 24)) dX7_tellWaiting_41 fX7_22 (HX.s 20 rfl rfl rfl) hR (HX.r 20 2 rfl rfl rfl) ?_
      refine bs_aload_n dX7_tellWaiting_44 rfl ?_
      refine bs_getI dX7_tellWaiting_45 fX7_56 (HX.s 20 rfl rfl rfl) ?_
      obtain ⟨g5, h⟩ := fg_gdE h
      refine bs_iald dX7_tellWaiting_48 (HX.ss 24 rfl rfl) (fg_in_ix g5) ?_
      refine bs_bipush (v := (nI 33)) dX7_tellWaiting_49 (by decide) ?_
      refine bs_icmp_ne (tgt := 58) dX7_tellWaiting_51 (by decide) (fun c => ?_) (fun c => ?_)
      · replace h := fg_iN c h
        refine bs_iconst (v := (nI 0)) dX7_tellWaiting_58 (by decide) ?_
        refine bs_W.mk [(0, .ref (x + 20)), (1, .int l1)] (by intro q hq; simp only [List.mem_cons, List.not_mem_nil, or_false] at hq; rcases hq with rfl | rfl <;> rfl) ?_
        exact wFX7_tellWaiting_j59_L0 HX ka ke hR h
      · replace h := fg_ip c h
        refine bs_iconst (v := (nI 1)) dX7_tellWaiting_54 (by decide) ?_
        refine bs_goto (tgt := 59) dX7_tellWaiting_55 (by decide) ?_
        refine bs_W.mk [(0, .ref (x + 20)), (1, .int l1)] (by intro q hq; simp only [List.mem_cons, List.not_mem_nil, or_false] at hq; rcases hq with rfl | rfl <;> rfl) ?_
        exact wFX7_tellWaiting_j59_L0 HX ka ke hR h
theorem wFX7_tellWaiting_l0 {nx : Nat} {sh : bs_Sh} {R : Nat → Nat → Option Nat} {x : Nat} (HX : fg_S (bs_tS x) R x sh) {l1 : Int32} {Ph : bs_Po} {t : bs_Mm} : ∀ n (mu1 : bs_Mm), fg_lp (FX7_tellWaiting_b0 x l1) n mu1 = some t → fg_R R mu1 → (ke : ∀ s, t = s → fg_R R s → bs_W Ph mX7_tellWaiting (bs_rm 1 0 0) 80 (bs_mk [(0, .ref (x + 20)), (1, .int l1)]) [] 0 0 nx sh s) → bs_W Ph mX7_tellWaiting (bs_rm 1 0 0) 0 (bs_mk [(0, .ref (x + 20)), (1, .int l1)]) [] 0 0 nx sh mu1 := by
  intro n
  induction n with
  | zero => intro mu1 h; exact absurd h (fun z => fg_lp0 z)
  | succ n ih =>
    intro mu1 h hR ke
    obtain ⟨r, hb, h1, h2⟩ := fg_lpE h
    exact wFX7_tellWaiting_b0 (s := mu1) HX (fun s' e hR' => ih s' (h1 s' e) hR' ke) (fun s' e => ke s' (h2 _ e).symm) hR hb
noncomputable def FX7_tellWaiting (x : Nat) (mu : bs_Mm) (p1 : Int32) : Option (bs_Mm) :=
  fg_bd (fg_lp (FX7_tellWaiting_b0 x p1) fg_fu mu) (fun t10 => 
    some t10
  )
set_option maxHeartbeats 4000000 in
theorem wX7_tellWaiting {nx : Nat} {sh : bs_Sh} {R : Nat → Nat → Option Nat} {x : Nat} (HX : fg_S (bs_tS x) R x sh) {mu : bs_Mm} (hR : fg_R R mu) {p1 : Int32} {r : bs_Mm} (h : FX7_tellWaiting x mu p1 = some r) : bs_C mX7_tellWaiting (bs_rm 1 0 0) [.ref (x + 20), .int p1] nx sh mu (fg_po R nx sh none r) := by
  refine bs_ct (by decide +kernel) (Nat.le_of_ble_eq_true rfl) ?_
  have kr : ∀ q, r = q → fg_R R q → (fg_po R nx sh none r) none nx sh q := fun q e hq => by subst e; exact ⟨rfl, rfl, rfl, rfl, hq⟩
  unfold FX7_tellWaiting at h
  obtain ⟨t10, k11, h⟩ := fg_bdE h
  refine bs_W.mk [(0, .ref (x + 20)), (1, .int p1)] (by intro q hq; simp only [List.mem_cons, List.not_mem_nil, or_false] at hq; rcases hq with rfl | rfl <;> rfl) ?_
  refine wFX7_tellWaiting_l0 HX _ _ k11 hR ?_
  intro s e hR
  subst e
  cases h
  exact bs_vret dX7_tellWaiting_80 rfl (Nat.zero_le _) (Nat.zero_le _) (kr _ rfl hR)
noncomputable def FX7_joins (x : Nat) (mu : bs_Mm) (p1 : Int32) (p2 : Int32) (p3 : Int32) : Option (Int32 × bs_Mm) :=
  fg_bd (FX7_tightness x mu p1) (fun v2 => 
  fg_bd (FX7_tellWaiting x mu v2) (fun mu4 => 
  fg_bd (FX7_await x mu4 p1) (fun mu6 => 
  fg_wr mu6 (x + 20) 5 (.int p2) (fun mu7 => 
  fg_wr mu7 (x + 20) 6 (.int p3) (fun mu8 => 
  some ((nI 1), mu8))))))
set_option maxHeartbeats 4000000 in
theorem wX7_joins {nx : Nat} {sh : bs_Sh} {R : Nat → Nat → Option Nat} {x : Nat} (HX : fg_S (bs_tS x) R x sh) {mu : bs_Mm} (hR : fg_R R mu) {p1 : Int32} {p2 : Int32} {p3 : Int32} {r : Int32 × bs_Mm} (h : FX7_joins x mu p1 p2 p3 = some r) : bs_C mX7_joins (bs_rm 2 0 0) [.ref (x + 20), .int p1, .int p2, .int p3] nx sh mu (fg_po R nx sh (some (.int r.1)) r.2) := by
  refine bs_ct (by decide +kernel) (Nat.le_of_ble_eq_true rfl) ?_
  have kr : ∀ q, r = q → fg_R R q.2 → (fg_po R nx sh (some (.int r.1)) r.2) (some (.int q.1)) nx sh q.2 := fun q e hq => by subst e; exact ⟨rfl, rfl, rfl, rfl, hq⟩
  unfold FX7_joins at h
  refine bs_aload_n dX7_joins_0 rfl ?_
  refine bs_iload_n dX7_joins_1 rfl ?_
  obtain ⟨v2, k1, h⟩ := fg_bdE h
  refine fg_callS dX7_joins_2 qX7_119 (wX7_tightness HX hR k1) rfl rfl (Nat.le_of_ble_eq_true rfl) (fg_cr (by first | decide | omega) (by decide)) (fun hR => ?_)
  obtain ⟨mu4, k3, h⟩ := fg_bdE h
  refine fg_callVv dX7_joins_5 qX7_122 (wX7_tellWaiting HX hR k3) rfl (HX.s 20 rfl rfl rfl) rfl (Nat.le_of_ble_eq_true rfl) (fg_cr (by first | decide | omega) (by decide)) (fun hR => ?_)
  refine bs_aload_n dX7_joins_8 rfl ?_
  refine bs_iload_n dX7_joins_9 rfl ?_
  obtain ⟨mu6, k5, h⟩ := fg_bdE h
  refine fg_callVv dX7_joins_10 qX7_96 (wX7_await HX hR k5) rfl (HX.s 20 rfl rfl rfl) rfl (Nat.le_of_ble_eq_true rfl) (fg_cr (by first | decide | omega) (by decide)) (fun hR => ?_)
  refine bs_aload_n dX7_joins_13 rfl ?_
  refine bs_iload_n dX7_joins_14 rfl ?_
  refine fg_putI dX7_joins_15 pX7_46 (HX.s 20 rfl rfl rfl) (HX.n 20 5 rfl rfl rfl) hR h (fun mu7 hR h => ?_)
  refine bs_aload_n dX7_joins_18 rfl ?_
  refine bs_iload_n dX7_joins_19 rfl ?_
  refine fg_putI dX7_joins_20 pX7_59 (HX.s 20 rfl rfl rfl) (HX.n 20 6 rfl rfl rfl) hR h (fun mu8 hR h => ?_)
  refine bs_iconst (v := (nI 1)) dX7_joins_23 (by decide) ?_
  cases h
  exact bs_zret dX7_joins_24 rfl (Or.inr rfl) (Nat.zero_le _) (Nat.zero_le _) (kr _ rfl hR)
noncomputable def FX7_unitIsWhole (x : Nat) (mu : bs_Mm) : Option (Int32) :=
  if (bs_iv (mu (x + 20) 6)) = (nI 2) then (
    some ((nI 1))
  ) else (
    if (bs_iv (mu (x + 20) 6)) = (nI 5) then (
      some ((nI 1))
    ) else (
      some ((nI 0))
    )
  )
set_option maxHeartbeats 4000000 in
theorem wX7_unitIsWhole {nx : Nat} {sh : bs_Sh} {R : Nat → Nat → Option Nat} {x : Nat} (HX : fg_S (bs_tS x) R x sh) {mu : bs_Mm} (hR : fg_R R mu) {r : Int32} (h : FX7_unitIsWhole x mu = some r) : bs_C mX7_unitIsWhole (bs_rm 0 0 0) [.ref (x + 20)] nx sh mu (fg_po R nx sh (some (.int r)) mu) := by
  refine bs_ct (by decide +kernel) (Nat.le_of_ble_eq_true rfl) ?_
  have kr : ∀ q, r = q → fg_R R mu → (fg_po R nx sh (some (.int r)) mu) (some (.int q)) nx sh mu := fun q e hq => by subst e; exact ⟨rfl, rfl, rfl, rfl, hq⟩
  unfold FX7_unitIsWhole at h
  refine bs_aload_n dX7_unitIsWhole_0 rfl ?_
  refine bs_getI dX7_unitIsWhole_1 fX7_59 (HX.s 20 rfl rfl rfl) ?_
  refine bs_iconst (v := (nI 2)) dX7_unitIsWhole_4 (by decide) ?_
  refine bs_icmp_eq (tgt := 16) dX7_unitIsWhole_5 (by decide) (fun c => ?_) (fun c => ?_)
  · replace h := fg_ip c h
    refine bs_iconst (v := (nI 1)) dX7_unitIsWhole_16 (by decide) ?_
    refine bs_goto (tgt := 21) dX7_unitIsWhole_17 (by decide) ?_
    cases h
    exact bs_zret dX7_unitIsWhole_21 rfl (Or.inr rfl) (Nat.zero_le _) (Nat.zero_le _) (kr _ rfl hR)
  · replace h := fg_iN c h
    refine bs_aload_n dX7_unitIsWhole_8 rfl ?_
    refine bs_getI dX7_unitIsWhole_9 fX7_59 (HX.s 20 rfl rfl rfl) ?_
    refine bs_iconst (v := (nI 5)) dX7_unitIsWhole_12 (by decide) ?_
    refine bs_icmp_ne (tgt := 20) dX7_unitIsWhole_13 (by decide) (fun c => ?_) (fun c => ?_)
    · replace h := fg_iN c h
      refine bs_iconst (v := (nI 0)) dX7_unitIsWhole_20 (by decide) ?_
      cases h
      exact bs_zret dX7_unitIsWhole_21 rfl (Or.inl rfl) (Nat.zero_le _) (Nat.zero_le _) (kr _ rfl hR)
    · replace h := fg_ip c h
      refine bs_iconst (v := (nI 1)) dX7_unitIsWhole_16 (by decide) ?_
      refine bs_goto (tgt := 21) dX7_unitIsWhole_17 (by decide) ?_
      cases h
      exact bs_zret dX7_unitIsWhole_21 rfl (Or.inr rfl) (Nat.zero_le _) (Nat.zero_le _) (kr _ rfl hR)
noncomputable def FX7_closes_j65 (x : Nat) (mu : bs_Mm) (l2 : Int32) (t1 : Int32) (t2 : Int32) : Option (Int32 × bs_Mm) :=
  fg_wr mu (x + 20) 8 (.int (t1 - t2)) (fun mu6 => 
  if l2 = (-1) then (
    fg_gd (fg_in (bs_iv (mu6 (x + 20) 4)) 200) (
    fg_wr mu6 (x + 20) 6 (.int (bs_iv (mu6 (x + 25) (bs_iv (mu6 (x + 20) 4)).toNatClampNeg))) (fun mu9 => 
    some ((nI 1), mu9)))
  ) else (
    fg_wr mu6 (x + 20) 6 (.int l2) (fun mu7 => 
    some ((nI 1), mu7))
  ))
set_option maxHeartbeats 4000000 in
theorem wFX7_closes_j65 {nx : Nat} {sh : bs_Sh} {R : Nat → Nat → Option Nat} {x : Nat} (HX : fg_S (bs_tS x) R x sh) {mu : bs_Mm} {l2 : Int32} {t1 : Int32} {t2 : Int32} {Ph : bs_Po} {r : Int32 × bs_Mm} (kr : ∀ q, r = q → fg_R R q.2 → Ph (some (.int q.1)) nx sh q.2) (hR : fg_R R mu) (h : FX7_closes_j65 x mu l2 t1 t2 = some r) : bs_W Ph mX7_closes (bs_rm 2 0 0) 65 (bs_mk [(0, .ref (x + 20)), (2, .int l2)]) [.int t2, .int t1, .ref (x + 20)] 0 0 nx sh mu := by
  unfold FX7_closes_j65 at h
  refine bs_isub dX7_closes_65 ?_
  refine fg_putI dX7_closes_66 pX7_65 (HX.s 20 rfl rfl rfl) (HX.n 20 8 rfl rfl rfl) hR h (fun mu6 hR h => ?_)
  refine bs_aload_n dX7_closes_69 rfl ?_
  refine bs_iload_n dX7_closes_70 rfl ?_
  refine bs_iconst (v := (-1)) dX7_closes_71 (by decide) ?_
  refine bs_icmp_ne (tgt := 87) dX7_closes_72 (by decide) (fun c => ?_) (fun c => ?_)
  · replace h := fg_iN c h
    refine bs_iload_n dX7_closes_87 rfl ?_
    refine fg_putI dX7_closes_88 pX7_59 (HX.s 20 rfl rfl rfl) (HX.n 20 6 rfl rfl rfl) hR h (fun mu7 hR h => ?_)
    refine bs_iconst (v := (nI 1)) dX7_closes_91 (by decide) ?_
    cases h
    exact bs_zret dX7_closes_92 rfl (Or.inr rfl) (Nat.zero_le _) (Nat.zero_le _) (kr _ rfl hR)
  · replace h := fg_ip c h
    refine bs_aload_n dX7_closes_75 rfl ?_
    refine fg_getR (b := (x + 25)) dX7_closes_76 fX7_26 (HX.s 20 rfl rfl rfl) hR (HX.r 20 3 rfl rfl rfl) ?_
    refine bs_aload_n dX7_closes_79 rfl ?_
    refine bs_getI dX7_closes_80 fX7_56 (HX.s 20 rfl rfl rfl) ?_
    obtain ⟨g8, h⟩ := fg_gdE h
    refine bs_iald dX7_closes_83 (HX.ss 25 rfl rfl) (fg_in_ix g8) ?_
    refine bs_goto (tgt := 88) dX7_closes_84 (by decide) ?_
    refine fg_putI dX7_closes_88 pX7_59 (HX.s 20 rfl rfl rfl) (HX.n 20 6 rfl rfl rfl) hR h (fun mu9 hR h => ?_)
    refine bs_iconst (v := (nI 1)) dX7_closes_91 (by decide) ?_
    cases h
    exact bs_zret dX7_closes_92 rfl (Or.inr rfl) (Nat.zero_le _) (Nat.zero_le _) (kr _ rfl hR)
noncomputable def FX7_closes (x : Nat) (mu : bs_Mm) (p1 : Int32) (p2 : Int32) : Option (Int32 × bs_Mm) :=
  fg_bd (FX7_tellWaiting x mu (nI 1)) (fun mu2 => 
  if (bs_iv (mu2 (x + 20) 4)) ≤ 0 then (
    some ((nI 0), mu2)
  ) else (
    fg_gd (fg_in ((bs_iv (mu2 (x + 20) 4)) - (nI 1)) 200) (
    if (bs_iv (mu2 (x + 24) ((bs_iv (mu2 (x + 20) 4)) - (nI 1)).toNatClampNeg)) = p1 then (
      fg_wr mu2 (x + 20) 4 (.int ((bs_iv (mu2 (x + 20) 4)) - (nI 1))) (fun mu4 => 
      fg_wr mu4 (x + 20) 7 (.int ((bs_iv (mu4 (x + 20) 7)) - (nI 1))) (fun mu5 => 
      if p1 = (nI 40) then (
        FX7_closes_j65 x mu5 p2 (bs_iv (mu5 (x + 20) 8)) (nI 1)
      ) else (
        FX7_closes_j65 x mu5 p2 (bs_iv (mu5 (x + 20) 8)) (nI 0)
      )))
    ) else (
      some ((nI 0), mu2)
    ))
  ))
set_option maxHeartbeats 4000000 in
theorem wX7_closes {nx : Nat} {sh : bs_Sh} {R : Nat → Nat → Option Nat} {x : Nat} (HX : fg_S (bs_tS x) R x sh) {mu : bs_Mm} (hR : fg_R R mu) {p1 : Int32} {p2 : Int32} {r : Int32 × bs_Mm} (h : FX7_closes x mu p1 p2 = some r) : bs_C mX7_closes (bs_rm 2 0 0) [.ref (x + 20), .int p1, .int p2] nx sh mu (fg_po R nx sh (some (.int r.1)) r.2) := by
  refine bs_ct (by decide +kernel) (Nat.le_of_ble_eq_true rfl) ?_
  have kr : ∀ q, r = q → fg_R R q.2 → (fg_po R nx sh (some (.int r.1)) r.2) (some (.int q.1)) nx sh q.2 := fun q e hq => by subst e; exact ⟨rfl, rfl, rfl, rfl, hq⟩
  unfold FX7_closes at h
  refine bs_aload_n dX7_closes_0 rfl ?_
  refine bs_iconst (v := (nI 1)) dX7_closes_1 (by decide) ?_
  obtain ⟨mu2, k1, h⟩ := fg_bdE h
  refine fg_callVv dX7_closes_2 qX7_122 (wX7_tellWaiting HX hR k1) rfl (HX.s 20 rfl rfl rfl) rfl (Nat.le_of_ble_eq_true rfl) (fg_cr (by first | decide | omega) (by decide)) (fun hR => ?_)
  refine bs_aload_n dX7_closes_5 rfl ?_
  refine bs_getI dX7_closes_6 fX7_56 (HX.s 20 rfl rfl rfl) ?_
  refine bs_if_le (tgt := 27) dX7_closes_9 (by decide) (fun c => ?_) (fun c => ?_)
  · replace h := fg_ip c h
    refine bs_iconst (v := (nI 0)) dX7_closes_27 (by decide) ?_
    cases h
    exact bs_zret dX7_closes_28 rfl (Or.inl rfl) (Nat.zero_le _) (Nat.zero_le _) (kr _ rfl hR)
  · replace h := fg_iN c h
    refine bs_aload_n dX7_closes_12 rfl ?_
    refine fg_getR (b := (x + 24)) dX7_closes_13 fX7_22 (HX.s 20 rfl rfl rfl) hR (HX.r 20 2 rfl rfl rfl) ?_
    refine bs_aload_n dX7_closes_16 rfl ?_
    refine bs_getI dX7_closes_17 fX7_56 (HX.s 20 rfl rfl rfl) ?_
    refine bs_iconst (v := (nI 1)) dX7_closes_20 (by decide) ?_
    refine bs_isub dX7_closes_21 ?_
    obtain ⟨g3, h⟩ := fg_gdE h
    refine bs_iald dX7_closes_22 (HX.ss 24 rfl rfl) (fg_in_ix g3) ?_
    refine bs_iload_n dX7_closes_23 rfl ?_
    refine bs_icmp_eq (tgt := 29) dX7_closes_24 (by decide) (fun c => ?_) (fun c => ?_)
    · replace h := fg_ip c h
      refine bs_aload_n dX7_closes_29 rfl ?_
      refine bs_dup dX7_closes_30 rfl ?_
      refine bs_getI dX7_closes_31 fX7_56 (HX.s 20 rfl rfl rfl) ?_
      refine bs_iconst (v := (nI 1)) dX7_closes_34 (by decide) ?_
      refine bs_isub dX7_closes_35 ?_
      refine fg_putI dX7_closes_36 pX7_56 (HX.s 20 rfl rfl rfl) (HX.n 20 4 rfl rfl rfl) hR h (fun mu4 hR h => ?_)
      refine bs_aload_n dX7_closes_39 rfl ?_
      refine bs_dup dX7_closes_40 rfl ?_
      refine bs_getI dX7_closes_41 fX7_62 (HX.s 20 rfl rfl rfl) ?_
      refine bs_iconst (v := (nI 1)) dX7_closes_44 (by decide) ?_
      refine bs_isub dX7_closes_45 ?_
      refine fg_putI dX7_closes_46 pX7_62 (HX.s 20 rfl rfl rfl) (HX.n 20 7 rfl rfl rfl) hR h (fun mu5 hR h => ?_)
      refine bs_aload_n dX7_closes_49 rfl ?_
      refine bs_dup dX7_closes_50 rfl ?_
      refine bs_getI dX7_closes_51 fX7_65 (HX.s 20 rfl rfl rfl) ?_
      refine bs_iload_n dX7_closes_54 rfl ?_
      refine bs_bipush (v := (nI 40)) dX7_closes_55 (by decide) ?_
      refine bs_icmp_ne (tgt := 64) dX7_closes_57 (by decide) (fun c => ?_) (fun c => ?_)
      · replace h := fg_iN c h
        refine bs_iconst (v := (nI 0)) dX7_closes_64 (by decide) ?_
        refine bs_W.mk [(0, .ref (x + 20)), (2, .int p2)] (by intro q hq; simp only [List.mem_cons, List.not_mem_nil, or_false] at hq; rcases hq with rfl | rfl <;> rfl) ?_
        exact wFX7_closes_j65 HX kr hR h
      · replace h := fg_ip c h
        refine bs_iconst (v := (nI 1)) dX7_closes_60 (by decide) ?_
        refine bs_goto (tgt := 65) dX7_closes_61 (by decide) ?_
        refine bs_W.mk [(0, .ref (x + 20)), (2, .int p2)] (by intro q hq; simp only [List.mem_cons, List.not_mem_nil, or_false] at hq; rcases hq with rfl | rfl <;> rfl) ?_
        exact wFX7_closes_j65 HX kr hR h
    · replace h := fg_iN c h
      refine bs_iconst (v := (nI 0)) dX7_closes_27 (by decide) ?_
      cases h
      exact bs_zret dX7_closes_28 rfl (Or.inl rfl) (Nat.zero_le _) (Nat.zero_le _) (kr _ rfl hR)
noncomputable def FX7_endsCondition (x : Nat) (mu : bs_Mm) : Option (Int32 × bs_Mm) :=
  fg_bd (FX7_tellWaiting x mu (nI 1)) (fun mu2 => 
  fg_wr mu2 (x + 20) 10 (.int (bs_iv (mu2 (x + 21) 1))) (fun mu3 => 
  fg_bd (FX7_tell x mu3 (nI 20000)) (fun mu5 => 
  fg_wr mu5 (x + 20) 5 (.int (nI 3)) (fun mu6 => 
  fg_wr mu6 (x + 20) 6 (.int (nI 3)) (fun mu7 => 
  some ((nI 1), mu7))))))
set_option maxHeartbeats 4000000 in
theorem wX7_endsCondition {nx : Nat} {sh : bs_Sh} {R : Nat → Nat → Option Nat} {x : Nat} (HX : fg_S (bs_tS x) R x sh) {mu : bs_Mm} (hR : fg_R R mu) {r : Int32 × bs_Mm} (h : FX7_endsCondition x mu = some r) : bs_C mX7_endsCondition (bs_rm 2 0 0) [.ref (x + 20)] nx sh mu (fg_po R nx sh (some (.int r.1)) r.2) := by
  refine bs_ct (by decide +kernel) (Nat.le_of_ble_eq_true rfl) ?_
  have kr : ∀ q, r = q → fg_R R q.2 → (fg_po R nx sh (some (.int r.1)) r.2) (some (.int q.1)) nx sh q.2 := fun q e hq => by subst e; exact ⟨rfl, rfl, rfl, rfl, hq⟩
  unfold FX7_endsCondition at h
  refine bs_aload_n dX7_endsCondition_0 rfl ?_
  refine bs_iconst (v := (nI 1)) dX7_endsCondition_1 (by decide) ?_
  obtain ⟨mu2, k1, h⟩ := fg_bdE h
  refine fg_callVv dX7_endsCondition_2 qX7_122 (wX7_tellWaiting HX hR k1) rfl (HX.s 20 rfl rfl rfl) rfl (Nat.le_of_ble_eq_true rfl) (fg_cr (by first | decide | omega) (by decide)) (fun hR => ?_)
  refine bs_aload_n dX7_endsCondition_5 rfl ?_
  refine bs_aload_n dX7_endsCondition_6 rfl ?_
  refine fg_getR (b := (x + 21)) dX7_endsCondition_7 fX7_12 (HX.s 20 rfl rfl rfl) hR (HX.r 20 0 rfl rfl rfl) ?_
  refine bs_getI dX7_endsCondition_10 fX7_53 (HX.s 21 rfl rfl rfl) ?_
  refine fg_putI dX7_endsCondition_13 pX7_71 (HX.s 20 rfl rfl rfl) (HX.n 20 10 rfl rfl rfl) hR h (fun mu3 hR h => ?_)
  refine bs_aload_n dX7_endsCondition_16 rfl ?_
  refine bs_sipush (v := (nI 20000)) dX7_endsCondition_17 (by decide) ?_
  obtain ⟨mu5, k4, h⟩ := fg_bdE h
  refine fg_callVv dX7_endsCondition_20 qX7_92 (wX7_tell HX hR k4) rfl (HX.s 20 rfl rfl rfl) rfl (Nat.le_of_ble_eq_true rfl) (fg_cr (by first | decide | omega) (by decide)) (fun hR => ?_)
  refine bs_aload_n dX7_endsCondition_23 rfl ?_
  refine bs_iconst (v := (nI 3)) dX7_endsCondition_24 (by decide) ?_
  refine fg_putI dX7_endsCondition_25 pX7_46 (HX.s 20 rfl rfl rfl) (HX.n 20 5 rfl rfl rfl) hR h (fun mu6 hR h => ?_)
  refine bs_aload_n dX7_endsCondition_28 rfl ?_
  refine bs_iconst (v := (nI 3)) dX7_endsCondition_29 (by decide) ?_
  refine fg_putI dX7_endsCondition_30 pX7_59 (HX.s 20 rfl rfl rfl) (HX.n 20 6 rfl rfl rfl) hR h (fun mu7 hR h => ?_)
  refine bs_iconst (v := (nI 1)) dX7_endsCondition_33 (by decide) ?_
  cases h
  exact bs_zret dX7_endsCondition_34 rfl (Or.inr rfl) (Nat.zero_le _) (Nat.zero_le _) (kr _ rfl hR)
noncomputable def FX7_endsClause_j17 (x : Nat) (mu : bs_Mm) : Option (Int32 × bs_Mm) :=
  fg_bd (FX7_tellWaiting x mu (nI 1)) (fun mu2 => 
  fg_bd (FX7_tell x mu2 (-59)) (fun mu4 => 
  if (bs_iv (mu4 (x + 20) 10)) = (-1) then (
    fg_wr mu4 (x + 20) 10 (.int (-1)) (fun mu5 => 
    fg_wr mu5 (x + 20) 5 (.int (nI 0)) (fun mu6 => 
    some ((nI 1), mu6)))
  ) else (
    fg_gd (fg_in (bs_iv (mu4 (x + 20) 10)) 201) (
    fg_wr mu4 (x + 22) (bs_iv (mu4 (x + 20) 10)).toNatClampNeg (.int ((nI 20000) + (bs_iv (mu4 (x + 21) 1)))) (fun mu8 => 
    fg_wr mu8 (x + 20) 10 (.int (-1)) (fun mu9 => 
    fg_wr mu9 (x + 20) 5 (.int (nI 0)) (fun mu10 => 
    some ((nI 1), mu10)))))
  )))
set_option maxHeartbeats 4000000 in
theorem wFX7_endsClause_j17 {nx : Nat} {sh : bs_Sh} {R : Nat → Nat → Option Nat} {x : Nat} (HX : fg_S (bs_tS x) R x sh) {mu : bs_Mm} {Ph : bs_Po} {r : Int32 × bs_Mm} (kr : ∀ q, r = q → fg_R R q.2 → Ph (some (.int q.1)) nx sh q.2) (hR : fg_R R mu) (h : FX7_endsClause_j17 x mu = some r) : bs_W Ph mX7_endsClause (bs_rm 2 0 0) 17 (bs_mk [(0, .ref (x + 20))]) [] 0 0 nx sh mu := by
  unfold FX7_endsClause_j17 at h
  refine bs_aload_n dX7_endsClause_17 rfl ?_
  refine bs_iconst (v := (nI 1)) dX7_endsClause_18 (by decide) ?_
  obtain ⟨mu2, k1, h⟩ := fg_bdE h
  refine fg_callVv dX7_endsClause_19 qX7_122 (wX7_tellWaiting HX hR k1) rfl (HX.s 20 rfl rfl rfl) rfl (Nat.le_of_ble_eq_true rfl) (fg_cr (by first | decide | omega) (by decide)) (fun hR => ?_)
  refine bs_aload_n dX7_endsClause_22 rfl ?_
  refine bs_bipush (v := (-59)) dX7_endsClause_23 (by decide) ?_
  obtain ⟨mu4, k3, h⟩ := fg_bdE h
  refine fg_callVv dX7_endsClause_25 qX7_92 (wX7_tell HX hR k3) rfl (HX.s 20 rfl rfl rfl) rfl (Nat.le_of_ble_eq_true rfl) (fg_cr (by first | decide | omega) (by decide)) (fun hR => ?_)
  refine bs_aload_n dX7_endsClause_28 rfl ?_
  refine bs_getI dX7_endsClause_29 fX7_71 (HX.s 20 rfl rfl rfl) ?_
  refine bs_iconst (v := (-1)) dX7_endsClause_32 (by decide) ?_
  refine bs_icmp_eq (tgt := 59) dX7_endsClause_33 (by decide) (fun c => ?_) (fun c => ?_)
  · replace h := fg_ip c h
    refine bs_aload_n dX7_endsClause_59 rfl ?_
    refine bs_iconst (v := (-1)) dX7_endsClause_60 (by decide) ?_
    refine fg_putI dX7_endsClause_61 pX7_71 (HX.s 20 rfl rfl rfl) (HX.n 20 10 rfl rfl rfl) hR h (fun mu5 hR h => ?_)
    refine bs_aload_n dX7_endsClause_64 rfl ?_
    refine bs_iconst (v := (nI 0)) dX7_endsClause_65 (by decide) ?_
    refine fg_putI dX7_endsClause_66 pX7_46 (HX.s 20 rfl rfl rfl) (HX.n 20 5 rfl rfl rfl) hR h (fun mu6 hR h => ?_)
    refine bs_iconst (v := (nI 1)) dX7_endsClause_69 (by decide) ?_
    cases h
    exact bs_zret dX7_endsClause_70 rfl (Or.inr rfl) (Nat.zero_le _) (Nat.zero_le _) (kr _ rfl hR)
  · replace h := fg_iN c h
    refine bs_aload_n dX7_endsClause_36 rfl ?_
    refine fg_getR (b := (x + 21)) dX7_endsClause_37 fX7_12 (HX.s 20 rfl rfl rfl) hR (HX.r 20 0 rfl rfl rfl) ?_
    refine fg_getR (b := (x + 22)) dX7_endsClause_40 fX7_89 (HX.s 21 rfl rfl rfl) hR (HX.r 21 0 rfl rfl rfl) ?_
    refine bs_aload_n dX7_endsClause_43 rfl ?_
    refine bs_getI dX7_endsClause_44 fX7_71 (HX.s 20 rfl rfl rfl) ?_
    refine bs_sipush (v := (nI 20000)) dX7_endsClause_47 (by decide) ?_
    refine bs_aload_n dX7_endsClause_50 rfl ?_
    refine fg_getR (b := (x + 21)) dX7_endsClause_51 fX7_12 (HX.s 20 rfl rfl rfl) hR (HX.r 20 0 rfl rfl rfl) ?_
    refine bs_getI dX7_endsClause_54 fX7_53 (HX.s 21 rfl rfl rfl) ?_
    refine bs_iadd dX7_endsClause_57 ?_
    obtain ⟨g7, h⟩ := fg_gdE h
    refine fg_iast dX7_endsClause_58 (HX.ss 22 rfl rfl) (fun j => HX.n 22 j rfl rfl rfl) g7 hR h (fun mu8 hR h => ?_)
    refine bs_aload_n dX7_endsClause_59 rfl ?_
    refine bs_iconst (v := (-1)) dX7_endsClause_60 (by decide) ?_
    refine fg_putI dX7_endsClause_61 pX7_71 (HX.s 20 rfl rfl rfl) (HX.n 20 10 rfl rfl rfl) hR h (fun mu9 hR h => ?_)
    refine bs_aload_n dX7_endsClause_64 rfl ?_
    refine bs_iconst (v := (nI 0)) dX7_endsClause_65 (by decide) ?_
    refine fg_putI dX7_endsClause_66 pX7_46 (HX.s 20 rfl rfl rfl) (HX.n 20 5 rfl rfl rfl) hR h (fun mu10 hR h => ?_)
    refine bs_iconst (v := (nI 1)) dX7_endsClause_69 (by decide) ?_
    cases h
    exact bs_zret dX7_endsClause_70 rfl (Or.inr rfl) (Nat.zero_le _) (Nat.zero_le _) (kr _ rfl hR)
noncomputable def FX7_endsClause (x : Nat) (mu : bs_Mm) : Option (Int32 × bs_Mm) :=
  if (bs_iv (mu (x + 20) 6)) = 0 then (
    FX7_endsClause_j17 x mu
  ) else (
    if (bs_iv (mu (x + 20) 6)) = (nI 3) then (
      FX7_endsClause_j17 x mu
    ) else (
      some ((nI 0), mu)
    )
  )
set_option maxHeartbeats 4000000 in
theorem wX7_endsClause {nx : Nat} {sh : bs_Sh} {R : Nat → Nat → Option Nat} {x : Nat} (HX : fg_S (bs_tS x) R x sh) {mu : bs_Mm} (hR : fg_R R mu) {r : Int32 × bs_Mm} (h : FX7_endsClause x mu = some r) : bs_C mX7_endsClause (bs_rm 2 0 0) [.ref (x + 20)] nx sh mu (fg_po R nx sh (some (.int r.1)) r.2) := by
  refine bs_ct (by decide +kernel) (Nat.le_of_ble_eq_true rfl) ?_
  have kr : ∀ q, r = q → fg_R R q.2 → (fg_po R nx sh (some (.int r.1)) r.2) (some (.int q.1)) nx sh q.2 := fun q e hq => by subst e; exact ⟨rfl, rfl, rfl, rfl, hq⟩
  unfold FX7_endsClause at h
  refine bs_aload_n dX7_endsClause_0 rfl ?_
  refine bs_getI dX7_endsClause_1 fX7_59 (HX.s 20 rfl rfl rfl) ?_
  refine bs_if_eq (tgt := 17) dX7_endsClause_4 (by decide) (fun c => ?_) (fun c => ?_)
  · replace h := fg_ip c h
    refine bs_W.mk [(0, .ref (x + 20))] (by intro q hq; simp only [List.mem_cons, List.not_mem_nil, or_false] at hq; rcases hq with rfl; rfl) ?_
    exact wFX7_endsClause_j17 HX kr hR h
  · replace h := fg_iN c h
    refine bs_aload_n dX7_endsClause_7 rfl ?_
    refine bs_getI dX7_endsClause_8 fX7_59 (HX.s 20 rfl rfl rfl) ?_
    refine bs_iconst (v := (nI 3)) dX7_endsClause_11 (by decide) ?_
    refine bs_icmp_eq (tgt := 17) dX7_endsClause_12 (by decide) (fun c => ?_) (fun c => ?_)
    · replace h := fg_ip c h
      refine bs_W.mk [(0, .ref (x + 20))] (by intro q hq; simp only [List.mem_cons, List.not_mem_nil, or_false] at hq; rcases hq with rfl; rfl) ?_
      exact wFX7_endsClause_j17 HX kr hR h
    · replace h := fg_iN c h
      refine bs_iconst (v := (nI 0)) dX7_endsClause_15 (by decide) ?_
      cases h
      exact bs_zret dX7_endsClause_16 rfl (Or.inl rfl) (Nat.zero_le _) (Nat.zero_le _) (kr _ rfl hR)
