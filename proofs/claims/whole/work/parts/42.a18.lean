noncomputable def fg_rQ (m : Nat) : Nat → bs_Mm → Int32 → Int32 → Int32 → Option (Int32)
  | 0 => fun _ _ _ _ => none
  | n + 1 => FX12_pairing m (fg_rQ m n)
theorem wfg_rQ {nx : Nat} {sh : bs_Sh} {R : Nat → Nat → Option Nat} {m : Nat} (HM : fg_S (bs_tM m) R m sh) : ∀ (n : Nat) {mu : bs_Mm} {a0 : Int32} {a1 : Int32} {a2 : Int32} {q : Int32}, fg_R R mu → fg_rQ m n mu a0 a1 a2 = some q → bs_C mX12_pairing (bs_rm (1 * n) 0 0) [.ref m, .int a0, .int a1, .int a2] nx sh mu (fg_po R nx sh (some (.int q)) mu) := by
  intro n
  induction n with
  | zero => intro mu a0 a1 a2 q hR h; cases h
  | succ n ih =>
    intro mu a0 a1 a2 q hR h
    exact wX12_pairing HM ih hR h
noncomputable def FX12_plain_b25 (m : Nat)  (l1 : Int32) (s : Int32 × bs_Mm) : Option ((Int32 × bs_Mm) ⊕ (bs_Mm)) :=
  fg_gd (fg_in l1 13) (
  if (bs_iv (s.2 (m + 6) l1.toNatClampNeg)) ≤ s.1 then (
    some (.inr s.2)
  ) else (
    fg_gd (fg_in (((nI 6) * l1) + s.1) 78) (
    fg_gd (fg_in (((nI 6) * (bs_iv (s.2 m 20))) + s.1) 78) (
    fg_wr s.2 (m + 7) (((nI 6) * (bs_iv (s.2 m 20))) + s.1).toNatClampNeg (.int (bs_iv (s.2 (m + 7) (((nI 6) * l1) + s.1).toNatClampNeg))) (fun mu8 => 
    some (.inl ((s.1 + (nI 1)), mu8)))))
  ))
set_option maxHeartbeats 4000000 in
theorem wFX12_plain_b25 {nx : Nat} {sh : bs_Sh} {R : Nat → Nat → Option Nat} {m : Nat} (HM : fg_S (bs_tM m) R m sh) {l1 : Int32} {Ph : bs_Po} {s : Int32 × bs_Mm} {r : (Int32 × bs_Mm) ⊕ (bs_Mm)} (ka : ∀ s, r = .inl s → fg_R R s.2 → bs_W Ph mX12_plain (bs_rm 3 0 0) 25 (bs_mk [(0, .ref m), (1, .int l1), (2, .int s.1)]) [] 0 0 nx sh s.2) (ke : ∀ s, r = .inr s → fg_R R s → bs_W Ph mX12_plain (bs_rm 3 0 0) 66 (bs_mk [(0, .ref m), (1, .int l1)]) [] 0 0 nx sh s) (hR : fg_R R s.2) (h : FX12_plain_b25 m l1 s = some r) : bs_W Ph mX12_plain (bs_rm 3 0 0) 25 (bs_mk [(0, .ref m), (1, .int l1), (2, .int s.1)]) [] 0 0 nx sh s.2 := by
  unfold FX12_plain_b25 at h
  refine bs_iload_n dX12_plain_25 rfl ?_
  refine bs_aload_n dX12_plain_26 rfl ?_
  refine fg_getR (b := (m + 6)) dX12_plain_27 fX12_25 (HM.s 0 rfl rfl rfl) hR (HM.r 0 11 rfl rfl rfl) ?_
  refine bs_iload_n dX12_plain_30 rfl ?_
  obtain ⟨g5, h⟩ := fg_gdE h
  refine bs_iald dX12_plain_31 (HM.ss 6 rfl rfl) (fg_in_ix g5) ?_
  refine bs_icmp_ge (tgt := 66) dX12_plain_32 (by decide) (fun c => ?_) (fun c => ?_)
  · replace h := fg_ip c h
    cases h
    refine bs_W.mk [(0, .ref m), (1, .int l1)] (by intro q hq; simp only [List.mem_cons, List.not_mem_nil, or_false] at hq; rcases hq with rfl | rfl <;> rfl) (ke _ rfl hR)
  · replace h := fg_iN c h
    refine bs_aload_n dX12_plain_35 rfl ?_
    refine fg_getR (b := (m + 7)) dX12_plain_36 fX12_28 (HM.s 0 rfl rfl rfl) hR (HM.r 0 12 rfl rfl rfl) ?_
    refine bs_bipush (v := (nI 6)) dX12_plain_39 (by decide) ?_
    refine bs_aload_n dX12_plain_41 rfl ?_
    refine bs_getI dX12_plain_42 fX12_252 (HM.s 0 rfl rfl rfl) ?_
    refine bs_imul dX12_plain_45 ?_
    refine bs_iload_n dX12_plain_46 rfl ?_
    refine bs_iadd dX12_plain_47 ?_
    refine bs_aload_n dX12_plain_48 rfl ?_
    refine fg_getR (b := (m + 7)) dX12_plain_49 fX12_28 (HM.s 0 rfl rfl rfl) hR (HM.r 0 12 rfl rfl rfl) ?_
    refine bs_bipush (v := (nI 6)) dX12_plain_52 (by decide) ?_
    refine bs_iload_n dX12_plain_54 rfl ?_
    refine bs_imul dX12_plain_55 ?_
    refine bs_iload_n dX12_plain_56 rfl ?_
    refine bs_iadd dX12_plain_57 ?_
    obtain ⟨g6, h⟩ := fg_gdE h
    refine bs_iald dX12_plain_58 (HM.ss 7 rfl rfl) (fg_in_ix g6) ?_
    obtain ⟨g7, h⟩ := fg_gdE h
    refine fg_iast dX12_plain_59 (HM.ss 7 rfl rfl) (fun j => HM.n 7 j rfl rfl rfl) g7 hR h (fun mu8 hR h => ?_)
    refine fg_iinc (m := (nI 1)) dX12_plain_60 rfl rfl (by decide) ?_
    refine bs_goto (tgt := 25) dX12_plain_63 (by decide) ?_
    cases h
    refine bs_W.mk [(0, .ref m), (1, .int l1), (2, .int (s.1 + (nI 1)))] (by intro q hq; simp only [List.mem_cons, List.not_mem_nil, or_false] at hq; rcases hq with rfl | rfl | rfl <;> rfl) (by have k := ka _ rfl hR; dsimp only at k; exact k)
theorem wFX12_plain_l25 {nx : Nat} {sh : bs_Sh} {R : Nat → Nat → Option Nat} {m : Nat} (HM : fg_S (bs_tM m) R m sh) {l1 : Int32} {Ph : bs_Po} {t : bs_Mm} : ∀ n (y0 : Int32) (mu1 : bs_Mm), fg_lp (FX12_plain_b25 m l1) n (y0, mu1) = some t → fg_R R mu1 → (ke : ∀ s, t = s → fg_R R s → bs_W Ph mX12_plain (bs_rm 3 0 0) 66 (bs_mk [(0, .ref m), (1, .int l1)]) [] 0 0 nx sh s) → bs_W Ph mX12_plain (bs_rm 3 0 0) 25 (bs_mk [(0, .ref m), (1, .int l1), (2, .int y0)]) [] 0 0 nx sh mu1 := by
  intro n
  induction n with
  | zero => intro y0 mu1 h; exact absurd h (fun z => fg_lp0 z)
  | succ n ih =>
    intro y0 mu1 h hR ke
    obtain ⟨r, hb, h1, h2⟩ := fg_lpE h
    exact wFX12_plain_b25 (s := (y0, mu1)) HM (fun s' e hR' => ih s'.1 s'.2 (h1 s' e) hR' ke) (fun s' e => ke s' (h2 _ e).symm) hR hb
noncomputable def FX12_plain_b83 (m : Nat)  (l1 : Int32) (s : Int32 × bs_Mm) : Option ((Int32 × bs_Mm) ⊕ (bs_Mm)) :=
  fg_gd (fg_in l1 13) (
  if (bs_iv (s.2 (m + 9) l1.toNatClampNeg)) ≤ s.1 then (
    some (.inr s.2)
  ) else (
    fg_gd (fg_in s.1 60) (
    fg_wr s.2 (m + 15) s.1.toNatClampNeg (.int s.1) (fun mu16 => 
    some (.inl ((s.1 + (nI 1)), mu16))))
  ))
set_option maxHeartbeats 4000000 in
theorem wFX12_plain_b83 {nx : Nat} {sh : bs_Sh} {R : Nat → Nat → Option Nat} {m : Nat} (HM : fg_S (bs_tM m) R m sh) {l1 : Int32} {Ph : bs_Po} {s : Int32 × bs_Mm} {r : (Int32 × bs_Mm) ⊕ (bs_Mm)} (ka : ∀ s, r = .inl s → fg_R R s.2 → bs_W Ph mX12_plain (bs_rm 3 0 0) 83 (bs_mk [(0, .ref m), (1, .int l1), (2, .int s.1)]) [] 0 0 nx sh s.2) (ke : ∀ s, r = .inr s → fg_R R s → bs_W Ph mX12_plain (bs_rm 3 0 0) 106 (bs_mk [(0, .ref m), (1, .int l1)]) [] 0 0 nx sh s) (hR : fg_R R s.2) (h : FX12_plain_b83 m l1 s = some r) : bs_W Ph mX12_plain (bs_rm 3 0 0) 83 (bs_mk [(0, .ref m), (1, .int l1), (2, .int s.1)]) [] 0 0 nx sh s.2 := by
  unfold FX12_plain_b83 at h
  refine bs_iload_n dX12_plain_83 rfl ?_
  refine bs_aload_n dX12_plain_84 rfl ?_
  refine fg_getR (b := (m + 9)) dX12_plain_85 fX12_34 (HM.s 0 rfl rfl rfl) hR (HM.r 0 14 rfl rfl rfl) ?_
  refine bs_iload_n dX12_plain_88 rfl ?_
  obtain ⟨g14, h⟩ := fg_gdE h
  refine bs_iald dX12_plain_89 (HM.ss 9 rfl rfl) (fg_in_ix g14) ?_
  refine bs_icmp_ge (tgt := 106) dX12_plain_90 (by decide) (fun c => ?_) (fun c => ?_)
  · replace h := fg_ip c h
    cases h
    refine bs_W.mk [(0, .ref m), (1, .int l1)] (by intro q hq; simp only [List.mem_cons, List.not_mem_nil, or_false] at hq; rcases hq with rfl | rfl <;> rfl) (ke _ rfl hR)
  · replace h := fg_iN c h
    refine bs_aload_n dX12_plain_93 rfl ?_
    refine fg_getR (b := (m + 15)) dX12_plain_94 fX12_52 (HM.s 0 rfl rfl rfl) hR (HM.r 0 21 rfl rfl rfl) ?_
    refine bs_iload_n dX12_plain_97 rfl ?_
    refine bs_iload_n dX12_plain_98 rfl ?_
    obtain ⟨g15, h⟩ := fg_gdE h
    refine fg_iast dX12_plain_99 (HM.ss 15 rfl rfl) (fun j => HM.n 15 j rfl rfl rfl) g15 hR h (fun mu16 hR h => ?_)
    refine fg_iinc (m := (nI 1)) dX12_plain_100 rfl rfl (by decide) ?_
    refine bs_goto (tgt := 83) dX12_plain_103 (by decide) ?_
    cases h
    refine bs_W.mk [(0, .ref m), (1, .int l1), (2, .int (s.1 + (nI 1)))] (by intro q hq; simp only [List.mem_cons, List.not_mem_nil, or_false] at hq; rcases hq with rfl | rfl | rfl <;> rfl) (by have k := ka _ rfl hR; dsimp only at k; exact k)
theorem wFX12_plain_l83 {nx : Nat} {sh : bs_Sh} {R : Nat → Nat → Option Nat} {m : Nat} (HM : fg_S (bs_tM m) R m sh) {l1 : Int32} {Ph : bs_Po} {t : bs_Mm} : ∀ n (y0 : Int32) (mu1 : bs_Mm), fg_lp (FX12_plain_b83 m l1) n (y0, mu1) = some t → fg_R R mu1 → (ke : ∀ s, t = s → fg_R R s → bs_W Ph mX12_plain (bs_rm 3 0 0) 106 (bs_mk [(0, .ref m), (1, .int l1)]) [] 0 0 nx sh s) → bs_W Ph mX12_plain (bs_rm 3 0 0) 83 (bs_mk [(0, .ref m), (1, .int l1), (2, .int y0)]) [] 0 0 nx sh mu1 := by
  intro n
  induction n with
  | zero => intro y0 mu1 h; exact absurd h (fun z => fg_lp0 z)
  | succ n ih =>
    intro y0 mu1 h hR ke
    obtain ⟨r, hb, h1, h2⟩ := fg_lpE h
    exact wFX12_plain_b83 (s := (y0, mu1)) HM (fun s' e hR' => ih s'.1 s'.2 (h1 s' e) hR' ke) (fun s' e => ke s' (h2 _ e).symm) hR hb
noncomputable def FX12_plain_b168_L110 (m : Nat) (mu : bs_Mm) (l1 : Int32) (l2 : Int32) (l3 : Int32) (l4 : Int32) (s : Int32 × Int32) : Option ((Int32 × Int32) ⊕ (Int32)) :=
  if l3 < s.2 then (
    some (.inr s.1)
  ) else (
    fg_gd (fg_in (((nI 24) * l1) + s.2) 312) (
    some (.inl ((s.1 + (bs_iv (mu (m + 10) (((nI 24) * l1) + s.2).toNatClampNeg))), (s.2 + (nI 1)))))
  )
set_option maxHeartbeats 4000000 in
theorem wFX12_plain_b168_L110 {nx : Nat} {sh : bs_Sh} {R : Nat → Nat → Option Nat} {m : Nat} (HM : fg_S (bs_tM m) R m sh) {mu : bs_Mm} {l1 : Int32} {l2 : Int32} {l3 : Int32} {l4 : Int32} {Ph : bs_Po} {s : Int32 × Int32} {r : (Int32 × Int32) ⊕ (Int32)} (ka : ∀ s, r = .inl s → bs_W Ph mX12_plain (bs_rm 3 0 0) 168 (bs_mk [(0, .ref m), (1, .int l1), (2, .int l2), (3, .int l3), (4, .int l4), (5, .int s.1), (6, .int s.2)]) [] 0 0 nx sh mu) (ke : ∀ s, r = .inr s → bs_W Ph mX12_plain (bs_rm 3 0 0) 197 (bs_mk [(0, .ref m), (1, .int l1), (2, .int l2), (3, .int l3), (4, .int l4), (5, .int s)]) [] 0 0 nx sh mu) (hR : fg_R R mu) (h : FX12_plain_b168_L110 m mu l1 l2 l3 l4 s = some r) : bs_W Ph mX12_plain (bs_rm 3 0 0) 168 (bs_mk [(0, .ref m), (1, .int l1), (2, .int l2), (3, .int l3), (4, .int l4), (5, .int s.1), (6, .int s.2)]) [] 0 0 nx sh mu := by
  unfold FX12_plain_b168_L110 at h
  refine bs_iload dX12_plain_168 rfl ?_
  refine bs_iload_n dX12_plain_170 rfl ?_
  refine bs_icmp_gt (tgt := 197) dX12_plain_171 (by decide) (fun c => ?_) (fun c => ?_)
  · replace h := fg_ip c h
    cases h
    refine bs_W.mk [(0, .ref m), (1, .int l1), (2, .int l2), (3, .int l3), (4, .int l4), (5, .int s.1)] (by intro q hq; simp only [List.mem_cons, List.not_mem_nil, or_false] at hq; rcases hq with rfl | rfl | rfl | rfl | rfl | rfl <;> rfl) (ke _ rfl)
  · replace h := fg_iN c h
    refine bs_iload dX12_plain_174 rfl ?_
    refine bs_aload_n dX12_plain_176 rfl ?_
    refine fg_getR (b := (m + 10)) dX12_plain_177 fX12_37 (HM.s 0 rfl rfl rfl) hR (HM.r 0 15 rfl rfl rfl) ?_
    refine bs_bipush (v := (nI 24)) dX12_plain_180 (by decide) ?_
    refine bs_iload_n dX12_plain_182 rfl ?_
    refine bs_imul dX12_plain_183 ?_
    refine bs_iload dX12_plain_184 rfl ?_
    refine bs_iadd dX12_plain_186 ?_
    obtain ⟨g22, h⟩ := fg_gdE h
    refine bs_iald dX12_plain_187 (HM.ss 10 rfl rfl) (fg_in_ix g22) ?_
    refine bs_iadd dX12_plain_188 ?_
    refine bs_istore dX12_plain_189 rfl (by decide) ?_
    refine fg_iinc (m := (nI 1)) dX12_plain_191 rfl rfl (by decide) ?_
    refine bs_goto (tgt := 168) dX12_plain_194 (by decide) ?_
    cases h
    refine bs_W.mk [(0, .ref m), (1, .int l1), (2, .int l2), (3, .int l3), (4, .int l4), (5, .int (s.1 + (bs_iv (mu (m + 10) (((nI 24) * l1) + s.2).toNatClampNeg)))), (6, .int (s.2 + (nI 1)))] (by intro q hq; simp only [List.mem_cons, List.not_mem_nil, or_false] at hq; rcases hq with rfl | rfl | rfl | rfl | rfl | rfl | rfl <;> rfl) (by have k := ka _ rfl; dsimp only at k; exact k)
theorem wFX12_plain_l168_L110 {nx : Nat} {sh : bs_Sh} {R : Nat → Nat → Option Nat} {m : Nat} (HM : fg_S (bs_tM m) R m sh) {mu : bs_Mm} {l1 : Int32} {l2 : Int32} {l3 : Int32} {l4 : Int32} {Ph : bs_Po} {t : Int32} : ∀ n (y0 : Int32) (y1 : Int32), fg_lp (FX12_plain_b168_L110 m mu l1 l2 l3 l4) n (y0, y1) = some t → fg_R R mu → (ke : ∀ s, t = s → bs_W Ph mX12_plain (bs_rm 3 0 0) 197 (bs_mk [(0, .ref m), (1, .int l1), (2, .int l2), (3, .int l3), (4, .int l4), (5, .int s)]) [] 0 0 nx sh mu) → bs_W Ph mX12_plain (bs_rm 3 0 0) 168 (bs_mk [(0, .ref m), (1, .int l1), (2, .int l2), (3, .int l3), (4, .int l4), (5, .int y0), (6, .int y1)]) [] 0 0 nx sh mu := by
  intro n
  induction n with
  | zero => intro y0 y1 h; exact absurd h (fun z => fg_lp0 z)
  | succ n ih =>
    intro y0 y1 h hR ke
    obtain ⟨r, hb, h1, h2⟩ := fg_lpE h
    exact wFX12_plain_b168_L110 (s := (y0, y1)) HM (fun s' e => ih s'.1 s'.2 (h1 s' e) hR ke) (fun s' e => ke s' (h2 _ e).symm) hR hb
noncomputable def FX12_plain_j162_L110 (m : Nat) (mu : bs_Mm) (l1 : Int32) (l2 : Int32) (l3 : Int32) (l4 : Int32) : Option ((Int32 × Int32 × bs_Mm) ⊕ (bs_Mm)) :=
  fg_bd (fg_lp (FX12_plain_b168_L110 m mu l1 l2 l3 l4) fg_fu ((nI 0), l2)) (fun t23 => 
    fg_gd (fg_in l4 312) (
    fg_gd (fg_in (((nI 24) * l1) + l2) 312) (
    fg_gd (fg_in l4 312) (
    fg_bd (FX12_put m mu t23 (bs_iv (mu (m + 13) l4.toNatClampNeg)) (bs_iv (mu (m + 11) (((nI 24) * l1) + l2).toNatClampNeg)) (bs_iv (mu (m + 12) l4.toNatClampNeg))) (fun mu29 => 
    some (.inl ((l3 + (nI 1)), (l3 + (nI 1)), mu29))))))
  )
set_option maxHeartbeats 4000000 in
theorem wFX12_plain_j162_L110 {nx : Nat} {sh : bs_Sh} {R : Nat → Nat → Option Nat} {m : Nat} (HM : fg_S (bs_tM m) R m sh) {mu : bs_Mm} {l1 : Int32} {l2 : Int32} {l3 : Int32} {l4 : Int32} {Ph : bs_Po} {r : (Int32 × Int32 × bs_Mm) ⊕ (bs_Mm)} (ka : ∀ s, r = .inl s → fg_R R s.2.2 → bs_W Ph mX12_plain (bs_rm 3 0 0) 110 (bs_mk [(0, .ref m), (1, .int l1), (2, .int s.1), (3, .int s.2.1)]) [] 0 0 nx sh s.2.2) (ke : ∀ s, r = .inr s → fg_R R s → bs_W Ph mX12_plain (bs_rm 3 0 0) 238 (bs_mk [(0, .ref m), (1, .int l1)]) [] 0 0 nx sh s) (hR : fg_R R mu) (h : FX12_plain_j162_L110 m mu l1 l2 l3 l4 = some r) : bs_W Ph mX12_plain (bs_rm 3 0 0) 162 (bs_mk [(0, .ref m), (1, .int l1), (2, .int l2), (3, .int l3), (4, .int l4)]) [] 0 0 nx sh mu := by
  unfold FX12_plain_j162_L110 at h
  refine bs_iconst (v := (nI 0)) dX12_plain_162 (by decide) ?_
  refine bs_istore dX12_plain_163 rfl (by decide) ?_
  refine bs_iload_n dX12_plain_165 rfl ?_
  refine bs_istore dX12_plain_166 rfl (by decide) ?_
  obtain ⟨t23, k24, h⟩ := fg_bdE h
  refine bs_W.mk [(0, .ref m), (1, .int l1), (2, .int l2), (3, .int l3), (4, .int l4), (5, .int (nI 0)), (6, .int l2)] (by intro q hq; simp only [List.mem_cons, List.not_mem_nil, or_false] at hq; rcases hq with rfl | rfl | rfl | rfl | rfl | rfl | rfl <;> rfl) ?_
  refine wFX12_plain_l168_L110 HM _ _ _ k24 hR ?_
  intro s e
  subst e
  refine bs_aload_n dX12_plain_197 rfl ?_
  refine bs_iload dX12_plain_198 rfl ?_
  refine bs_aload_n dX12_plain_200 rfl ?_
  refine fg_getR (b := (m + 13)) dX12_plain_201 fX12_46 (HM.s 0 rfl rfl rfl) hR (HM.r 0 18 rfl rfl rfl) ?_
  refine bs_iload dX12_plain_204 rfl ?_
  obtain ⟨g25, h⟩ := fg_gdE h
  refine bs_iald dX12_plain_206 (HM.ss 13 rfl rfl) (fg_in_ix g25) ?_
  refine bs_aload_n dX12_plain_207 rfl ?_
  refine fg_getR (b := (m + 11)) dX12_plain_208 fX12_40 (HM.s 0 rfl rfl rfl) hR (HM.r 0 16 rfl rfl rfl) ?_
  refine bs_bipush (v := (nI 24)) dX12_plain_211 (by decide) ?_
  refine bs_iload_n dX12_plain_213 rfl ?_
  refine bs_imul dX12_plain_214 ?_
  refine bs_iload_n dX12_plain_215 rfl ?_
  refine bs_iadd dX12_plain_216 ?_
  obtain ⟨g26, h⟩ := fg_gdE h
  refine bs_iald dX12_plain_217 (HM.ss 11 rfl rfl) (fg_in_ix g26) ?_
  refine bs_aload_n dX12_plain_218 rfl ?_
  refine fg_getR (b := (m + 12)) dX12_plain_219 fX12_43 (HM.s 0 rfl rfl rfl) hR (HM.r 0 17 rfl rfl rfl) ?_
  refine bs_iload dX12_plain_222 rfl ?_
  obtain ⟨g27, h⟩ := fg_gdE h
  refine bs_iald dX12_plain_224 (HM.ss 12 rfl rfl) (fg_in_ix g27) ?_
  obtain ⟨mu29, k28, h⟩ := fg_bdE h
  refine fg_callVv dX12_plain_225 qX12_319 (wX12_put HM hR k28) rfl (HM.s 0 rfl rfl rfl) rfl (Nat.le_of_ble_eq_true rfl) (fg_cr (by first | decide | omega) (by decide)) (fun hR => ?_)
  refine bs_iload_n dX12_plain_228 rfl ?_
  refine bs_iconst (v := (nI 1)) dX12_plain_229 (by decide) ?_
  refine bs_iadd dX12_plain_230 ?_
  refine bs_istore_n dX12_plain_231 rfl (by decide) ?_
  refine fg_iinc (m := (nI 1)) dX12_plain_232 rfl rfl (by decide) ?_
  refine bs_goto (tgt := 110) dX12_plain_235 (by decide) ?_
  cases h
  refine bs_W.mk [(0, .ref m), (1, .int l1), (2, .int (l3 + (nI 1))), (3, .int (l3 + (nI 1)))] (by intro q hq; simp only [List.mem_cons, List.not_mem_nil, or_false] at hq; rcases hq with rfl | rfl | rfl | rfl <;> rfl) (by have k := ka _ rfl hR; dsimp only at k; exact k)
noncomputable def FX12_plain_b110 (m : Nat)  (l1 : Int32) (s : Int32 × Int32 × bs_Mm) : Option ((Int32 × Int32 × bs_Mm) ⊕ (bs_Mm)) :=
  fg_gd (fg_in l1 13) (
  if (bs_iv (s.2.2 (m + 8) l1.toNatClampNeg)) ≤ s.2.1 then (
    some (.inr s.2.2)
  ) else (
    fg_bd (FX12_isTwist m s.2.2 l1 s.2.1) (fun v21 => 
    if v21 = 0 then (
      FX12_plain_j162_L110 m s.2.2 l1 s.1 s.2.1 (((nI 24) * l1) + s.2.1)
    ) else (
      fg_bd (FX12_isSlack m s.2.2 l1 s.2.1) (fun v31 => 
      if v31 = 0 then (
        FX12_plain_j162_L110 m s.2.2 l1 s.1 s.2.1 (((nI 24) * l1) + s.2.1)
      ) else (
        fg_gd (fg_in (((nI 24) * l1) + s.2.1) 312) (
        fg_gd (fg_in (bs_iv (s.2.2 (m + 12) (((nI 24) * l1) + s.2.1).toNatClampNeg)) 60) (
        fg_wr s.2.2 (m + 15) (bs_iv (s.2.2 (m + 12) (((nI 24) * l1) + s.2.1).toNatClampNeg)).toNatClampNeg (.int (-1)) (fun mu34 => 
        some (.inl (s.1, (s.2.1 + (nI 1)), mu34)))))
      ))
    ))
  ))
set_option maxHeartbeats 4000000 in
theorem wFX12_plain_b110 {nx : Nat} {sh : bs_Sh} {R : Nat → Nat → Option Nat} {m : Nat} (HM : fg_S (bs_tM m) R m sh) {l1 : Int32} {Ph : bs_Po} {s : Int32 × Int32 × bs_Mm} {r : (Int32 × Int32 × bs_Mm) ⊕ (bs_Mm)} (ka : ∀ s, r = .inl s → fg_R R s.2.2 → bs_W Ph mX12_plain (bs_rm 3 0 0) 110 (bs_mk [(0, .ref m), (1, .int l1), (2, .int s.1), (3, .int s.2.1)]) [] 0 0 nx sh s.2.2) (ke : ∀ s, r = .inr s → fg_R R s → bs_W Ph mX12_plain (bs_rm 3 0 0) 238 (bs_mk [(0, .ref m), (1, .int l1)]) [] 0 0 nx sh s) (hR : fg_R R s.2.2) (h : FX12_plain_b110 m l1 s = some r) : bs_W Ph mX12_plain (bs_rm 3 0 0) 110 (bs_mk [(0, .ref m), (1, .int l1), (2, .int s.1), (3, .int s.2.1)]) [] 0 0 nx sh s.2.2 := by
  unfold FX12_plain_b110 at h
  refine bs_iload_n dX12_plain_110 rfl ?_
  refine bs_aload_n dX12_plain_111 rfl ?_
  refine fg_getR (b := (m + 8)) dX12_plain_112 fX12_31 (HM.s 0 rfl rfl rfl) hR (HM.r 0 13 rfl rfl rfl) ?_
  refine bs_iload_n dX12_plain_115 rfl ?_
  obtain ⟨g19, h⟩ := fg_gdE h
  refine bs_iald dX12_plain_116 (HM.ss 8 rfl rfl) (fg_in_ix g19) ?_
  refine bs_icmp_ge (tgt := 238) dX12_plain_117 (by decide) (fun c => ?_) (fun c => ?_)
  · replace h := fg_ip c h
    cases h
    refine bs_W.mk [(0, .ref m), (1, .int l1)] (by intro q hq; simp only [List.mem_cons, List.not_mem_nil, or_false] at hq; rcases hq with rfl | rfl <;> rfl) (ke _ rfl hR)
  · replace h := fg_iN c h
    refine bs_bipush (v := (nI 24)) dX12_plain_120 (by decide) ?_
    refine bs_iload_n dX12_plain_122 rfl ?_
    refine bs_imul dX12_plain_123 ?_
    refine bs_iload_n dX12_plain_124 rfl ?_
    refine bs_iadd dX12_plain_125 ?_
    refine bs_istore dX12_plain_126 rfl (by decide) ?_
    refine bs_aload_n dX12_plain_128 rfl ?_
    refine bs_iload_n dX12_plain_129 rfl ?_
    refine bs_iload_n dX12_plain_130 rfl ?_
    obtain ⟨v21, k20, h⟩ := fg_bdE h
    refine fg_callV dX12_plain_131 qX12_294 (wX12_isTwist HM hR k20) rfl (HM.s 0 rfl rfl rfl) rfl (Nat.le_of_ble_eq_true rfl) (fg_cr (by first | decide | omega) (by decide)) (fun hR => ?_)
    refine bs_if_eq (tgt := 162) dX12_plain_134 (by decide) (fun c => ?_) (fun c => ?_)
    · replace h := fg_ip c h
      refine bs_W.mk [(0, .ref m), (1, .int l1), (2, .int s.1), (3, .int s.2.1), (4, .int (((nI 24) * l1) + s.2.1))] (by intro q hq; simp only [List.mem_cons, List.not_mem_nil, or_false] at hq; rcases hq with rfl | rfl | rfl | rfl | rfl <;> rfl) ?_
      exact wFX12_plain_j162_L110 HM ka ke hR h
    · replace h := fg_iN c h
      refine bs_aload_n dX12_plain_137 rfl ?_
      refine bs_iload_n dX12_plain_138 rfl ?_
      refine bs_iload_n dX12_plain_139 rfl ?_
      obtain ⟨v31, k30, h⟩ := fg_bdE h
      refine fg_callV dX12_plain_140 qX12_298 (wX12_isSlack HM hR k30) rfl (HM.s 0 rfl rfl rfl) rfl (Nat.le_of_ble_eq_true rfl) (fg_cr (by first | decide | omega) (by decide)) (fun hR => ?_)
      refine bs_if_eq (tgt := 162) dX12_plain_143 (by decide) (fun c => ?_) (fun c => ?_)
      · replace h := fg_ip c h
        refine bs_W.mk [(0, .ref m), (1, .int l1), (2, .int s.1), (3, .int s.2.1), (4, .int (((nI 24) * l1) + s.2.1))] (by intro q hq; simp only [List.mem_cons, List.not_mem_nil, or_false] at hq; rcases hq with rfl | rfl | rfl | rfl | rfl <;> rfl) ?_
        exact wFX12_plain_j162_L110 HM ka ke hR h
      · replace h := fg_iN c h
        refine bs_aload_n dX12_plain_146 rfl ?_
        refine fg_getR (b := (m + 15)) dX12_plain_147 fX12_52 (HM.s 0 rfl rfl rfl) hR (HM.r 0 21 rfl rfl rfl) ?_
        refine bs_aload_n dX12_plain_150 rfl ?_
        refine fg_getR (b := (m + 12)) dX12_plain_151 fX12_43 (HM.s 0 rfl rfl rfl) hR (HM.r 0 17 rfl rfl rfl) ?_
        refine bs_iload dX12_plain_154 rfl ?_
        obtain ⟨g32, h⟩ := fg_gdE h
        refine bs_iald dX12_plain_156 (HM.ss 12 rfl rfl) (fg_in_ix g32) ?_
        refine bs_iconst (v := (-1)) dX12_plain_157 (by decide) ?_
        obtain ⟨g33, h⟩ := fg_gdE h
        refine fg_iast dX12_plain_158 (HM.ss 15 rfl rfl) (fun j => HM.n 15 j rfl rfl rfl) g33 hR h (fun mu34 hR h => ?_)
        refine bs_goto (tgt := 232) dX12_plain_159 (by decide) ?_
        refine fg_iinc (m := (nI 1)) dX12_plain_232 rfl rfl (by decide) ?_
        refine bs_goto (tgt := 110) dX12_plain_235 (by decide) ?_
        cases h
        refine bs_W.mk [(0, .ref m), (1, .int l1), (2, .int s.1), (3, .int (s.2.1 + (nI 1)))] (by intro q hq; simp only [List.mem_cons, List.not_mem_nil, or_false] at hq; rcases hq with rfl | rfl | rfl | rfl <;> rfl) (by have k := ka _ rfl hR; dsimp only at k; exact k)
theorem wFX12_plain_l110 {nx : Nat} {sh : bs_Sh} {R : Nat → Nat → Option Nat} {m : Nat} (HM : fg_S (bs_tM m) R m sh) {l1 : Int32} {Ph : bs_Po} {t : bs_Mm} : ∀ n (y0 : Int32) (y1 : Int32) (mu1 : bs_Mm), fg_lp (FX12_plain_b110 m l1) n (y0, y1, mu1) = some t → fg_R R mu1 → (ke : ∀ s, t = s → fg_R R s → bs_W Ph mX12_plain (bs_rm 3 0 0) 238 (bs_mk [(0, .ref m), (1, .int l1)]) [] 0 0 nx sh s) → bs_W Ph mX12_plain (bs_rm 3 0 0) 110 (bs_mk [(0, .ref m), (1, .int l1), (2, .int y0), (3, .int y1)]) [] 0 0 nx sh mu1 := by
  intro n
  induction n with
  | zero => intro y0 y1 mu1 h; exact absurd h (fun z => fg_lp0 z)
  | succ n ih =>
    intro y0 y1 mu1 h hR ke
    obtain ⟨r, hb, h1, h2⟩ := fg_lpE h
    exact wFX12_plain_b110 (s := (y0, y1, mu1)) HM (fun s' e hR' => ih s'.1 s'.2.1 s'.2.2 (h1 s' e) hR' ke) (fun s' e => ke s' (h2 _ e).symm) hR hb
noncomputable def FX12_plain (m : Nat) (mu : bs_Mm) (p1 : Int32) : Option (Int32 × bs_Mm) :=
  fg_bd (FX12_isFigure m mu p1) (fun v2 => 
  if v2 = 0 then (
    some ((-1), mu)
  ) else (
    if (bs_iv (mu m 20)) = (nI 12) then (
      some ((-1), mu)
    ) else (
      fg_bd (FX12_startFigure m mu) (fun mu4 => 
      fg_bd (fg_lp (FX12_plain_b25 m p1) fg_fu ((nI 0), mu4)) (fun t9 => 
        fg_gd (fg_in p1 13) (
        fg_gd (fg_in (bs_iv (t9 m 20)) 13) (
        fg_wr t9 (m + 6) (bs_iv (t9 m 20)).toNatClampNeg (.int (bs_iv (t9 (m + 6) p1.toNatClampNeg))) (fun mu13 => 
        fg_bd (fg_lp (FX12_plain_b83 m p1) fg_fu ((nI 0), mu13)) (fun t17 => 
          fg_bd (fg_lp (FX12_plain_b110 m p1) fg_fu ((nI 0), (nI 0), t17)) (fun t35 => 
            fg_gd (fg_in p1 13) (
            fg_bd (FX12_endFigure m t35 (bs_iv (t35 (m + 9) p1.toNatClampNeg))) (fun mu39 => 
            some (((bs_iv (mu39 m 20)) - (nI 1)), mu39)))
          )
        ))))
      ))
    )
  ))
set_option maxHeartbeats 4000000 in
theorem wX12_plain {nx : Nat} {sh : bs_Sh} {R : Nat → Nat → Option Nat} {m : Nat} (HM : fg_S (bs_tM m) R m sh) {mu : bs_Mm} (hR : fg_R R mu) {p1 : Int32} {r : Int32 × bs_Mm} (h : FX12_plain m mu p1 = some r) : bs_C mX12_plain (bs_rm 3 0 0) [.ref m, .int p1] nx sh mu (fg_po R nx sh (some (.int r.1)) r.2) := by
  refine bs_ct (by decide +kernel) (Nat.le_of_ble_eq_true rfl) ?_
  have kr : ∀ q, r = q → fg_R R q.2 → (fg_po R nx sh (some (.int r.1)) r.2) (some (.int q.1)) nx sh q.2 := fun q e hq => by subst e; exact ⟨rfl, rfl, rfl, rfl, hq⟩
  unfold FX12_plain at h
  refine bs_aload_n dX12_plain_0 rfl ?_
  refine bs_iload_n dX12_plain_1 rfl ?_
  obtain ⟨v2, k1, h⟩ := fg_bdE h
  refine fg_callV dX12_plain_2 qX12_284 (wX12_isFigure HM hR k1) rfl (HM.s 0 rfl rfl rfl) rfl (Nat.le_of_ble_eq_true rfl) (fg_cr (by first | decide | omega) (by decide)) (fun hR => ?_)
  refine bs_if_eq (tgt := 17) dX12_plain_5 (by decide) (fun c => ?_) (fun c => ?_)
  · replace h := fg_ip c h
    refine bs_iconst (v := (-1)) dX12_plain_17 (by decide) ?_
    cases h
    exact bs_iret dX12_plain_18 rfl (Nat.zero_le _) (Nat.zero_le _) (kr _ rfl hR)
  · replace h := fg_iN c h
    refine bs_aload_n dX12_plain_8 rfl ?_
    refine bs_getI dX12_plain_9 fX12_252 (HM.s 0 rfl rfl rfl) ?_
    refine bs_bipush (v := (nI 12)) dX12_plain_12 (by decide) ?_
    refine bs_icmp_ne (tgt := 19) dX12_plain_14 (by decide) (fun c => ?_) (fun c => ?_)
    · replace h := fg_iN c h
      refine bs_aload_n dX12_plain_19 rfl ?_
      obtain ⟨mu4, k3, h⟩ := fg_bdE h
      refine fg_callVv dX12_plain_20 qX12_316 (wX12_startFigure HM hR k3) rfl (HM.s 0 rfl rfl rfl) rfl (Nat.le_of_ble_eq_true rfl) (fg_cr (by first | decide | omega) (by decide)) (fun hR => ?_)
      refine bs_iconst (v := (nI 0)) dX12_plain_23 (by decide) ?_
      refine bs_istore_n dX12_plain_24 rfl (by decide) ?_
      obtain ⟨t9, k10, h⟩ := fg_bdE h
      refine bs_W.mk [(0, .ref m), (1, .int p1), (2, .int (nI 0))] (by intro q hq; simp only [List.mem_cons, List.not_mem_nil, or_false] at hq; rcases hq with rfl | rfl | rfl <;> rfl) ?_
      refine wFX12_plain_l25 HM _ _ _ k10 hR ?_
      intro s e hR
      subst e
      refine bs_aload_n dX12_plain_66 rfl ?_
      refine fg_getR (b := (m + 6)) dX12_plain_67 fX12_25 (HM.s 0 rfl rfl rfl) hR (HM.r 0 11 rfl rfl rfl) ?_
      refine bs_aload_n dX12_plain_70 rfl ?_
      refine bs_getI dX12_plain_71 fX12_252 (HM.s 0 rfl rfl rfl) ?_
      refine bs_aload_n dX12_plain_74 rfl ?_
      refine fg_getR (b := (m + 6)) dX12_plain_75 fX12_25 (HM.s 0 rfl rfl rfl) hR (HM.r 0 11 rfl rfl rfl) ?_
      refine bs_iload_n dX12_plain_78 rfl ?_
      obtain ⟨g11, h⟩ := fg_gdE h
      refine bs_iald dX12_plain_79 (HM.ss 6 rfl rfl) (fg_in_ix g11) ?_
      obtain ⟨g12, h⟩ := fg_gdE h
      refine fg_iast dX12_plain_80 (HM.ss 6 rfl rfl) (fun j => HM.n 6 j rfl rfl rfl) g12 hR h (fun mu13 hR h => ?_)
      refine bs_iconst (v := (nI 0)) dX12_plain_81 (by decide) ?_
      refine bs_istore_n dX12_plain_82 rfl (by decide) ?_
      obtain ⟨t17, k18, h⟩ := fg_bdE h
      refine bs_W.mk [(0, .ref m), (1, .int p1), (2, .int (nI 0))] (by intro q hq; simp only [List.mem_cons, List.not_mem_nil, or_false] at hq; rcases hq with rfl | rfl | rfl <;> rfl) ?_
      refine wFX12_plain_l83 HM _ _ _ k18 hR ?_
      intro s e hR
      subst e
      refine bs_iconst (v := (nI 0)) dX12_plain_106 (by decide) ?_
      refine bs_istore_n dX12_plain_107 rfl (by decide) ?_
      refine bs_iconst (v := (nI 0)) dX12_plain_108 (by decide) ?_
      refine bs_istore_n dX12_plain_109 rfl (by decide) ?_
      obtain ⟨t35, k36, h⟩ := fg_bdE h
      refine bs_W.mk [(0, .ref m), (1, .int p1), (2, .int (nI 0)), (3, .int (nI 0))] (by intro q hq; simp only [List.mem_cons, List.not_mem_nil, or_false] at hq; rcases hq with rfl | rfl | rfl | rfl <;> rfl) ?_
      refine wFX12_plain_l110 HM _ _ _ _ k36 hR ?_
      intro s e hR
      subst e
      refine bs_aload_n dX12_plain_238 rfl ?_
      refine bs_aload_n dX12_plain_239 rfl ?_
      refine fg_getR (b := (m + 9)) dX12_plain_240 fX12_34 (HM.s 0 rfl rfl rfl) hR (HM.r 0 14 rfl rfl rfl) ?_
      refine bs_iload_n dX12_plain_243 rfl ?_
      obtain ⟨g37, h⟩ := fg_gdE h
      refine bs_iald dX12_plain_244 (HM.ss 9 rfl rfl) (fg_in_ix g37) ?_
      obtain ⟨mu39, k38, h⟩ := fg_bdE h
      refine fg_callVv dX12_plain_245 qX12_323 (wX12_endFigure HM hR k38) rfl (HM.s 0 rfl rfl rfl) rfl (Nat.le_of_ble_eq_true rfl) (fg_cr (by first | decide | omega) (by decide)) (fun hR => ?_)
      refine bs_aload_n dX12_plain_248 rfl ?_
      refine bs_getI dX12_plain_249 fX12_252 (HM.s 0 rfl rfl rfl) ?_
      refine bs_iconst (v := (nI 1)) dX12_plain_252 (by decide) ?_
      refine bs_isub dX12_plain_253 ?_
      cases h
      exact bs_iret dX12_plain_254 rfl (Nat.zero_le _) (Nat.zero_le _) (kr _ rfl hR)
    · replace h := fg_ip c h
      refine bs_iconst (v := (-1)) dX12_plain_17 (by decide) ?_
      cases h
      exact bs_iret dX12_plain_18 rfl (Nat.zero_le _) (Nat.zero_le _) (kr _ rfl hR)
noncomputable def FX12_pop (m : Nat) (mu : bs_Mm) (p1 : Int32) (p2 : Int32) (p3 : Int32) : Option (Int32) :=
  fg_bd (FX12_isBubble m mu p1 p2) (fun v2 => 
  if v2 = 0 then (
    some ((-1))
  ) else (
    fg_bd (FX12_in m mu p3 (nI 0) (nI 2)) (fun v4 => 
    if v4 = 0 then (
      some ((-1))
    ) else (
      fg_bd (FX12_all m mu p1) (fun v6 => 
      fg_bd (FX12_leftOf m mu p1 (v6 &&& (((nI 1) <<< (p2 &&& 31)) ^^^ (-1)))) (fun v8 => 
      fg_bd (FX12_all m mu p1) (fun v10 => 
      if p3 = 0 then (
        some ((v10 &&& (v8 ^^^ (-1))))
      ) else (
        if p3 = (nI 1) then (
          fg_bd (FJ6_bitCount_0f7a4  mu (v10 &&& (v8 ^^^ (-1)))) (fun v14 => 
          some (v14))
        ) else (
          fg_bd (FX12_partsOf m mu p1 v8) (fun v12 => 
          some (v12))
        )
      ))))
    ))
  ))
set_option maxHeartbeats 4000000 in
theorem wX12_pop {nx : Nat} {sh : bs_Sh} {R : Nat → Nat → Option Nat} {m : Nat} (HM : fg_S (bs_tM m) R m sh) {mu : bs_Mm} (hR : fg_R R mu) {p1 : Int32} {p2 : Int32} {p3 : Int32} {r : Int32} (h : FX12_pop m mu p1 p2 p3 = some r) : bs_C mX12_pop (bs_rm 3 0 0) [.ref m, .int p1, .int p2, .int p3] nx sh mu (fg_po R nx sh (some (.int r)) mu) := by
  refine bs_ct (by decide +kernel) (Nat.le_of_ble_eq_true rfl) ?_
  have kr : ∀ q, r = q → fg_R R mu → (fg_po R nx sh (some (.int r)) mu) (some (.int q)) nx sh mu := fun q e hq => by subst e; exact ⟨rfl, rfl, rfl, rfl, hq⟩
  unfold FX12_pop at h
  refine bs_aload_n dX12_pop_0 rfl ?_
  refine bs_iload_n dX12_pop_1 rfl ?_
  refine bs_iload_n dX12_pop_2 rfl ?_
  obtain ⟨v2, k1, h⟩ := fg_bdE h
  refine fg_callV dX12_pop_3 qX12_304 (wX12_isBubble HM hR k1) rfl (HM.s 0 rfl rfl rfl) rfl (Nat.le_of_ble_eq_true rfl) (fg_cr (by first | decide | omega) (by decide)) (fun hR => ?_)
  refine bs_if_eq (tgt := 18) dX12_pop_6 (by decide) (fun c => ?_) (fun c => ?_)
  · replace h := fg_ip c h
    refine bs_iconst (v := (-1)) dX12_pop_18 (by decide) ?_
    cases h
    exact bs_iret dX12_pop_19 rfl (Nat.zero_le _) (Nat.zero_le _) (kr _ rfl hR)
  · replace h := fg_iN c h
    refine bs_iload_n dX12_pop_9 rfl ?_
    refine bs_iconst (v := (nI 0)) dX12_pop_10 (by decide) ?_
    refine bs_iconst (v := (nI 2)) dX12_pop_11 (by decide) ?_
    obtain ⟨v4, k3, h⟩ := fg_bdE h
    refine fg_callS dX12_pop_12 qX12_121 (wX12_in HM hR k3) rfl rfl (Nat.le_of_ble_eq_true rfl) (fg_cr (by first | decide | omega) (by decide)) (fun hR => ?_)
    refine bs_if_ne (tgt := 20) dX12_pop_15 (by decide) (fun c => ?_) (fun c => ?_)
    · replace h := fg_iN c h
      refine bs_aload_n dX12_pop_20 rfl ?_
      refine bs_iload_n dX12_pop_21 rfl ?_
      refine bs_aload_n dX12_pop_22 rfl ?_
      refine bs_iload_n dX12_pop_23 rfl ?_
      obtain ⟨v6, k5, h⟩ := fg_bdE h
      refine fg_callV dX12_pop_24 qX12_287 (wX12_all HM hR k5) rfl (HM.s 0 rfl rfl rfl) rfl (Nat.le_of_ble_eq_true rfl) (fg_cr (by first | decide | omega) (by decide)) (fun hR => ?_)
      refine bs_iconst (v := (nI 1)) dX12_pop_27 (by decide) ?_
      refine bs_iload_n dX12_pop_28 rfl ?_
      refine bs_ishl dX12_pop_29 ?_
      refine bs_iconst (v := (-1)) dX12_pop_30 (by decide) ?_
      refine bs_ixor dX12_pop_31 ?_
      refine bs_iand dX12_pop_32 ?_
      obtain ⟨v8, k7, h⟩ := fg_bdE h
      refine fg_callV dX12_pop_33 qX12_333 (wX12_leftOf HM hR k7) rfl (HM.s 0 rfl rfl rfl) rfl (Nat.le_of_ble_eq_true rfl) (fg_cr (by first | decide | omega) (by decide)) (fun hR => ?_)
      refine bs_istore dX12_pop_36 rfl (by decide) ?_
      refine bs_aload_n dX12_pop_38 rfl ?_
      refine bs_iload_n dX12_pop_39 rfl ?_
      obtain ⟨v10, k9, h⟩ := fg_bdE h
      refine fg_callV dX12_pop_40 qX12_287 (wX12_all HM hR k9) rfl (HM.s 0 rfl rfl rfl) rfl (Nat.le_of_ble_eq_true rfl) (fg_cr (by first | decide | omega) (by decide)) (fun hR => ?_)
      refine bs_iload dX12_pop_43 rfl ?_
      refine bs_iconst (v := (-1)) dX12_pop_45 (by decide) ?_
      refine bs_ixor dX12_pop_46 ?_
      refine bs_iand dX12_pop_47 ?_
      refine bs_istore dX12_pop_48 rfl (by decide) ?_
      refine bs_iload_n dX12_pop_50 rfl ?_
      refine bs_if_ne (tgt := 59) dX12_pop_51 (by decide) (fun c => ?_) (fun c => ?_)
      · replace h := fg_iN c h
        refine bs_iload_n dX12_pop_59 rfl ?_
        refine bs_iconst (v := (nI 1)) dX12_pop_60 (by decide) ?_
        refine bs_icmp_ne (tgt := 72) dX12_pop_61 (by decide) (fun c => ?_) (fun c => ?_)
        · replace h := fg_iN c h
          refine bs_aload_n dX12_pop_72 rfl ?_
          refine bs_iload_n dX12_pop_73 rfl ?_
          refine bs_iload dX12_pop_74 rfl ?_
          obtain ⟨v12, k11, h⟩ := fg_bdE h
          refine fg_callV dX12_pop_76 qX12_341 (wX12_partsOf HM hR k11) rfl (HM.s 0 rfl rfl rfl) rfl (Nat.le_of_ble_eq_true rfl) (fg_cr (by first | decide | omega) (by decide)) (fun hR => ?_)
          cases h
          exact bs_iret dX12_pop_79 rfl (Nat.zero_le _) (Nat.zero_le _) (kr _ rfl hR)
        · replace h := fg_ip c h
          refine bs_iload dX12_pop_64 rfl ?_
          obtain ⟨v14, k13, h⟩ := fg_bdE h
          refine fg_callS dX12_pop_66 qX12_336 (wJ6_bitCount_0f7a4  hR k13) rfl rfl (Nat.le_of_ble_eq_true rfl) (fg_cr (by first | decide | omega) (by decide)) (fun hR => ?_)
          refine bs_goto (tgt := 79) dX12_pop_69 (by decide) ?_
          cases h
          exact bs_iret dX12_pop_79 rfl (Nat.zero_le _) (Nat.zero_le _) (kr _ rfl hR)
      · replace h := fg_ip c h
        refine bs_iload dX12_pop_54 rfl ?_
        refine bs_goto (tgt := 79) dX12_pop_56 (by decide) ?_
        cases h
        exact bs_iret dX12_pop_79 rfl (Nat.zero_le _) (Nat.zero_le _) (kr _ rfl hR)
    · replace h := fg_ip c h
      refine bs_iconst (v := (-1)) dX12_pop_18 (by decide) ?_
      cases h
      exact bs_iret dX12_pop_19 rfl (Nat.zero_le _) (Nat.zero_le _) (kr _ rfl hR)
noncomputable def FX12_rest_b32 (m : Nat) (mu : bs_Mm) (l1 : Int32) (l2 : Int32) (l3 : Int32) (s : Int32 × Int32 × Int32) : Option ((Int32 × Int32 × Int32) ⊕ (Int32 × Int32)) :=
  fg_gd (fg_in l1 13) (
  if (bs_iv (mu (m + 8) l1.toNatClampNeg)) ≤ s.2.2 then (
    some (.inr (s.1, s.2.1))
  ) else (
    fg_gd (fg_in (((nI 24) * l1) + s.2.2) 312) (
    if (bs_iv (mu (m + 13) (((nI 24) * l1) + s.2.2).toNatClampNeg)) = l2 then (
      fg_gd (fg_in (((nI 24) * l1) + s.2.2) 312) (
      some (.inl ((s.1 + (bs_iv (mu (m + 10) (((nI 24) * l1) + s.2.2).toNatClampNeg))), (s.2.1 + (nI 1)), (s.2.2 + (nI 1)))))
    ) else (
      some (.inl (s.1, s.2.1, (s.2.2 + (nI 1))))
    ))
  ))
set_option maxHeartbeats 4000000 in
theorem wFX12_rest_b32 {nx : Nat} {sh : bs_Sh} {R : Nat → Nat → Option Nat} {m : Nat} (HM : fg_S (bs_tM m) R m sh) {mu : bs_Mm} {l1 : Int32} {l2 : Int32} {l3 : Int32} {Ph : bs_Po} {s : Int32 × Int32 × Int32} {r : (Int32 × Int32 × Int32) ⊕ (Int32 × Int32)} (ka : ∀ s, r = .inl s → bs_W Ph mX12_rest (bs_rm 3 0 0) 32 (bs_mk [(0, .ref m), (1, .int l1), (2, .int l2), (3, .int l3), (4, .int s.1), (5, .int s.2.1), (6, .int s.2.2)]) [] 0 0 nx sh mu) (ke : ∀ s, r = .inr s → bs_W Ph mX12_rest (bs_rm 3 0 0) 85 (bs_mk [(0, .ref m), (1, .int l1), (2, .int l2), (3, .int l3), (4, .int s.1), (5, .int s.2)]) [] 0 0 nx sh mu) (hR : fg_R R mu) (h : FX12_rest_b32 m mu l1 l2 l3 s = some r) : bs_W Ph mX12_rest (bs_rm 3 0 0) 32 (bs_mk [(0, .ref m), (1, .int l1), (2, .int l2), (3, .int l3), (4, .int s.1), (5, .int s.2.1), (6, .int s.2.2)]) [] 0 0 nx sh mu := by
  unfold FX12_rest_b32 at h
  refine bs_iload dX12_rest_32 rfl ?_
  refine bs_aload_n dX12_rest_34 rfl ?_
  refine fg_getR (b := (m + 8)) dX12_rest_35 fX12_31 (HM.s 0 rfl rfl rfl) hR (HM.r 0 13 rfl rfl rfl) ?_
  refine bs_iload_n dX12_rest_38 rfl ?_
  obtain ⟨g4, h⟩ := fg_gdE h
  refine bs_iald dX12_rest_39 (HM.ss 8 rfl rfl) (fg_in_ix g4) ?_
  refine bs_icmp_ge (tgt := 85) dX12_rest_40 (by decide) (fun c => ?_) (fun c => ?_)
  · replace h := fg_ip c h
    cases h
    refine bs_W.mk [(0, .ref m), (1, .int l1), (2, .int l2), (3, .int l3), (4, .int s.1), (5, .int s.2.1)] (by intro q hq; simp only [List.mem_cons, List.not_mem_nil, or_false] at hq; rcases hq with rfl | rfl | rfl | rfl | rfl | rfl <;> rfl) (ke _ rfl)
  · replace h := fg_iN c h
    refine bs_aload_n dX12_rest_43 rfl ?_
    refine fg_getR (b := (m + 13)) dX12_rest_44 fX12_46 (HM.s 0 rfl rfl rfl) hR (HM.r 0 18 rfl rfl rfl) ?_
    refine bs_bipush (v := (nI 24)) dX12_rest_47 (by decide) ?_
    refine bs_iload_n dX12_rest_49 rfl ?_
    refine bs_imul dX12_rest_50 ?_
    refine bs_iload dX12_rest_51 rfl ?_
    refine bs_iadd dX12_rest_53 ?_
    obtain ⟨g5, h⟩ := fg_gdE h
    refine bs_iald dX12_rest_54 (HM.ss 13 rfl rfl) (fg_in_ix g5) ?_
    refine bs_iload_n dX12_rest_55 rfl ?_
    refine bs_icmp_ne (tgt := 79) dX12_rest_56 (by decide) (fun c => ?_) (fun c => ?_)
    · replace h := fg_iN c h
      refine fg_iinc (m := (nI 1)) dX12_rest_79 rfl rfl (by decide) ?_
      refine bs_goto (tgt := 32) dX12_rest_82 (by decide) ?_
      cases h
      refine bs_W.mk [(0, .ref m), (1, .int l1), (2, .int l2), (3, .int l3), (4, .int s.1), (5, .int s.2.1), (6, .int (s.2.2 + (nI 1)))] (by intro q hq; simp only [List.mem_cons, List.not_mem_nil, or_false] at hq; rcases hq with rfl | rfl | rfl | rfl | rfl | rfl | rfl <;> rfl) (by have k := ka _ rfl; dsimp only at k; exact k)
    · replace h := fg_ip c h
      refine bs_iload dX12_rest_59 rfl ?_
      refine bs_aload_n dX12_rest_61 rfl ?_
      refine fg_getR (b := (m + 10)) dX12_rest_62 fX12_37 (HM.s 0 rfl rfl rfl) hR (HM.r 0 15 rfl rfl rfl) ?_
      refine bs_bipush (v := (nI 24)) dX12_rest_65 (by decide) ?_
      refine bs_iload_n dX12_rest_67 rfl ?_
      refine bs_imul dX12_rest_68 ?_
      refine bs_iload dX12_rest_69 rfl ?_
      refine bs_iadd dX12_rest_71 ?_
      obtain ⟨g6, h⟩ := fg_gdE h
      refine bs_iald dX12_rest_72 (HM.ss 10 rfl rfl) (fg_in_ix g6) ?_
      refine bs_iadd dX12_rest_73 ?_
      refine bs_istore dX12_rest_74 rfl (by decide) ?_
      refine fg_iinc (m := (nI 1)) dX12_rest_76 rfl rfl (by decide) ?_
      refine fg_iinc (m := (nI 1)) dX12_rest_79 rfl rfl (by decide) ?_
      refine bs_goto (tgt := 32) dX12_rest_82 (by decide) ?_
      cases h
      refine bs_W.mk [(0, .ref m), (1, .int l1), (2, .int l2), (3, .int l3), (4, .int (s.1 + (bs_iv (mu (m + 10) (((nI 24) * l1) + s.2.2).toNatClampNeg)))), (5, .int (s.2.1 + (nI 1))), (6, .int (s.2.2 + (nI 1)))] (by intro q hq; simp only [List.mem_cons, List.not_mem_nil, or_false] at hq; rcases hq with rfl | rfl | rfl | rfl | rfl | rfl | rfl <;> rfl) (by have k := ka _ rfl; dsimp only at k; exact k)
theorem wFX12_rest_l32 {nx : Nat} {sh : bs_Sh} {R : Nat → Nat → Option Nat} {m : Nat} (HM : fg_S (bs_tM m) R m sh) {mu : bs_Mm} {l1 : Int32} {l2 : Int32} {l3 : Int32} {Ph : bs_Po} {t : Int32 × Int32} : ∀ n (y0 : Int32) (y1 : Int32) (y2 : Int32), fg_lp (FX12_rest_b32 m mu l1 l2 l3) n (y0, y1, y2) = some t → fg_R R mu → (ke : ∀ s, t = s → bs_W Ph mX12_rest (bs_rm 3 0 0) 85 (bs_mk [(0, .ref m), (1, .int l1), (2, .int l2), (3, .int l3), (4, .int s.1), (5, .int s.2)]) [] 0 0 nx sh mu) → bs_W Ph mX12_rest (bs_rm 3 0 0) 32 (bs_mk [(0, .ref m), (1, .int l1), (2, .int l2), (3, .int l3), (4, .int y0), (5, .int y1), (6, .int y2)]) [] 0 0 nx sh mu := by
  intro n
  induction n with
  | zero => intro y0 y1 y2 h; exact absurd h (fun z => fg_lp0 z)
  | succ n ih =>
    intro y0 y1 y2 h hR ke
    obtain ⟨r, hb, h1, h2⟩ := fg_lpE h
    exact wFX12_rest_b32 (s := (y0, y1, y2)) HM (fun s' e => ih s'.1 s'.2.1 s'.2.2 (h1 s' e) hR ke) (fun s' e => ke s' (h2 _ e).symm) hR hb
noncomputable def FX12_rest (m : Nat) (mu : bs_Mm) (p1 : Int32) (p2 : Int32) : Option (Int32) :=
  fg_bd (FX12_isBalloon m mu p1 p2) (fun v2 => 
  if v2 = 0 then (
    some ((-1))
  ) else (
    fg_gd (fg_in (((nI 6) * p1) + p2) 78) (
    fg_bd (fg_lp (FX12_rest_b32 m mu p1 p2 (bs_iv (mu (m + 7) (((nI 6) * p1) + p2).toNatClampNeg))) fg_fu ((nI 0), (nI 0), (nI 0))) (fun t7 => 
      fg_gd (fg_in (bs_iv (mu (m + 7) (((nI 6) * p1) + p2).toNatClampNeg)) 6) (
      fg_gd (fg_in (bs_iv (mu (m + 7) (((nI 6) * p1) + p2).toNatClampNeg)) 6) (
      some ((if (nI 0) < (((bs_iv (mu (m + 1) (bs_iv (mu (m + 7) (((nI 6) * p1) + p2).toNatClampNeg)).toNatClampNeg)) - t7.1) - ((bs_iv (mu (m + 2) (bs_iv (mu (m + 7) (((nI 6) * p1) + p2).toNatClampNeg)).toNatClampNeg)) * (if (nI 0) < (t7.2 - (nI 1)) then (t7.2 - (nI 1)) else (nI 0)))) then (((bs_iv (mu (m + 1) (bs_iv (mu (m + 7) (((nI 6) * p1) + p2).toNatClampNeg)).toNatClampNeg)) - t7.1) - ((bs_iv (mu (m + 2) (bs_iv (mu (m + 7) (((nI 6) * p1) + p2).toNatClampNeg)).toNatClampNeg)) * (if (nI 0) < (t7.2 - (nI 1)) then (t7.2 - (nI 1)) else (nI 0)))) else (nI 0)))))
    ))
  ))
set_option maxHeartbeats 4000000 in
theorem wX12_rest {nx : Nat} {sh : bs_Sh} {R : Nat → Nat → Option Nat} {m : Nat} (HM : fg_S (bs_tM m) R m sh) {mu : bs_Mm} (hR : fg_R R mu) {p1 : Int32} {p2 : Int32} {r : Int32} (h : FX12_rest m mu p1 p2 = some r) : bs_C mX12_rest (bs_rm 3 0 0) [.ref m, .int p1, .int p2] nx sh mu (fg_po R nx sh (some (.int r)) mu) := by
  refine bs_ct (by decide +kernel) (Nat.le_of_ble_eq_true rfl) ?_
  have kr : ∀ q, r = q → fg_R R mu → (fg_po R nx sh (some (.int r)) mu) (some (.int q)) nx sh mu := fun q e hq => by subst e; exact ⟨rfl, rfl, rfl, rfl, hq⟩
  unfold FX12_rest at h
  refine bs_aload_n dX12_rest_0 rfl ?_
  refine bs_iload_n dX12_rest_1 rfl ?_
  refine bs_iload_n dX12_rest_2 rfl ?_
  obtain ⟨v2, k1, h⟩ := fg_bdE h
  refine fg_callV dX12_rest_3 qX12_310 (wX12_isBalloon HM hR k1) rfl (HM.s 0 rfl rfl rfl) rfl (Nat.le_of_ble_eq_true rfl) (fg_cr (by first | decide | omega) (by decide)) (fun hR => ?_)
  refine bs_if_ne (tgt := 11) dX12_rest_6 (by decide) (fun c => ?_) (fun c => ?_)
  · replace h := fg_iN c h
    refine bs_aload_n dX12_rest_11 rfl ?_
    refine fg_getR (b := (m + 7)) dX12_rest_12 fX12_28 (HM.s 0 rfl rfl rfl) hR (HM.r 0 12 rfl rfl rfl) ?_
    refine bs_bipush (v := (nI 6)) dX12_rest_15 (by decide) ?_
    refine bs_iload_n dX12_rest_17 rfl ?_
    refine bs_imul dX12_rest_18 ?_
    refine bs_iload_n dX12_rest_19 rfl ?_
    refine bs_iadd dX12_rest_20 ?_
    obtain ⟨g3, h⟩ := fg_gdE h
    refine bs_iald dX12_rest_21 (HM.ss 7 rfl rfl) (fg_in_ix g3) ?_
    refine bs_istore_n dX12_rest_22 rfl (by decide) ?_
    refine bs_iconst (v := (nI 0)) dX12_rest_23 (by decide) ?_
    refine bs_istore dX12_rest_24 rfl (by decide) ?_
    refine bs_iconst (v := (nI 0)) dX12_rest_26 (by decide) ?_
    refine bs_istore dX12_rest_27 rfl (by decide) ?_
    refine bs_iconst (v := (nI 0)) dX12_rest_29 (by decide) ?_
    refine bs_istore dX12_rest_30 rfl (by decide) ?_
    obtain ⟨t7, k8, h⟩ := fg_bdE h
    refine bs_W.mk [(0, .ref m), (1, .int p1), (2, .int p2), (3, .int (bs_iv (mu (m + 7) (((nI 6) * p1) + p2).toNatClampNeg))), (4, .int (nI 0)), (5, .int (nI 0)), (6, .int (nI 0))] (by intro q hq; simp only [List.mem_cons, List.not_mem_nil, or_false] at hq; rcases hq with rfl | rfl | rfl | rfl | rfl | rfl | rfl <;> rfl) ?_
    refine wFX12_rest_l32 HM _ _ _ _ k8 hR ?_
    intro s e
    subst e
    refine bs_iconst (v := (nI 0)) dX12_rest_85 (by decide) ?_
    refine bs_aload_n dX12_rest_86 rfl ?_
    refine fg_getR (b := (m + 1)) dX12_rest_87 fX12_9 (HM.s 0 rfl rfl rfl) hR (HM.r 0 1 rfl rfl rfl) ?_
    refine bs_iload_n dX12_rest_90 rfl ?_
    obtain ⟨g9, h⟩ := fg_gdE h
    refine bs_iald dX12_rest_91 (HM.ss 1 rfl rfl) (fg_in_ix g9) ?_
    refine bs_iload dX12_rest_92 rfl ?_
    refine bs_isub dX12_rest_94 ?_
    refine bs_aload_n dX12_rest_95 rfl ?_
    refine fg_getR (b := (m + 2)) dX12_rest_96 fX12_13 (HM.s 0 rfl rfl rfl) hR (HM.r 0 2 rfl rfl rfl) ?_
    refine bs_iload_n dX12_rest_99 rfl ?_
    obtain ⟨g10, h⟩ := fg_gdE h
    refine bs_iald dX12_rest_100 (HM.ss 2 rfl rfl) (fg_in_ix g10) ?_
    refine bs_iconst (v := (nI 0)) dX12_rest_101 (by decide) ?_
    refine bs_iload dX12_rest_102 rfl ?_
    refine bs_iconst (v := (nI 1)) dX12_rest_104 (by decide) ?_
    refine bs_isub dX12_rest_105 ?_
    refine bs_mmax dX12_rest_106 xX12_149 (by first | decide | (simp only [bs_rm]; omega)) (by first | exact Nat.le_of_ble_eq_true rfl | (simp only [bs_rm, List.map, List.sum_cons, List.sum_nil, Value.category]; omega)) (Nat.zero_le _) (Nat.zero_le _) ?_
    refine bs_imul dX12_rest_109 ?_
    refine bs_isub dX12_rest_110 ?_
    refine bs_mmax dX12_rest_111 xX12_149 (by first | decide | (simp only [bs_rm]; omega)) (by first | exact Nat.le_of_ble_eq_true rfl | (simp only [bs_rm, List.map, List.sum_cons, List.sum_nil, Value.category]; omega)) (Nat.zero_le _) (Nat.zero_le _) ?_
    cases h
    exact bs_iret dX12_rest_114 rfl (Nat.zero_le _) (Nat.zero_le _) (kr _ rfl hR)
  · replace h := fg_ip c h
    refine bs_iconst (v := (-1)) dX12_rest_9 (by decide) ?_
    cases h
    exact bs_iret dX12_rest_10 rfl (Nat.zero_le _) (Nat.zero_le _) (kr _ rfl hR)
noncomputable def FX12_rule (m : Nat) (mu : bs_Mm) : Option (Int32 × bs_Mm) :=
  if (bs_iv (mu m 31)) = (nI 6) then (
    some ((-1), mu)
  ) else (
    fg_b2 (FX12_readRule m mu (bs_iv (mu m 31))) (fun v3 mu2 => 
    if v3 = (-1) then (
      fg_wr mu2 m 7 (.int (nI 0)) (fun mu4 => 
      fg_wr mu4 m 31 (.int ((bs_iv (mu4 m 31)) + (nI 1))) (fun mu5 => 
      some (((bs_iv (mu5 m 31)) - (nI 1)), mu5)))
    ) else (
      some ((-1), mu2)
    ))
  )
set_option maxHeartbeats 4000000 in
theorem wX12_rule {nx : Nat} {sh : bs_Sh} {R : Nat → Nat → Option Nat} {m : Nat} (HM : fg_S (bs_tM m) R m sh) {mu : bs_Mm} (hR : fg_R R mu) {r : Int32 × bs_Mm} (h : FX12_rule m mu = some r) : bs_C mX12_rule (bs_rm 374 0 0) [.ref m] nx sh mu (fg_po R nx sh (some (.int r.1)) r.2) := by
  refine bs_ct (by decide +kernel) (Nat.le_of_ble_eq_true rfl) ?_
  have kr : ∀ q, r = q → fg_R R q.2 → (fg_po R nx sh (some (.int r.1)) r.2) (some (.int q.1)) nx sh q.2 := fun q e hq => by subst e; exact ⟨rfl, rfl, rfl, rfl, hq⟩
  unfold FX12_rule at h
  refine bs_aload_n dX12_rule_0 rfl ?_
  refine bs_getI dX12_rule_1 fX12_255 (HM.s 0 rfl rfl rfl) ?_
  refine bs_bipush (v := (nI 6)) dX12_rule_4 (by decide) ?_
  refine bs_icmp_eq (tgt := 21) dX12_rule_6 (by decide) (fun c => ?_) (fun c => ?_)
  · replace h := fg_ip c h
    refine bs_iconst (v := (-1)) dX12_rule_21 (by decide) ?_
    cases h
    exact bs_iret dX12_rule_22 rfl (Nat.zero_le _) (Nat.zero_le _) (kr _ rfl hR)
  · replace h := fg_iN c h
    refine bs_aload_n dX12_rule_9 rfl ?_
    refine bs_aload_n dX12_rule_10 rfl ?_
    refine bs_getI dX12_rule_11 fX12_255 (HM.s 0 rfl rfl rfl) ?_
    obtain ⟨v3, mu2, k1, h⟩ := fg_b2E h
    refine fg_callV dX12_rule_14 qX12_249 (wX12_readRule HM hR k1) rfl (HM.s 0 rfl rfl rfl) rfl (Nat.le_of_ble_eq_true rfl) (fg_cr (by first | decide | omega) (by decide)) (fun hR => ?_)
    refine bs_iconst (v := (-1)) dX12_rule_17 (by decide) ?_
    refine bs_icmp_eq (tgt := 23) dX12_rule_18 (by decide) (fun c => ?_) (fun c => ?_)
    · replace h := fg_ip c h
      refine bs_aload_n dX12_rule_23 rfl ?_
      refine bs_iconst (v := (nI 0)) dX12_rule_24 (by decide) ?_
      refine fg_putI dX12_rule_25 pX12_132 (HM.s 0 rfl rfl rfl) (HM.n 0 7 rfl rfl rfl) hR h (fun mu4 hR h => ?_)
      refine bs_aload_n dX12_rule_28 rfl ?_
      refine bs_dup dX12_rule_29 rfl ?_
      refine bs_getI dX12_rule_30 fX12_255 (HM.s 0 rfl rfl rfl) ?_
      refine bs_iconst (v := (nI 1)) dX12_rule_33 (by decide) ?_
      refine bs_iadd dX12_rule_34 ?_
      refine fg_putI dX12_rule_35 pX12_255 (HM.s 0 rfl rfl rfl) (HM.n 0 31 rfl rfl rfl) hR h (fun mu5 hR h => ?_)
      refine bs_aload_n dX12_rule_38 rfl ?_
      refine bs_getI dX12_rule_39 fX12_255 (HM.s 0 rfl rfl rfl) ?_
      refine bs_iconst (v := (nI 1)) dX12_rule_42 (by decide) ?_
      refine bs_isub dX12_rule_43 ?_
      cases h
      exact bs_iret dX12_rule_44 rfl (Nat.zero_le _) (Nat.zero_le _) (kr _ rfl hR)
    · replace h := fg_iN c h
      refine bs_iconst (v := (-1)) dX12_rule_21 (by decide) ?_
      cases h
      exact bs_iret dX12_rule_22 rfl (Nat.zero_le _) (Nat.zero_le _) (kr _ rfl hR)
noncomputable def FX12_run_b2 (m : Nat)  (l1 : Int64) (s : Int32 × bs_Mm) : Option ((Int32 × bs_Mm) ⊕ (bs_Mm)) :=
  if (bs_iv (s.2 m 5)) ≤ s.1 then (
    some (.inr s.2)
  ) else (
    fg_gd (fg_in s.1 6) (
    fg_gd (fg_in s.1 6) (
    fg_wr s.2 (m + 32) s.1.toNatClampNeg (.int (bs_iv (s.2 (m + 4) s.1.toNatClampNeg))) (fun mu3 => 
    some (.inl ((s.1 + (nI 1)), mu3)))))
  )
set_option maxHeartbeats 4000000 in
theorem wFX12_run_b2 {nx : Nat} {sh : bs_Sh} {R : Nat → Nat → Option Nat} {m : Nat} (HM : fg_S (bs_tM m) R m sh) {l1 : Int64} {Ph : bs_Po} {s : Int32 × bs_Mm} {r : (Int32 × bs_Mm) ⊕ (bs_Mm)} (ka : ∀ s, r = .inl s → fg_R R s.2 → bs_W Ph mX12_run (bs_rm 1 0 0) 2 (bs_mk [(0, .ref m), (1, .long l1), (3, .int s.1)]) [] 0 0 nx sh s.2) (ke : ∀ s, r = .inr s → fg_R R s → bs_W Ph mX12_run (bs_rm 1 0 0) 28 (bs_mk [(0, .ref m), (1, .long l1)]) [] 0 0 nx sh s) (hR : fg_R R s.2) (h : FX12_run_b2 m l1 s = some r) : bs_W Ph mX12_run (bs_rm 1 0 0) 2 (bs_mk [(0, .ref m), (1, .long l1), (3, .int s.1)]) [] 0 0 nx sh s.2 := by
  unfold FX12_run_b2 at h
  refine bs_iload_n dX12_run_2 rfl ?_
  refine bs_aload_n dX12_run_3 rfl ?_
  refine bs_getI dX12_run_4 fX12_125 (HM.s 0 rfl rfl rfl) ?_
  refine bs_icmp_ge (tgt := 28) dX12_run_7 (by decide) (fun c => ?_) (fun c => ?_)
  · replace h := fg_ip c h
    cases h
    refine bs_W.mk [(0, .ref m), (1, .long l1)] (by intro q hq; simp only [List.mem_cons, List.not_mem_nil, or_false] at hq; rcases hq with rfl | rfl <;> rfl) (ke _ rfl hR)
  · replace h := fg_iN c h
    refine bs_aload_n dX12_run_10 rfl ?_
    refine fg_getR (b := (m + 32)) dX12_run_11 fX12_105 (HM.s 0 rfl rfl rfl) hR (HM.r 0 44 rfl rfl rfl) ?_
    refine bs_iload_n dX12_run_14 rfl ?_
    refine bs_aload_n dX12_run_15 rfl ?_
    refine fg_getR (b := (m + 4)) dX12_run_16 fX12_19 (HM.s 0 rfl rfl rfl) hR (HM.r 0 4 rfl rfl rfl) ?_
    refine bs_iload_n dX12_run_19 rfl ?_
    obtain ⟨g1, h⟩ := fg_gdE h
    refine bs_iald dX12_run_20 (HM.ss 4 rfl rfl) (fg_in_ix g1) ?_
    obtain ⟨g2, h⟩ := fg_gdE h
    refine fg_iast dX12_run_21 (HM.ss 32 rfl rfl) (fun j => HM.n 32 j rfl rfl rfl) g2 hR h (fun mu3 hR h => ?_)
    refine fg_iinc0 (j := 2) (m := (nI 1)) dX12_run_22 rfl rfl (by decide) ?_
    refine bs_goto (tgt := 2) dX12_run_25 (by decide) ?_
    cases h
    refine bs_W.mk [(0, .ref m), (1, .long l1), (3, .int (s.1 + (nI 1)))] (by intro q hq; simp only [List.mem_cons, List.not_mem_nil, or_false] at hq; rcases hq with rfl | rfl | rfl <;> rfl) (by have k := ka _ rfl hR; dsimp only at k; exact k)
theorem wFX12_run_l2 {nx : Nat} {sh : bs_Sh} {R : Nat → Nat → Option Nat} {m : Nat} (HM : fg_S (bs_tM m) R m sh) {l1 : Int64} {Ph : bs_Po} {t : bs_Mm} : ∀ n (y0 : Int32) (mu1 : bs_Mm), fg_lp (FX12_run_b2 m l1) n (y0, mu1) = some t → fg_R R mu1 → (ke : ∀ s, t = s → fg_R R s → bs_W Ph mX12_run (bs_rm 1 0 0) 28 (bs_mk [(0, .ref m), (1, .long l1)]) [] 0 0 nx sh s) → bs_W Ph mX12_run (bs_rm 1 0 0) 2 (bs_mk [(0, .ref m), (1, .long l1), (3, .int y0)]) [] 0 0 nx sh mu1 := by
  intro n
  induction n with
  | zero => intro y0 mu1 h; exact absurd h (fun z => fg_lp0 z)
  | succ n ih =>
    intro y0 mu1 h hR ke
    obtain ⟨r, hb, h1, h2⟩ := fg_lpE h
    exact wFX12_run_b2 (s := (y0, mu1)) HM (fun s' e hR' => ih s'.1 s'.2 (h1 s' e) hR' ke) (fun s' e => ke s' (h2 _ e).symm) hR hb
noncomputable def FX12_run_b165_L130_L39 (m : Nat)  (l1 : Int64) (l6 : Int32) (l7 : Int32) (l8 : Int32) (l12 : Int32) (l13 : Int32) (s : Int64 × Int32 × Int32 × Int32 × Int32 × bs_Mm) : Option ((Int64 × Int32 × Int32 × Int32 × Int32 × bs_Mm) ⊕ (Int64 × Int32 × Int32 × Int32 × bs_Mm)) :=
  if s.2.2.2.2.1 = 0 then (
    if s.2.2.1 = 0 then (
      fg_gd (fg_in l13 6) (
      if (bs_iv (s.2.2.2.2.2 (m + 32) l13.toNatClampNeg)) = 0 then (
        some (.inl (s.1, s.2.1, (nI 3), s.2.2.2.1, s.2.2.2.2.1, s.2.2.2.2.2))
      ) else (
        fg_gd (fg_in l13 6) (
        fg_gd (fg_in l13 6) (
        fg_wr s.2.2.2.2.2 (m + 32) l13.toNatClampNeg (.int ((bs_iv (s.2.2.2.2.2 (m + 32) l13.toNatClampNeg)) - (nI 1))) (fun mu19 => 
        fg_bd (FX12_inBalloon m mu19 l8 l12) (fun v21 => 
        fg_gd (decide (¬ (100 : Int64) = 0)) (
        fg_gd (fg_in l13 6) (
        if (lg_cmp (((Int64.toUInt64 ((s.1 * (6364136223846793005 : Int64)) + (1442695040888963407 : Int64)) >>> ((Int32.toInt64 (nI 33)).toUInt64 &&& Int64.toUInt64 63)).toInt64) - ((Int64.toUInt64 ((s.1 * (6364136223846793005 : Int64)) + (1442695040888963407 : Int64)) >>> ((Int32.toInt64 (nI 33)).toUInt64 &&& Int64.toUInt64 63)).toInt64) / (100 : Int64) * (100 : Int64)) (Int32.toInt64 (bs_iv (mu19 (m + 3) l13.toNatClampNeg)))) < 0 then (
          some (.inl (((s.1 * (6364136223846793005 : Int64)) + (1442695040888963407 : Int64)), (s.2.1 + ((bs_iv (mu19 m 48)) + ((bs_iv (mu19 m 47)) * v21))), s.2.2.1, (s.2.2.2.1 + (nI 1)), (nI 0), mu19))
        ) else (
          some (.inl (((s.1 * (6364136223846793005 : Int64)) + (1442695040888963407 : Int64)), (s.2.1 + ((bs_iv (mu19 m 48)) + ((bs_iv (mu19 m 47)) * v21))), s.2.2.1, (s.2.2.2.1 + (nI 1)), (nI 1), mu19))
        )))))))
      ))
    ) else (
      some (.inr (s.1, s.2.1, s.2.2.1, s.2.2.2.1, s.2.2.2.2.2))
    )
  ) else (
    some (.inr (s.1, s.2.1, s.2.2.1, s.2.2.2.1, s.2.2.2.2.2))
  )
set_option maxHeartbeats 4000000 in
theorem wFX12_run_b165_L130_L39 {nx : Nat} {sh : bs_Sh} {R : Nat → Nat → Option Nat} {m : Nat} (HM : fg_S (bs_tM m) R m sh) {l1 : Int64} {l6 : Int32} {l7 : Int32} {l8 : Int32} {l12 : Int32} {l13 : Int32} {Ph : bs_Po} {s : Int64 × Int32 × Int32 × Int32 × Int32 × bs_Mm} {r : (Int64 × Int32 × Int32 × Int32 × Int32 × bs_Mm) ⊕ (Int64 × Int32 × Int32 × Int32 × bs_Mm)} (ka : ∀ s, r = .inl s → fg_R R s.2.2.2.2.2 → bs_W Ph mX12_run (bs_rm 1 0 0) 165 (bs_mk [(0, .ref m), (1, .long l1), (3, .long s.1), (6, .int l6), (7, .int l7), (8, .int l8), (9, .int s.2.1), (10, .int s.2.2.1), (11, .int s.2.2.2.1), (12, .int l12), (13, .int l13), (14, .int s.2.2.2.2.1)]) [] 0 0 nx sh s.2.2.2.2.2) (ke : ∀ s, r = .inr s → fg_R R s.2.2.2.2 → bs_W Ph mX12_run (bs_rm 1 0 0) 268 (bs_mk [(0, .ref m), (1, .long l1), (3, .long s.1), (6, .int l6), (7, .int l7), (8, .int l8), (9, .int s.2.1), (10, .int s.2.2.1), (11, .int s.2.2.2.1), (12, .int l12), (13, .int l13)]) [] 0 0 nx sh s.2.2.2.2) (hR : fg_R R s.2.2.2.2.2) (h : FX12_run_b165_L130_L39 m l1 l6 l7 l8 l12 l13 s = some r) : bs_W Ph mX12_run (bs_rm 1 0 0) 165 (bs_mk [(0, .ref m), (1, .long l1), (3, .long s.1), (6, .int l6), (7, .int l7), (8, .int l8), (9, .int s.2.1), (10, .int s.2.2.1), (11, .int s.2.2.2.1), (12, .int l12), (13, .int l13), (14, .int s.2.2.2.2.1)]) [] 0 0 nx sh s.2.2.2.2.2 := by
  unfold FX12_run_b165_L130_L39 at h
  refine bs_iload dX12_run_165 rfl ?_
  refine bs_if_ne (tgt := 268) dX12_run_167 (by decide) (fun c => ?_) (fun c => ?_)
  · replace h := fg_iN c h
    cases h
    refine bs_W.mk [(0, .ref m), (1, .long l1), (3, .long s.1), (6, .int l6), (7, .int l7), (8, .int l8), (9, .int s.2.1), (10, .int s.2.2.1), (11, .int s.2.2.2.1), (12, .int l12), (13, .int l13)] (by intro q hq; simp only [List.mem_cons, List.not_mem_nil, or_false] at hq; rcases hq with rfl | rfl | rfl | rfl | rfl | rfl | rfl | rfl | rfl | rfl | rfl <;> rfl) (ke _ rfl hR)
  · replace h := fg_ip c h
    refine bs_iload dX12_run_170 rfl ?_
    refine bs_if_ne (tgt := 268) dX12_run_172 (by decide) (fun c => ?_) (fun c => ?_)
    · replace h := fg_iN c h
      cases h
      refine bs_W.mk [(0, .ref m), (1, .long l1), (3, .long s.1), (6, .int l6), (7, .int l7), (8, .int l8), (9, .int s.2.1), (10, .int s.2.2.1), (11, .int s.2.2.2.1), (12, .int l12), (13, .int l13)] (by intro q hq; simp only [List.mem_cons, List.not_mem_nil, or_false] at hq; rcases hq with rfl | rfl | rfl | rfl | rfl | rfl | rfl | rfl | rfl | rfl | rfl <;> rfl) (ke _ rfl hR)
    · replace h := fg_ip c h
      refine bs_aload_n dX12_run_175 rfl ?_
      refine fg_getR (b := (m + 32)) dX12_run_176 fX12_105 (HM.s 0 rfl rfl rfl) hR (HM.r 0 44 rfl rfl rfl) ?_
      refine bs_iload dX12_run_179 rfl ?_
      obtain ⟨g16, h⟩ := fg_gdE h
      refine bs_iald dX12_run_181 (HM.ss 32 rfl rfl) (fg_in_ix g16) ?_
      refine bs_if_ne (tgt := 191) dX12_run_182 (by decide) (fun c => ?_) (fun c => ?_)
      · replace h := fg_iN c h
        refine bs_aload_n dX12_run_191 rfl ?_
        refine fg_getR (b := (m + 32)) dX12_run_192 fX12_105 (HM.s 0 rfl rfl rfl) hR (HM.r 0 44 rfl rfl rfl) ?_
        refine bs_iload dX12_run_195 rfl ?_
        refine bs_dup2 dX12_run_197 rfl rfl ?_
        obtain ⟨g17, h⟩ := fg_gdE h
        refine bs_iald dX12_run_198 (HM.ss 32 rfl rfl) (fg_in_ix g17) ?_
        refine bs_iconst (v := (nI 1)) dX12_run_199 (by decide) ?_
        refine bs_isub dX12_run_200 ?_
        obtain ⟨g18, h⟩ := fg_gdE h
        refine fg_iast dX12_run_201 (HM.ss 32 rfl rfl) (fun j => HM.n 32 j rfl rfl rfl) g18 hR h (fun mu19 hR h => ?_)
        refine fg_iinc (m := (nI 1)) dX12_run_202 rfl rfl (by decide) ?_
        refine bs_iload dX12_run_205 rfl ?_
        refine bs_aload_n dX12_run_207 rfl ?_
        refine bs_getI dX12_run_208 fX12_390 (HM.s 0 rfl rfl rfl) ?_
        refine bs_aload_n dX12_run_211 rfl ?_
        refine bs_getI dX12_run_212 fX12_108 (HM.s 0 rfl rfl rfl) ?_
        refine bs_aload_n dX12_run_215 rfl ?_
        refine bs_iload dX12_run_216 rfl ?_
        refine bs_iload dX12_run_218 rfl ?_
        obtain ⟨v21, k20, h⟩ := fg_bdE h
        refine fg_callV dX12_run_220 qX12_402 (wX12_inBalloon HM hR k20) rfl (HM.s 0 rfl rfl rfl) rfl (Nat.le_of_ble_eq_true rfl) (fg_cr (by first | decide | omega) (by decide)) (fun hR => ?_)
        refine bs_imul dX12_run_223 ?_
        refine bs_iadd dX12_run_224 ?_
        refine bs_iadd dX12_run_225 ?_
        refine bs_istore dX12_run_226 rfl (by decide) ?_
        refine bs_lload_n dX12_run_228 rfl ?_
        refine bs_ldc2 (v := (6364136223846793005)) dX12_run_229 cX12_405 ?_
        refine bs_lmul dX12_run_232 ?_
        refine bs_ldc2 (v := (1442695040888963407)) dX12_run_233 cX12_407 ?_
        refine bs_ladd dX12_run_236 ?_
        refine bs_lstore0 (j := 2) dX12_run_237 rfl rfl (by decide) ?_
        refine bs_lload_n dX12_run_238 rfl ?_
        refine bs_bipush (v := (nI 33)) dX12_run_239 (by decide) ?_
        refine bs_lushr dX12_run_241 ?_
        refine bs_ldc2 (v := (100)) dX12_run_242 cX12_409 ?_
        obtain ⟨g22, h⟩ := fg_gdE h
        refine bs_lrem dX12_run_245 (of_decide_eq_true g22) ?_
        refine bs_aload_n dX12_run_246 rfl ?_
        refine fg_getR (b := (m + 3)) dX12_run_247 fX12_16 (HM.s 0 rfl rfl rfl) hR (HM.r 0 3 rfl rfl rfl) ?_
        refine bs_iload dX12_run_250 rfl ?_
        obtain ⟨g23, h⟩ := fg_gdE h
        refine bs_iald dX12_run_252 (HM.ss 3 rfl rfl) (fg_in_ix g23) ?_
        refine bs_i2l dX12_run_253 ?_
        refine bs_lcmp dX12_run_254 ?_
        refine bs_if_lt (tgt := 262) dX12_run_255 (by decide) (fun c => ?_) (fun c => ?_)
        · replace h := fg_ip c h
          refine bs_iconst (v := (nI 0)) dX12_run_262 (by decide) ?_
          refine bs_istore dX12_run_263 rfl (by decide) ?_
          refine bs_goto (tgt := 165) dX12_run_265 (by decide) ?_
          cases h
          refine bs_W.mk [(0, .ref m), (1, .long l1), (3, .long ((s.1 * (6364136223846793005 : Int64)) + (1442695040888963407 : Int64))), (6, .int l6), (7, .int l7), (8, .int l8), (9, .int (s.2.1 + ((bs_iv (mu19 m 48)) + ((bs_iv (mu19 m 47)) * v21)))), (10, .int s.2.2.1), (11, .int (s.2.2.2.1 + (nI 1))), (12, .int l12), (13, .int l13), (14, .int (nI 0))] (by intro q hq; simp only [List.mem_cons, List.not_mem_nil, or_false] at hq; rcases hq with rfl | rfl | rfl | rfl | rfl | rfl | rfl | rfl | rfl | rfl | rfl | rfl <;> rfl) (by have k := ka _ rfl hR; dsimp only at k; exact k)
        · replace h := fg_iN c h
          refine bs_iconst (v := (nI 1)) dX12_run_258 (by decide) ?_
          refine bs_goto (tgt := 263) dX12_run_259 (by decide) ?_
          refine bs_istore dX12_run_263 rfl (by decide) ?_
          refine bs_goto (tgt := 165) dX12_run_265 (by decide) ?_
          cases h
          refine bs_W.mk [(0, .ref m), (1, .long l1), (3, .long ((s.1 * (6364136223846793005 : Int64)) + (1442695040888963407 : Int64))), (6, .int l6), (7, .int l7), (8, .int l8), (9, .int (s.2.1 + ((bs_iv (mu19 m 48)) + ((bs_iv (mu19 m 47)) * v21)))), (10, .int s.2.2.1), (11, .int (s.2.2.2.1 + (nI 1))), (12, .int l12), (13, .int l13), (14, .int (nI 1))] (by intro q hq; simp only [List.mem_cons, List.not_mem_nil, or_false] at hq; rcases hq with rfl | rfl | rfl | rfl | rfl | rfl | rfl | rfl | rfl | rfl | rfl | rfl <;> rfl) (by have k := ka _ rfl hR; dsimp only at k; exact k)
      · replace h := fg_ip c h
        refine bs_iconst (v := (nI 3)) dX12_run_185 (by decide) ?_
        refine bs_istore dX12_run_186 rfl (by decide) ?_
        refine bs_goto (tgt := 165) dX12_run_188 (by decide) ?_
        cases h
        refine bs_W.mk [(0, .ref m), (1, .long l1), (3, .long s.1), (6, .int l6), (7, .int l7), (8, .int l8), (9, .int s.2.1), (10, .int (nI 3)), (11, .int s.2.2.2.1), (12, .int l12), (13, .int l13), (14, .int s.2.2.2.2.1)] (by intro q hq; simp only [List.mem_cons, List.not_mem_nil, or_false] at hq; rcases hq with rfl | rfl | rfl | rfl | rfl | rfl | rfl | rfl | rfl | rfl | rfl | rfl <;> rfl) (by have k := ka _ rfl hR; dsimp only at k; exact k)
theorem wFX12_run_l165_L130_L39 {nx : Nat} {sh : bs_Sh} {R : Nat → Nat → Option Nat} {m : Nat} (HM : fg_S (bs_tM m) R m sh) {l1 : Int64} {l6 : Int32} {l7 : Int32} {l8 : Int32} {l12 : Int32} {l13 : Int32} {Ph : bs_Po} {t : Int64 × Int32 × Int32 × Int32 × bs_Mm} : ∀ n (y0 : Int64) (y1 : Int32) (y2 : Int32) (y3 : Int32) (y4 : Int32) (mu1 : bs_Mm), fg_lp (FX12_run_b165_L130_L39 m l1 l6 l7 l8 l12 l13) n (y0, y1, y2, y3, y4, mu1) = some t → fg_R R mu1 → (ke : ∀ s, t = s → fg_R R s.2.2.2.2 → bs_W Ph mX12_run (bs_rm 1 0 0) 268 (bs_mk [(0, .ref m), (1, .long l1), (3, .long s.1), (6, .int l6), (7, .int l7), (8, .int l8), (9, .int s.2.1), (10, .int s.2.2.1), (11, .int s.2.2.2.1), (12, .int l12), (13, .int l13)]) [] 0 0 nx sh s.2.2.2.2) → bs_W Ph mX12_run (bs_rm 1 0 0) 165 (bs_mk [(0, .ref m), (1, .long l1), (3, .long y0), (6, .int l6), (7, .int l7), (8, .int l8), (9, .int y1), (10, .int y2), (11, .int y3), (12, .int l12), (13, .int l13), (14, .int y4)]) [] 0 0 nx sh mu1 := by
  intro n
  induction n with
  | zero => intro y0 y1 y2 y3 y4 mu1 h; exact absurd h (fun z => fg_lp0 z)
  | succ n ih =>
    intro y0 y1 y2 y3 y4 mu1 h hR ke
    obtain ⟨r, hb, h1, h2⟩ := fg_lpE h
    exact wFX12_run_b165_L130_L39 (s := (y0, y1, y2, y3, y4, mu1)) HM (fun s' e hR' => ih s'.1 s'.2.1 s'.2.2.1 s'.2.2.2.1 s'.2.2.2.2.1 s'.2.2.2.2.2 (h1 s' e) hR' ke) (fun s' e => ke s' (h2 _ e).symm) hR hb
noncomputable def FX12_run_b130_L39 (m : Nat)  (l1 : Int64) (l6 : Int32) (l7 : Int32) (l8 : Int32) (s : Int64 × Int32 × Int32 × Int32 × Int32 × bs_Mm) : Option ((Int64 × Int32 × Int32 × Int32 × Int32 × bs_Mm) ⊕ (Int64 × Int32 × Int32 × Int32 × bs_Mm)) :=
  fg_gd (fg_in l8 13) (
  if (bs_iv (s.2.2.2.2.2 (m + 6) l8.toNatClampNeg)) ≤ s.2.2.2.2.1 then (
    some (.inr (s.1, s.2.1, s.2.2.1, s.2.2.2.1, s.2.2.2.2.2))
  ) else (
    if s.2.2.1 = 0 then (
      fg_gd (fg_in (((nI 6) * l8) + s.2.2.2.2.1) 78) (
      fg_bd (fg_lp (FX12_run_b165_L130_L39 m l1 l6 l7 l8 s.2.2.2.2.1 (bs_iv (s.2.2.2.2.2 (m + 7) (((nI 6) * l8) + s.2.2.2.2.1).toNatClampNeg))) fg_fu (s.1, s.2.1, s.2.2.1, s.2.2.2.1, (nI 0), s.2.2.2.2.2)) (fun t24 => 
        some (.inl (t24.1, t24.2.1, t24.2.2.1, t24.2.2.2.1, (s.2.2.2.2.1 + (nI 1)), t24.2.2.2.2))
      ))
    ) else (
      some (.inr (s.1, s.2.1, s.2.2.1, s.2.2.2.1, s.2.2.2.2.2))
    )
  ))
set_option maxHeartbeats 4000000 in
theorem wFX12_run_b130_L39 {nx : Nat} {sh : bs_Sh} {R : Nat → Nat → Option Nat} {m : Nat} (HM : fg_S (bs_tM m) R m sh) {l1 : Int64} {l6 : Int32} {l7 : Int32} {l8 : Int32} {Ph : bs_Po} {s : Int64 × Int32 × Int32 × Int32 × Int32 × bs_Mm} {r : (Int64 × Int32 × Int32 × Int32 × Int32 × bs_Mm) ⊕ (Int64 × Int32 × Int32 × Int32 × bs_Mm)} (ka : ∀ s, r = .inl s → fg_R R s.2.2.2.2.2 → bs_W Ph mX12_run (bs_rm 1 0 0) 130 (bs_mk [(0, .ref m), (1, .long l1), (3, .long s.1), (6, .int l6), (7, .int l7), (8, .int l8), (9, .int s.2.1), (10, .int s.2.2.1), (11, .int s.2.2.2.1), (12, .int s.2.2.2.2.1)]) [] 0 0 nx sh s.2.2.2.2.2) (ke : ∀ s, r = .inr s → fg_R R s.2.2.2.2 → bs_W Ph mX12_run (bs_rm 1 0 0) 274 (bs_mk [(0, .ref m), (1, .long l1), (3, .long s.1), (6, .int l6), (7, .int l7), (8, .int l8), (9, .int s.2.1), (10, .int s.2.2.1), (11, .int s.2.2.2.1)]) [] 0 0 nx sh s.2.2.2.2) (hR : fg_R R s.2.2.2.2.2) (h : FX12_run_b130_L39 m l1 l6 l7 l8 s = some r) : bs_W Ph mX12_run (bs_rm 1 0 0) 130 (bs_mk [(0, .ref m), (1, .long l1), (3, .long s.1), (6, .int l6), (7, .int l7), (8, .int l8), (9, .int s.2.1), (10, .int s.2.2.1), (11, .int s.2.2.2.1), (12, .int s.2.2.2.2.1)]) [] 0 0 nx sh s.2.2.2.2.2 := by
  unfold FX12_run_b130_L39 at h
  refine bs_iload dX12_run_130 rfl ?_
  refine bs_aload_n dX12_run_132 rfl ?_
  refine fg_getR (b := (m + 6)) dX12_run_133 fX12_25 (HM.s 0 rfl rfl rfl) hR (HM.r 0 11 rfl rfl rfl) ?_
  refine bs_iload dX12_run_136 rfl ?_
  obtain ⟨g14, h⟩ := fg_gdE h
  refine bs_iald dX12_run_138 (HM.ss 6 rfl rfl) (fg_in_ix g14) ?_
  refine bs_icmp_ge (tgt := 274) dX12_run_139 (by decide) (fun c => ?_) (fun c => ?_)
  · replace h := fg_ip c h
    cases h
    refine bs_W.mk [(0, .ref m), (1, .long l1), (3, .long s.1), (6, .int l6), (7, .int l7), (8, .int l8), (9, .int s.2.1), (10, .int s.2.2.1), (11, .int s.2.2.2.1)] (by intro q hq; simp only [List.mem_cons, List.not_mem_nil, or_false] at hq; rcases hq with rfl | rfl | rfl | rfl | rfl | rfl | rfl | rfl | rfl <;> rfl) (ke _ rfl hR)
  · replace h := fg_iN c h
    refine bs_iload dX12_run_142 rfl ?_
    refine bs_if_ne (tgt := 274) dX12_run_144 (by decide) (fun c => ?_) (fun c => ?_)
    · replace h := fg_iN c h
      cases h
      refine bs_W.mk [(0, .ref m), (1, .long l1), (3, .long s.1), (6, .int l6), (7, .int l7), (8, .int l8), (9, .int s.2.1), (10, .int s.2.2.1), (11, .int s.2.2.2.1)] (by intro q hq; simp only [List.mem_cons, List.not_mem_nil, or_false] at hq; rcases hq with rfl | rfl | rfl | rfl | rfl | rfl | rfl | rfl | rfl <;> rfl) (ke _ rfl hR)
    · replace h := fg_ip c h
      refine bs_aload_n dX12_run_147 rfl ?_
      refine fg_getR (b := (m + 7)) dX12_run_148 fX12_28 (HM.s 0 rfl rfl rfl) hR (HM.r 0 12 rfl rfl rfl) ?_
      refine bs_bipush (v := (nI 6)) dX12_run_151 (by decide) ?_
      refine bs_iload dX12_run_153 rfl ?_
      refine bs_imul dX12_run_155 ?_
      refine bs_iload dX12_run_156 rfl ?_
      refine bs_iadd dX12_run_158 ?_
      obtain ⟨g15, h⟩ := fg_gdE h
      refine bs_iald dX12_run_159 (HM.ss 7 rfl rfl) (fg_in_ix g15) ?_
      refine bs_istore dX12_run_160 rfl (by decide) ?_
      refine bs_iconst (v := (nI 0)) dX12_run_162 (by decide) ?_
      refine bs_istore dX12_run_163 rfl (by decide) ?_
      obtain ⟨t24, k25, h⟩ := fg_bdE h
      refine bs_W.mk [(0, .ref m), (1, .long l1), (3, .long s.1), (6, .int l6), (7, .int l7), (8, .int l8), (9, .int s.2.1), (10, .int s.2.2.1), (11, .int s.2.2.2.1), (12, .int s.2.2.2.2.1), (13, .int (bs_iv (s.2.2.2.2.2 (m + 7) (((nI 6) * l8) + s.2.2.2.2.1).toNatClampNeg))), (14, .int (nI 0))] (by intro q hq; simp only [List.mem_cons, List.not_mem_nil, or_false] at hq; rcases hq with rfl | rfl | rfl | rfl | rfl | rfl | rfl | rfl | rfl | rfl | rfl | rfl <;> rfl) ?_
      refine wFX12_run_l165_L130_L39 HM _ _ _ _ _ _ _ k25 hR ?_
      intro s e hR
      subst e
      refine fg_iinc (m := (nI 1)) dX12_run_268 rfl rfl (by decide) ?_
      refine bs_goto (tgt := 130) dX12_run_271 (by decide) ?_
      cases h
      refine bs_W.mk [(0, .ref m), (1, .long l1), (3, .long t24.1), (6, .int l6), (7, .int l7), (8, .int l8), (9, .int t24.2.1), (10, .int t24.2.2.1), (11, .int t24.2.2.2.1), (12, .int (s.2.2.2.2.1 + (nI 1)))] (by intro q hq; simp only [List.mem_cons, List.not_mem_nil, or_false] at hq; rcases hq with rfl | rfl | rfl | rfl | rfl | rfl | rfl | rfl | rfl | rfl <;> rfl) (by have k := ka _ rfl hR; dsimp only at k; exact k)
theorem wFX12_run_l130_L39 {nx : Nat} {sh : bs_Sh} {R : Nat → Nat → Option Nat} {m : Nat} (HM : fg_S (bs_tM m) R m sh) {l1 : Int64} {l6 : Int32} {l7 : Int32} {l8 : Int32} {Ph : bs_Po} {t : Int64 × Int32 × Int32 × Int32 × bs_Mm} : ∀ n (y0 : Int64) (y1 : Int32) (y2 : Int32) (y3 : Int32) (y4 : Int32) (mu1 : bs_Mm), fg_lp (FX12_run_b130_L39 m l1 l6 l7 l8) n (y0, y1, y2, y3, y4, mu1) = some t → fg_R R mu1 → (ke : ∀ s, t = s → fg_R R s.2.2.2.2 → bs_W Ph mX12_run (bs_rm 1 0 0) 274 (bs_mk [(0, .ref m), (1, .long l1), (3, .long s.1), (6, .int l6), (7, .int l7), (8, .int l8), (9, .int s.2.1), (10, .int s.2.2.1), (11, .int s.2.2.2.1)]) [] 0 0 nx sh s.2.2.2.2) → bs_W Ph mX12_run (bs_rm 1 0 0) 130 (bs_mk [(0, .ref m), (1, .long l1), (3, .long y0), (6, .int l6), (7, .int l7), (8, .int l8), (9, .int y1), (10, .int y2), (11, .int y3), (12, .int y4)]) [] 0 0 nx sh mu1 := by
  intro n
  induction n with
  | zero => intro y0 y1 y2 y3 y4 mu1 h; exact absurd h (fun z => fg_lp0 z)
  | succ n ih =>
    intro y0 y1 y2 y3 y4 mu1 h hR ke
    obtain ⟨r, hb, h1, h2⟩ := fg_lpE h
    exact wFX12_run_b130_L39 (s := (y0, y1, y2, y3, y4, mu1)) HM (fun s' e hR' => ih s'.1 s'.2.1 s'.2.2.1 s'.2.2.2.1 s'.2.2.2.2.1 s'.2.2.2.2.2 (h1 s' e) hR' ke) (fun s' e => ke s' (h2 _ e).symm) hR hb
noncomputable def FX12_run_j274_L39 (m : Nat) (mu : bs_Mm) (l1 : Int64) (l3 : Int64) (l6 : Int32) (l7 : Int32) (l9 : Int32) (l10 : Int32) (l11 : Int32) : Option ((Int64 × Int32 × Int32 × Int32 × bs_Mm) ⊕ (Int32 × bs_Mm)) :=
  fg_gd (fg_in ((nI 4) * l7) 120) (
  fg_wr mu (m + 31) ((nI 4) * l7).toNatClampNeg (.int l10) (fun mu29 => 
  fg_gd (fg_in (((nI 4) * l7) + (nI 2)) 120) (
  fg_wr mu29 (m + 31) (((nI 4) * l7) + (nI 2)).toNatClampNeg (.int l9) (fun mu31 => 
  fg_gd (fg_in (((nI 4) * l7) + (nI 3)) 120) (
  fg_wr mu31 (m + 31) (((nI 4) * l7) + (nI 3)).toNatClampNeg (.int l11) (fun mu33 => 
  if l10 = 0 then (
    some (.inl (l3, l9, (l6 + (nI 1)), (l7 + (nI 1)), mu33))
  ) else (
    some (.inl (l3, l9, (l6 + (nI 0)), (l7 + (nI 1)), mu33))
  )))))))
set_option maxHeartbeats 4000000 in
theorem wFX12_run_j274_L39 {nx : Nat} {sh : bs_Sh} {R : Nat → Nat → Option Nat} {m : Nat} (HM : fg_S (bs_tM m) R m sh) {mu : bs_Mm} {l1 : Int64} {l3 : Int64} {l6 : Int32} {l7 : Int32} {l9 : Int32} {l10 : Int32} {l11 : Int32} {Ph : bs_Po} {r : (Int64 × Int32 × Int32 × Int32 × bs_Mm) ⊕ (Int32 × bs_Mm)} (ka : ∀ s, r = .inl s → fg_R R s.2.2.2.2 → bs_W Ph mX12_run (bs_rm 1 0 0) 39 (bs_mk [(0, .ref m), (1, .long l1), (3, .long s.1), (5, .int s.2.1), (6, .int s.2.2.1), (7, .int s.2.2.2.1)]) [] 0 0 nx sh s.2.2.2.2) (ke : ∀ s, r = .inr s → fg_R R s.2 → bs_W Ph mX12_run (bs_rm 1 0 0) 336 (bs_mk [(0, .ref m), (1, .long l1), (6, .int s.1)]) [] 0 0 nx sh s.2) (hR : fg_R R mu) (h : FX12_run_j274_L39 m mu l1 l3 l6 l7 l9 l10 l11 = some r) : bs_W Ph mX12_run (bs_rm 1 0 0) 274 (bs_mk [(0, .ref m), (1, .long l1), (3, .long l3), (6, .int l6), (7, .int l7), (9, .int l9), (10, .int l10), (11, .int l11)]) [] 0 0 nx sh mu := by
  unfold FX12_run_j274_L39 at h
  refine bs_aload_n dX12_run_274 rfl ?_
  refine fg_getR (b := (m + 31)) dX12_run_275 fX12_102 (HM.s 0 rfl rfl rfl) hR (HM.r 0 43 rfl rfl rfl) ?_
  refine bs_iconst (v := (nI 4)) dX12_run_278 (by decide) ?_
  refine bs_iload dX12_run_279 rfl ?_
  refine bs_imul dX12_run_281 ?_
  refine bs_iload dX12_run_282 rfl ?_
  obtain ⟨g28, h⟩ := fg_gdE h
  refine fg_iast dX12_run_284 (HM.ss 31 rfl rfl) (fun j => HM.n 31 j rfl rfl rfl) g28 hR h (fun mu29 hR h => ?_)
  refine bs_aload_n dX12_run_285 rfl ?_
  refine fg_getR (b := (m + 31)) dX12_run_286 fX12_102 (HM.s 0 rfl rfl rfl) hR (HM.r 0 43 rfl rfl rfl) ?_
  refine bs_iconst (v := (nI 4)) dX12_run_289 (by decide) ?_
  refine bs_iload dX12_run_290 rfl ?_
  refine bs_imul dX12_run_292 ?_
  refine bs_iconst (v := (nI 2)) dX12_run_293 (by decide) ?_
  refine bs_iadd dX12_run_294 ?_
  refine bs_iload dX12_run_295 rfl ?_
  obtain ⟨g30, h⟩ := fg_gdE h
  refine fg_iast dX12_run_297 (HM.ss 31 rfl rfl) (fun j => HM.n 31 j rfl rfl rfl) g30 hR h (fun mu31 hR h => ?_)
  refine bs_aload_n dX12_run_298 rfl ?_
  refine fg_getR (b := (m + 31)) dX12_run_299 fX12_102 (HM.s 0 rfl rfl rfl) hR (HM.r 0 43 rfl rfl rfl) ?_
  refine bs_iconst (v := (nI 4)) dX12_run_302 (by decide) ?_
  refine bs_iload dX12_run_303 rfl ?_
  refine bs_imul dX12_run_305 ?_
  refine bs_iconst (v := (nI 3)) dX12_run_306 (by decide) ?_
  refine bs_iadd dX12_run_307 ?_
  refine bs_iload dX12_run_308 rfl ?_
  obtain ⟨g32, h⟩ := fg_gdE h
  refine fg_iast dX12_run_310 (HM.ss 31 rfl rfl) (fun j => HM.n 31 j rfl rfl rfl) g32 hR h (fun mu33 hR h => ?_)
  refine bs_iload dX12_run_311 rfl ?_
  refine bs_iload dX12_run_313 rfl ?_
  refine bs_if_ne (tgt := 322) dX12_run_315 (by decide) (fun c => ?_) (fun c => ?_)
  · replace h := fg_iN c h
    refine bs_iconst (v := (nI 0)) dX12_run_322 (by decide) ?_
    refine bs_iadd dX12_run_323 ?_
    refine bs_istore0 (j := 5) dX12_run_324 rfl (by decide) ?_
    refine bs_iload dX12_run_326 rfl ?_
    refine bs_istore0 (j := 4) dX12_run_328 rfl (by decide) ?_
    refine fg_iinc (m := (nI 1)) dX12_run_330 rfl rfl (by decide) ?_
    refine bs_goto (tgt := 39) dX12_run_333 (by decide) ?_
    cases h
    refine bs_W.mk [(0, .ref m), (1, .long l1), (3, .long l3), (5, .int l9), (6, .int (l6 + (nI 0))), (7, .int (l7 + (nI 1)))] (by intro q hq; simp only [List.mem_cons, List.not_mem_nil, or_false] at hq; rcases hq with rfl | rfl | rfl | rfl | rfl | rfl <;> rfl) (by have k := ka _ rfl hR; dsimp only at k; exact k)
  · replace h := fg_ip c h
    refine bs_iconst (v := (nI 1)) dX12_run_318 (by decide) ?_
    refine bs_goto (tgt := 323) dX12_run_319 (by decide) ?_
    refine bs_iadd dX12_run_323 ?_
    refine bs_istore0 (j := 5) dX12_run_324 rfl (by decide) ?_
    refine bs_iload dX12_run_326 rfl ?_
    refine bs_istore0 (j := 4) dX12_run_328 rfl (by decide) ?_
    refine fg_iinc (m := (nI 1)) dX12_run_330 rfl rfl (by decide) ?_
    refine bs_goto (tgt := 39) dX12_run_333 (by decide) ?_
    cases h
    refine bs_W.mk [(0, .ref m), (1, .long l1), (3, .long l3), (5, .int l9), (6, .int (l6 + (nI 1))), (7, .int (l7 + (nI 1)))] (by intro q hq; simp only [List.mem_cons, List.not_mem_nil, or_false] at hq; rcases hq with rfl | rfl | rfl | rfl | rfl | rfl <;> rfl) (by have k := ka _ rfl hR; dsimp only at k; exact k)
noncomputable def FX12_run_j122_L39 (m : Nat) (mu : bs_Mm) (l1 : Int64) (l3 : Int64) (l6 : Int32) (l7 : Int32) (l8 : Int32) (l9 : Int32) (t0 : Int32) : Option ((Int64 × Int32 × Int32 × Int32 × bs_Mm) ⊕ (Int32 × bs_Mm)) :=
  fg_bd (fg_lp (FX12_run_b130_L39 m l1 l6 l7 l8) fg_fu (l3, l9, t0, (nI 0), (nI 0), mu)) (fun t26 => 
    FX12_run_j274_L39 m t26.2.2.2.2 l1 t26.1 l6 l7 t26.2.1 t26.2.2.1 t26.2.2.2.1
  )
set_option maxHeartbeats 4000000 in
theorem wFX12_run_j122_L39 {nx : Nat} {sh : bs_Sh} {R : Nat → Nat → Option Nat} {m : Nat} (HM : fg_S (bs_tM m) R m sh) {mu : bs_Mm} {l1 : Int64} {l3 : Int64} {l6 : Int32} {l7 : Int32} {l8 : Int32} {l9 : Int32} {t0 : Int32} {Ph : bs_Po} {r : (Int64 × Int32 × Int32 × Int32 × bs_Mm) ⊕ (Int32 × bs_Mm)} (ka : ∀ s, r = .inl s → fg_R R s.2.2.2.2 → bs_W Ph mX12_run (bs_rm 1 0 0) 39 (bs_mk [(0, .ref m), (1, .long l1), (3, .long s.1), (5, .int s.2.1), (6, .int s.2.2.1), (7, .int s.2.2.2.1)]) [] 0 0 nx sh s.2.2.2.2) (ke : ∀ s, r = .inr s → fg_R R s.2 → bs_W Ph mX12_run (bs_rm 1 0 0) 336 (bs_mk [(0, .ref m), (1, .long l1), (6, .int s.1)]) [] 0 0 nx sh s.2) (hR : fg_R R mu) (h : FX12_run_j122_L39 m mu l1 l3 l6 l7 l8 l9 t0 = some r) : bs_W Ph mX12_run (bs_rm 1 0 0) 122 (bs_mk [(0, .ref m), (1, .long l1), (3, .long l3), (6, .int l6), (7, .int l7), (8, .int l8), (9, .int l9)]) [.int t0] 0 0 nx sh mu := by
  unfold FX12_run_j122_L39 at h
  refine bs_istore dX12_run_122 rfl (by decide) ?_
  refine bs_iconst (v := (nI 0)) dX12_run_124 (by decide) ?_
  refine bs_istore dX12_run_125 rfl (by decide) ?_
  refine bs_iconst (v := (nI 0)) dX12_run_127 (by decide) ?_
  refine bs_istore dX12_run_128 rfl (by decide) ?_
  obtain ⟨t26, k27, h⟩ := fg_bdE h
  refine bs_W.mk [(0, .ref m), (1, .long l1), (3, .long l3), (6, .int l6), (7, .int l7), (8, .int l8), (9, .int l9), (10, .int t0), (11, .int (nI 0)), (12, .int (nI 0))] (by intro q hq; simp only [List.mem_cons, List.not_mem_nil, or_false] at hq; rcases hq with rfl | rfl | rfl | rfl | rfl | rfl | rfl | rfl | rfl | rfl <;> rfl) ?_
  refine wFX12_run_l130_L39 HM _ _ _ _ _ _ _ k27 hR ?_
  intro s e hR
  subst e
  refine bs_W.mk [(0, .ref m), (1, .long l1), (3, .long t26.1), (6, .int l6), (7, .int l7), (9, .int t26.2.1), (10, .int t26.2.2.1), (11, .int t26.2.2.2.1)] (by intro q hq; simp only [List.mem_cons, List.not_mem_nil, or_false] at hq; rcases hq with rfl | rfl | rfl | rfl | rfl | rfl | rfl | rfl <;> rfl) ?_
  exact wFX12_run_j274_L39 HM ka ke hR h
noncomputable def FX12_run_b39 (m : Nat)  (l1 : Int64) (s : Int64 × Int32 × Int32 × Int32 × bs_Mm) : Option ((Int64 × Int32 × Int32 × Int32 × bs_Mm) ⊕ (Int32 × bs_Mm)) :=
  if (bs_iv (s.2.2.2.2 m 45)) ≤ s.2.2.2.1 then (
    some (.inr (s.2.2.1, s.2.2.2.2))
  ) else (
    fg_gd (fg_in s.2.2.2.1 30) (
    fg_gd (fg_in s.2.2.2.1 30) (
    fg_gd (fg_in (((nI 4) * s.2.2.2.1) + (nI 1)) 120) (
    fg_wr s.2.2.2.2 (m + 31) (((nI 4) * s.2.2.2.1) + (nI 1)).toNatClampNeg (.int (if s.2.1 < (bs_iv (s.2.2.2.2 (m + 28) s.2.2.2.1.toNatClampNeg)) then (bs_iv (s.2.2.2.2 (m + 28) s.2.2.2.1.toNatClampNeg)) else s.2.1)) (fun mu9 => 
    fg_gd (fg_in s.2.2.2.1 30) (
    fg_gd (fg_in s.2.2.2.1 30) (
    if ((if s.2.1 < (bs_iv (s.2.2.2.2 (m + 28) s.2.2.2.1.toNatClampNeg)) then (bs_iv (s.2.2.2.2 (m + 28) s.2.2.2.1.toNatClampNeg)) else s.2.1) - (bs_iv (mu9 (m + 28) s.2.2.2.1.toNatClampNeg))) ≤ (bs_iv (mu9 (m + 30) s.2.2.2.1.toNatClampNeg)) then (
      fg_bd (FX12_isThere m mu9 (bs_iv (s.2.2.2.2 (m + 29) s.2.2.2.1.toNatClampNeg))) (fun v13 => 
      if v13 = 0 then (
        FX12_run_j122_L39 m mu9 l1 s.1 s.2.2.1 s.2.2.2.1 (bs_iv (s.2.2.2.2 (m + 29) s.2.2.2.1.toNatClampNeg)) (if s.2.1 < (bs_iv (s.2.2.2.2 (m + 28) s.2.2.2.1.toNatClampNeg)) then (bs_iv (s.2.2.2.2 (m + 28) s.2.2.2.1.toNatClampNeg)) else s.2.1) (nI 2)
      ) else (
        FX12_run_j122_L39 m mu9 l1 s.1 s.2.2.1 s.2.2.2.1 (bs_iv (s.2.2.2.2 (m + 29) s.2.2.2.1.toNatClampNeg)) (if s.2.1 < (bs_iv (s.2.2.2.2 (m + 28) s.2.2.2.1.toNatClampNeg)) then (bs_iv (s.2.2.2.2 (m + 28) s.2.2.2.1.toNatClampNeg)) else s.2.1) (nI 0)
      ))
    ) else (
      FX12_run_j122_L39 m mu9 l1 s.1 s.2.2.1 s.2.2.2.1 (bs_iv (s.2.2.2.2 (m + 29) s.2.2.2.1.toNatClampNeg)) (if s.2.1 < (bs_iv (s.2.2.2.2 (m + 28) s.2.2.2.1.toNatClampNeg)) then (bs_iv (s.2.2.2.2 (m + 28) s.2.2.2.1.toNatClampNeg)) else s.2.1) (nI 1)
    )))))))
  )
set_option maxHeartbeats 4000000 in
theorem wFX12_run_b39 {nx : Nat} {sh : bs_Sh} {R : Nat → Nat → Option Nat} {m : Nat} (HM : fg_S (bs_tM m) R m sh) {l1 : Int64} {Ph : bs_Po} {s : Int64 × Int32 × Int32 × Int32 × bs_Mm} {r : (Int64 × Int32 × Int32 × Int32 × bs_Mm) ⊕ (Int32 × bs_Mm)} (ka : ∀ s, r = .inl s → fg_R R s.2.2.2.2 → bs_W Ph mX12_run (bs_rm 1 0 0) 39 (bs_mk [(0, .ref m), (1, .long l1), (3, .long s.1), (5, .int s.2.1), (6, .int s.2.2.1), (7, .int s.2.2.2.1)]) [] 0 0 nx sh s.2.2.2.2) (ke : ∀ s, r = .inr s → fg_R R s.2 → bs_W Ph mX12_run (bs_rm 1 0 0) 336 (bs_mk [(0, .ref m), (1, .long l1), (6, .int s.1)]) [] 0 0 nx sh s.2) (hR : fg_R R s.2.2.2.2) (h : FX12_run_b39 m l1 s = some r) : bs_W Ph mX12_run (bs_rm 1 0 0) 39 (bs_mk [(0, .ref m), (1, .long l1), (3, .long s.1), (5, .int s.2.1), (6, .int s.2.2.1), (7, .int s.2.2.2.1)]) [] 0 0 nx sh s.2.2.2.2 := by
  unfold FX12_run_b39 at h
  refine bs_iload dX12_run_39 rfl ?_
  refine bs_aload_n dX12_run_41 rfl ?_
  refine bs_getI dX12_run_42 fX12_393 (HM.s 0 rfl rfl rfl) ?_
  refine bs_icmp_ge (tgt := 336) dX12_run_45 (by decide) (fun c => ?_) (fun c => ?_)
  · replace h := fg_ip c h
    cases h
    refine bs_W.mk [(0, .ref m), (1, .long l1), (6, .int s.2.2.1)] (by intro q hq; simp only [List.mem_cons, List.not_mem_nil, or_false] at hq; rcases hq with rfl | rfl | rfl <;> rfl) (ke _ rfl hR)
  · replace h := fg_iN c h
    refine bs_aload_n dX12_run_48 rfl ?_
    refine fg_getR (b := (m + 29)) dX12_run_49 fX12_96 (HM.s 0 rfl rfl rfl) hR (HM.r 0 41 rfl rfl rfl) ?_
    refine bs_iload dX12_run_52 rfl ?_
    obtain ⟨g6, h⟩ := fg_gdE h
    refine bs_iald dX12_run_54 (HM.ss 29 rfl rfl) (fg_in_ix g6) ?_
    refine bs_istore dX12_run_55 rfl (by decide) ?_
    refine bs_iload dX12_run_57 rfl ?_
    refine bs_aload_n dX12_run_59 rfl ?_
    refine fg_getR (b := (m + 28)) dX12_run_60 fX12_93 (HM.s 0 rfl rfl rfl) hR (HM.r 0 40 rfl rfl rfl) ?_
    refine bs_iload dX12_run_63 rfl ?_
    obtain ⟨g7, h⟩ := fg_gdE h
    refine bs_iald dX12_run_65 (HM.ss 28 rfl rfl) (fg_in_ix g7) ?_
    refine bs_mmax dX12_run_66 xX12_149 (by first | decide | (simp only [bs_rm]; omega)) (by first | exact Nat.le_of_ble_eq_true rfl | (simp only [bs_rm, List.map, List.sum_cons, List.sum_nil, Value.category]; omega)) (Nat.zero_le _) (Nat.zero_le _) ?_
    refine bs_istore dX12_run_69 rfl (by decide) ?_
    refine bs_aload_n dX12_run_71 rfl ?_
    refine fg_getR (b := (m + 31)) dX12_run_72 fX12_102 (HM.s 0 rfl rfl rfl) hR (HM.r 0 43 rfl rfl rfl) ?_
    refine bs_iconst (v := (nI 4)) dX12_run_75 (by decide) ?_
    refine bs_iload dX12_run_76 rfl ?_
    refine bs_imul dX12_run_78 ?_
    refine bs_iconst (v := (nI 1)) dX12_run_79 (by decide) ?_
    refine bs_iadd dX12_run_80 ?_
    refine bs_iload dX12_run_81 rfl ?_
    obtain ⟨g8, h⟩ := fg_gdE h
    refine fg_iast dX12_run_83 (HM.ss 31 rfl rfl) (fun j => HM.n 31 j rfl rfl rfl) g8 hR h (fun mu9 hR h => ?_)
    refine bs_iload dX12_run_84 rfl ?_
    refine bs_aload_n dX12_run_86 rfl ?_
    refine fg_getR (b := (m + 28)) dX12_run_87 fX12_93 (HM.s 0 rfl rfl rfl) hR (HM.r 0 40 rfl rfl rfl) ?_
    refine bs_iload dX12_run_90 rfl ?_
    obtain ⟨g10, h⟩ := fg_gdE h
    refine bs_iald dX12_run_92 (HM.ss 28 rfl rfl) (fg_in_ix g10) ?_
    refine bs_isub dX12_run_93 ?_
    refine bs_aload_n dX12_run_94 rfl ?_
    refine fg_getR (b := (m + 30)) dX12_run_95 fX12_99 (HM.s 0 rfl rfl rfl) hR (HM.r 0 42 rfl rfl rfl) ?_
    refine bs_iload dX12_run_98 rfl ?_
    obtain ⟨g11, h⟩ := fg_gdE h
    refine bs_iald dX12_run_100 (HM.ss 30 rfl rfl) (fg_in_ix g11) ?_
    refine bs_icmp_le (tgt := 108) dX12_run_101 (by decide) (fun c => ?_) (fun c => ?_)
    · replace h := fg_ip c h
      refine bs_aload_n dX12_run_108 rfl ?_
      refine bs_iload dX12_run_109 rfl ?_
      obtain ⟨v13, k12, h⟩ := fg_bdE h
      refine fg_callV dX12_run_111 qX12_399 (wX12_isThere HM hR k12) rfl (HM.s 0 rfl rfl rfl) rfl (Nat.le_of_ble_eq_true rfl) (fg_cr (by first | decide | omega) (by decide)) (fun hR => ?_)
      refine bs_if_eq (tgt := 121) dX12_run_114 (by decide) (fun c => ?_) (fun c => ?_)
      · replace h := fg_ip c h
        refine bs_iconst (v := (nI 2)) dX12_run_121 (by decide) ?_
        refine bs_W.mk [(0, .ref m), (1, .long l1), (3, .long s.1), (6, .int s.2.2.1), (7, .int s.2.2.2.1), (8, .int (bs_iv (s.2.2.2.2 (m + 29) s.2.2.2.1.toNatClampNeg))), (9, .int (if s.2.1 < (bs_iv (s.2.2.2.2 (m + 28) s.2.2.2.1.toNatClampNeg)) then (bs_iv (s.2.2.2.2 (m + 28) s.2.2.2.1.toNatClampNeg)) else s.2.1))] (by intro q hq; simp only [List.mem_cons, List.not_mem_nil, or_false] at hq; rcases hq with rfl | rfl | rfl | rfl | rfl | rfl | rfl <;> rfl) ?_
        exact wFX12_run_j122_L39 HM ka ke hR h
      · replace h := fg_iN c h
        refine bs_iconst (v := (nI 0)) dX12_run_117 (by decide) ?_
        refine bs_goto (tgt := 122) dX12_run_118 (by decide) ?_
        refine bs_W.mk [(0, .ref m), (1, .long l1), (3, .long s.1), (6, .int s.2.2.1), (7, .int s.2.2.2.1), (8, .int (bs_iv (s.2.2.2.2 (m + 29) s.2.2.2.1.toNatClampNeg))), (9, .int (if s.2.1 < (bs_iv (s.2.2.2.2 (m + 28) s.2.2.2.1.toNatClampNeg)) then (bs_iv (s.2.2.2.2 (m + 28) s.2.2.2.1.toNatClampNeg)) else s.2.1))] (by intro q hq; simp only [List.mem_cons, List.not_mem_nil, or_false] at hq; rcases hq with rfl | rfl | rfl | rfl | rfl | rfl | rfl <;> rfl) ?_
        exact wFX12_run_j122_L39 HM ka ke hR h
    · replace h := fg_iN c h
      refine bs_iconst (v := (nI 1)) dX12_run_104 (by decide) ?_
      refine bs_goto (tgt := 122) dX12_run_105 (by decide) ?_
      refine bs_W.mk [(0, .ref m), (1, .long l1), (3, .long s.1), (6, .int s.2.2.1), (7, .int s.2.2.2.1), (8, .int (bs_iv (s.2.2.2.2 (m + 29) s.2.2.2.1.toNatClampNeg))), (9, .int (if s.2.1 < (bs_iv (s.2.2.2.2 (m + 28) s.2.2.2.1.toNatClampNeg)) then (bs_iv (s.2.2.2.2 (m + 28) s.2.2.2.1.toNatClampNeg)) else s.2.1))] (by intro q hq; simp only [List.mem_cons, List.not_mem_nil, or_false] at hq; rcases hq with rfl | rfl | rfl | rfl | rfl | rfl | rfl <;> rfl) ?_
      exact wFX12_run_j122_L39 HM ka ke hR h
theorem wFX12_run_l39 {nx : Nat} {sh : bs_Sh} {R : Nat → Nat → Option Nat} {m : Nat} (HM : fg_S (bs_tM m) R m sh) {l1 : Int64} {Ph : bs_Po} {t : Int32 × bs_Mm} : ∀ n (y0 : Int64) (y1 : Int32) (y2 : Int32) (y3 : Int32) (mu1 : bs_Mm), fg_lp (FX12_run_b39 m l1) n (y0, y1, y2, y3, mu1) = some t → fg_R R mu1 → (ke : ∀ s, t = s → fg_R R s.2 → bs_W Ph mX12_run (bs_rm 1 0 0) 336 (bs_mk [(0, .ref m), (1, .long l1), (6, .int s.1)]) [] 0 0 nx sh s.2) → bs_W Ph mX12_run (bs_rm 1 0 0) 39 (bs_mk [(0, .ref m), (1, .long l1), (3, .long y0), (5, .int y1), (6, .int y2), (7, .int y3)]) [] 0 0 nx sh mu1 := by
  intro n
  induction n with
  | zero => intro y0 y1 y2 y3 mu1 h; exact absurd h (fun z => fg_lp0 z)
  | succ n ih =>
    intro y0 y1 y2 y3 mu1 h hR ke
    obtain ⟨r, hb, h1, h2⟩ := fg_lpE h
    exact wFX12_run_b39 (s := (y0, y1, y2, y3, mu1)) HM (fun s' e hR' => ih s'.1 s'.2.1 s'.2.2.1 s'.2.2.2.1 s'.2.2.2.2 (h1 s' e) hR' ke) (fun s' e => ke s' (h2 _ e).symm) hR hb
noncomputable def FX12_run (m : Nat) (mu : bs_Mm) (p1 : Int64) : Option (Int32 × bs_Mm) :=
  fg_bd (fg_lp (FX12_run_b2 m p1) fg_fu ((nI 0), mu)) (fun t4 => 
    fg_bd (fg_lp (FX12_run_b39 m p1) fg_fu (p1, (nI 0), (nI 0), (nI 0), t4)) (fun t34 => 
      fg_wr t34.2 m 46 (.int (bs_iv (t34.2 m 45))) (fun mu36 => 
      some (t34.1, mu36))
    )
  )
set_option maxHeartbeats 4000000 in
theorem wX12_run {nx : Nat} {sh : bs_Sh} {R : Nat → Nat → Option Nat} {m : Nat} (HM : fg_S (bs_tM m) R m sh) {mu : bs_Mm} (hR : fg_R R mu) {p1 : Int64} {r : Int32 × bs_Mm} (h : FX12_run m mu p1 = some r) : bs_C mX12_run (bs_rm 1 0 0) [.ref m, .long p1] nx sh mu (fg_po R nx sh (some (.int r.1)) r.2) := by
  refine bs_ct (by decide +kernel) (Nat.le_of_ble_eq_true rfl) ?_
  have kr : ∀ q, r = q → fg_R R q.2 → (fg_po R nx sh (some (.int r.1)) r.2) (some (.int q.1)) nx sh q.2 := fun q e hq => by subst e; exact ⟨rfl, rfl, rfl, rfl, hq⟩
  unfold FX12_run at h
  refine bs_iconst (v := (nI 0)) dX12_run_0 (by decide) ?_
  refine bs_istore0_n (j := 2) dX12_run_1 rfl rfl (by decide) ?_
  obtain ⟨t4, k5, h⟩ := fg_bdE h
  refine bs_W.mk [(0, .ref m), (1, .long p1), (3, .int (nI 0))] (by intro q hq; simp only [List.mem_cons, List.not_mem_nil, or_false] at hq; rcases hq with rfl | rfl | rfl <;> rfl) ?_
  refine wFX12_run_l2 HM _ _ _ k5 hR ?_
  intro s e hR
  subst e
  refine bs_lload_n dX12_run_28 rfl ?_
  refine bs_lstore0 (j := 2) dX12_run_29 rfl rfl (by decide) ?_
  refine bs_iconst (v := (nI 0)) dX12_run_30 (by decide) ?_
  refine bs_istore0 (j := 4) dX12_run_31 rfl (by decide) ?_
  refine bs_iconst (v := (nI 0)) dX12_run_33 (by decide) ?_
  refine bs_istore dX12_run_34 rfl (by decide) ?_
  refine bs_iconst (v := (nI 0)) dX12_run_36 (by decide) ?_
  refine bs_istore dX12_run_37 rfl (by decide) ?_
  obtain ⟨t34, k35, h⟩ := fg_bdE h
  refine bs_W.mk [(0, .ref m), (1, .long p1), (3, .long p1), (5, .int (nI 0)), (6, .int (nI 0)), (7, .int (nI 0))] (by intro q hq; simp only [List.mem_cons, List.not_mem_nil, or_false] at hq; rcases hq with rfl | rfl | rfl | rfl | rfl | rfl <;> rfl) ?_
  refine wFX12_run_l39 HM _ _ _ _ _ _ k35 hR ?_
  intro s e hR
  subst e
  refine bs_aload_n dX12_run_336 rfl ?_
  refine bs_aload_n dX12_run_337 rfl ?_
  refine bs_getI dX12_run_338 fX12_393 (HM.s 0 rfl rfl rfl) ?_
  refine fg_putI dX12_run_341 pX12_396 (HM.s 0 rfl rfl rfl) (HM.n 0 46 rfl rfl rfl) hR h (fun mu36 hR h => ?_)
  refine bs_iload dX12_run_344 rfl ?_
  cases h
  exact bs_iret dX12_run_346 rfl (Nat.zero_le _) (Nat.zero_le _) (kr _ rfl hR)
noncomputable def FX12_set_b59_L41 (m : Nat) (mu : bs_Mm) (l1 : Int32) (l2 : Int32) (l3 : Int32) (l4 : Int32) (l5 : Int32) (l6 : Int32) (s : Int32) : Option ((Int32) ⊕ (Int32)) :=
  if (s &&& (l4 ^^^ (-1))) = 0 then (
    if (s &&& l6) = 0 then (
      some (.inl (s + (nI 1)))
    ) else (
      fg_gd (fg_in s 1024) (
      if (bs_iv (mu (m + 26) s.toNatClampNeg)) = 0 then (
        some (.inl (s + (nI 1)))
      ) else (
        fg_gd (fg_in (l4 &&& (s ^^^ (-1))) 1024) (
        fg_gd (fg_in l4 1024) (
        if ((nI 1) + (bs_iv (mu (m + 25) (l4 &&& (s ^^^ (-1))).toNatClampNeg))) = (bs_iv (mu (m + 25) l4.toNatClampNeg)) then (
          some (.inr s)
        ) else (
          some (.inl (s + (nI 1)))
        )))
      ))
    )
  ) else (
    some (.inl (s + (nI 1)))
  )
set_option maxHeartbeats 4000000 in
theorem wFX12_set_b59_L41 {nx : Nat} {sh : bs_Sh} {R : Nat → Nat → Option Nat} {m : Nat} (HM : fg_S (bs_tM m) R m sh) {mu : bs_Mm} {l1 : Int32} {l2 : Int32} {l3 : Int32} {l4 : Int32} {l5 : Int32} {l6 : Int32} {Ph : bs_Po} {s : Int32} {r : (Int32) ⊕ (Int32)} (ka : ∀ s, r = .inl s → bs_W Ph mX12_set (bs_rm 5 0 0) 59 (bs_mk [(0, .ref m), (1, .int l1), (2, .int l2), (3, .int l3), (4, .int l4), (5, .int l5), (6, .int l6), (7, .int s)]) [] 0 0 nx sh mu) (ke : ∀ s, r = .inr s → bs_W Ph mX12_set (bs_rm 5 0 0) 117 (bs_mk [(0, .ref m), (1, .int l1), (2, .int l2), (3, .int l3), (4, .int l4), (5, .int l5), (6, .int l6), (7, .int s)]) [] 0 0 nx sh mu) (hR : fg_R R mu) (h : FX12_set_b59_L41 m mu l1 l2 l3 l4 l5 l6 s = some r) : bs_W Ph mX12_set (bs_rm 5 0 0) 59 (bs_mk [(0, .ref m), (1, .int l1), (2, .int l2), (3, .int l3), (4, .int l4), (5, .int l5), (6, .int l6), (7, .int s)]) [] 0 0 nx sh mu := by
  unfold FX12_set_b59_L41 at h
  refine bs_iload dX12_set_59 rfl ?_
  refine bs_iload dX12_set_61 rfl ?_
  refine bs_iconst (v := (-1)) dX12_set_63 (by decide) ?_
  refine bs_ixor dX12_set_64 ?_
  refine bs_iand dX12_set_65 ?_
  refine bs_if_ne (tgt := 111) dX12_set_66 (by decide) (fun c => ?_) (fun c => ?_)
  · replace h := fg_iN c h
    refine fg_iinc (m := (nI 1)) dX12_set_111 rfl rfl (by decide) ?_
    refine bs_goto (tgt := 59) dX12_set_114 (by decide) ?_
    cases h
    refine bs_W.mk [(0, .ref m), (1, .int l1), (2, .int l2), (3, .int l3), (4, .int l4), (5, .int l5), (6, .int l6), (7, .int (s + (nI 1)))] (by intro q hq; simp only [List.mem_cons, List.not_mem_nil, or_false] at hq; rcases hq with rfl | rfl | rfl | rfl | rfl | rfl | rfl | rfl <;> rfl) (ka _ rfl)
  · replace h := fg_ip c h
    refine bs_iload dX12_set_69 rfl ?_
    refine bs_iload dX12_set_71 rfl ?_
    refine bs_iand dX12_set_73 ?_
    refine bs_if_eq (tgt := 111) dX12_set_74 (by decide) (fun c => ?_) (fun c => ?_)
    · replace h := fg_ip c h
      refine fg_iinc (m := (nI 1)) dX12_set_111 rfl rfl (by decide) ?_
      refine bs_goto (tgt := 59) dX12_set_114 (by decide) ?_
      cases h
      refine bs_W.mk [(0, .ref m), (1, .int l1), (2, .int l2), (3, .int l3), (4, .int l4), (5, .int l5), (6, .int l6), (7, .int (s + (nI 1)))] (by intro q hq; simp only [List.mem_cons, List.not_mem_nil, or_false] at hq; rcases hq with rfl | rfl | rfl | rfl | rfl | rfl | rfl | rfl <;> rfl) (ka _ rfl)
    · replace h := fg_iN c h
      refine bs_aload_n dX12_set_77 rfl ?_
      refine fg_getR (b := (m + 26)) dX12_set_78 fX12_86 (HM.s 0 rfl rfl rfl) hR (HM.r 0 38 rfl rfl rfl) ?_
      refine bs_iload dX12_set_81 rfl ?_
      obtain ⟨g11, h⟩ := fg_gdE h
      refine bs_zald dX12_set_83 (HM.ss 26 rfl rfl) (fg_in_ix g11) ?_
      refine bs_if_eq (tgt := 111) dX12_set_84 (by decide) (fun c => ?_) (fun c => ?_)
      · replace h := fg_ip c h
        refine fg_iinc (m := (nI 1)) dX12_set_111 rfl rfl (by decide) ?_
        refine bs_goto (tgt := 59) dX12_set_114 (by decide) ?_
        cases h
        refine bs_W.mk [(0, .ref m), (1, .int l1), (2, .int l2), (3, .int l3), (4, .int l4), (5, .int l5), (6, .int l6), (7, .int (s + (nI 1)))] (by intro q hq; simp only [List.mem_cons, List.not_mem_nil, or_false] at hq; rcases hq with rfl | rfl | rfl | rfl | rfl | rfl | rfl | rfl <;> rfl) (ka _ rfl)
      · replace h := fg_iN c h
        refine bs_iconst (v := (nI 1)) dX12_set_87 (by decide) ?_
        refine bs_aload_n dX12_set_88 rfl ?_
        refine fg_getR (b := (m + 25)) dX12_set_89 fX12_83 (HM.s 0 rfl rfl rfl) hR (HM.r 0 37 rfl rfl rfl) ?_
        refine bs_iload dX12_set_92 rfl ?_
        refine bs_iload dX12_set_94 rfl ?_
        refine bs_iconst (v := (-1)) dX12_set_96 (by decide) ?_
        refine bs_ixor dX12_set_97 ?_
        refine bs_iand dX12_set_98 ?_
        obtain ⟨g12, h⟩ := fg_gdE h
        refine bs_iald dX12_set_99 (HM.ss 25 rfl rfl) (fg_in_ix g12) ?_
        refine bs_iadd dX12_set_100 ?_
        refine bs_aload_n dX12_set_101 rfl ?_
        refine fg_getR (b := (m + 25)) dX12_set_102 fX12_83 (HM.s 0 rfl rfl rfl) hR (HM.r 0 37 rfl rfl rfl) ?_
        refine bs_iload dX12_set_105 rfl ?_
        obtain ⟨g13, h⟩ := fg_gdE h
        refine bs_iald dX12_set_107 (HM.ss 25 rfl rfl) (fg_in_ix g13) ?_
        refine bs_icmp_eq (tgt := 117) dX12_set_108 (by decide) (fun c => ?_) (fun c => ?_)
        · replace h := fg_ip c h
          cases h
          refine bs_W.mk [(0, .ref m), (1, .int l1), (2, .int l2), (3, .int l3), (4, .int l4), (5, .int l5), (6, .int l6), (7, .int s)] (by intro q hq; simp only [List.mem_cons, List.not_mem_nil, or_false] at hq; rcases hq with rfl | rfl | rfl | rfl | rfl | rfl | rfl | rfl <;> rfl) (ke _ rfl)
        · replace h := fg_iN c h
          refine fg_iinc (m := (nI 1)) dX12_set_111 rfl rfl (by decide) ?_
          refine bs_goto (tgt := 59) dX12_set_114 (by decide) ?_
          cases h
          refine bs_W.mk [(0, .ref m), (1, .int l1), (2, .int l2), (3, .int l3), (4, .int l4), (5, .int l5), (6, .int l6), (7, .int (s + (nI 1)))] (by intro q hq; simp only [List.mem_cons, List.not_mem_nil, or_false] at hq; rcases hq with rfl | rfl | rfl | rfl | rfl | rfl | rfl | rfl <;> rfl) (ka _ rfl)
theorem wFX12_set_l59_L41 {nx : Nat} {sh : bs_Sh} {R : Nat → Nat → Option Nat} {m : Nat} (HM : fg_S (bs_tM m) R m sh) {mu : bs_Mm} {l1 : Int32} {l2 : Int32} {l3 : Int32} {l4 : Int32} {l5 : Int32} {l6 : Int32} {Ph : bs_Po} {t : Int32} : ∀ n (y0 : Int32), fg_lp (FX12_set_b59_L41 m mu l1 l2 l3 l4 l5 l6) n y0 = some t → fg_R R mu → (ke : ∀ s, t = s → bs_W Ph mX12_set (bs_rm 5 0 0) 117 (bs_mk [(0, .ref m), (1, .int l1), (2, .int l2), (3, .int l3), (4, .int l4), (5, .int l5), (6, .int l6), (7, .int s)]) [] 0 0 nx sh mu) → bs_W Ph mX12_set (bs_rm 5 0 0) 59 (bs_mk [(0, .ref m), (1, .int l1), (2, .int l2), (3, .int l3), (4, .int l4), (5, .int l5), (6, .int l6), (7, .int y0)]) [] 0 0 nx sh mu := by
  intro n
  induction n with
  | zero => intro y0 h; exact absurd h (fun z => fg_lp0 z)
  | succ n ih =>
    intro y0 h hR ke
    obtain ⟨r, hb, h1, h2⟩ := fg_lpE h
    exact wFX12_set_b59_L41 (s := y0) HM (fun s' e => ih s' (h1 s' e) hR ke) (fun s' e => ke s' (h2 _ e).symm) hR hb
noncomputable def FX12_set_b41 (m : Nat) (mu : bs_Mm) (l1 : Int32) (l2 : Int32) (l3 : Int32) (s : Int32 × Int32) : Option ((Int32 × Int32) ⊕ ((Unit) ⊕ (Int32 × bs_Mm))) :=
  if l3 < s.2 then (
    some (.inr (.inl ()))
  ) else (
    fg_bd (fg_lp (FX12_set_b59_L41 m mu l1 l2 l3 s.1 s.2 (s.1 &&& (-s.1))) fg_fu (s.1 &&& (-s.1))) (fun t14 => 
      if s.2 = l3 then (
        some (.inr (.inr (t14, mu)))
      ) else (
        some (.inl ((s.1 &&& (t14 ^^^ (-1))), (s.2 + (nI 1))))
      )
    )
  )
set_option maxHeartbeats 4000000 in
theorem wFX12_set_b41 {nx : Nat} {sh : bs_Sh} {R : Nat → Nat → Option Nat} {m : Nat} (HM : fg_S (bs_tM m) R m sh) {mu : bs_Mm} {l1 : Int32} {l2 : Int32} {l3 : Int32} {Ph : bs_Po} {s : Int32 × Int32} {r : (Int32 × Int32) ⊕ ((Unit) ⊕ (Int32 × bs_Mm))} (ka : ∀ s, r = .inl s → bs_W Ph mX12_set (bs_rm 5 0 0) 41 (bs_mk [(0, .ref m), (1, .int l1), (2, .int l2), (3, .int l3), (4, .int s.1), (5, .int s.2)]) [] 0 0 nx sh mu) (ke : ∀ s, r = .inr (.inl s) → bs_W Ph mX12_set (bs_rm 5 0 0) 141 (bs_mk [(0, .ref m), (1, .int l1), (2, .int l2), (3, .int l3)]) [] 0 0 nx sh mu) (kr : ∀ q, r = .inr (.inr q) → fg_R R q.2 → Ph (some (.int q.1)) nx sh q.2) (hR : fg_R R mu) (h : FX12_set_b41 m mu l1 l2 l3 s = some r) : bs_W Ph mX12_set (bs_rm 5 0 0) 41 (bs_mk [(0, .ref m), (1, .int l1), (2, .int l2), (3, .int l3), (4, .int s.1), (5, .int s.2)]) [] 0 0 nx sh mu := by
  unfold FX12_set_b41 at h
  refine bs_iload dX12_set_41 rfl ?_
  refine bs_iload_n dX12_set_43 rfl ?_
  refine bs_icmp_gt (tgt := 141) dX12_set_44 (by decide) (fun c => ?_) (fun c => ?_)
  · replace h := fg_ip c h
    cases h
    refine bs_W.mk [(0, .ref m), (1, .int l1), (2, .int l2), (3, .int l3)] (by intro q hq; simp only [List.mem_cons, List.not_mem_nil, or_false] at hq; rcases hq with rfl | rfl | rfl | rfl <;> rfl) (ke _ rfl)
  · replace h := fg_iN c h
    refine bs_iload dX12_set_47 rfl ?_
    refine bs_iload dX12_set_49 rfl ?_
    refine bs_ineg dX12_set_51 ?_
    refine bs_iand dX12_set_52 ?_
    refine bs_istore dX12_set_53 rfl (by decide) ?_
    refine bs_iload dX12_set_55 rfl ?_
    refine bs_istore dX12_set_57 rfl (by decide) ?_
    obtain ⟨t14, k15, h⟩ := fg_bdE h
    refine bs_W.mk [(0, .ref m), (1, .int l1), (2, .int l2), (3, .int l3), (4, .int s.1), (5, .int s.2), (6, .int (s.1 &&& (-s.1))), (7, .int (s.1 &&& (-s.1)))] (by intro q hq; simp only [List.mem_cons, List.not_mem_nil, or_false] at hq; rcases hq with rfl | rfl | rfl | rfl | rfl | rfl | rfl | rfl <;> rfl) ?_
    refine wFX12_set_l59_L41 HM _ _ k15 hR ?_
    intro s e
    subst e
    refine bs_iload dX12_set_117 rfl ?_
    refine bs_iload_n dX12_set_119 rfl ?_
    refine bs_icmp_ne (tgt := 126) dX12_set_120 (by decide) (fun c => ?_) (fun c => ?_)
    · replace h := fg_iN c h
      refine bs_iload dX12_set_126 rfl ?_
      refine bs_iload dX12_set_128 rfl ?_
      refine bs_iconst (v := (-1)) dX12_set_130 (by decide) ?_
      refine bs_ixor dX12_set_131 ?_
      refine bs_iand dX12_set_132 ?_
      refine bs_istore dX12_set_133 rfl (by decide) ?_
      refine fg_iinc (m := (nI 1)) dX12_set_135 rfl rfl (by decide) ?_
      refine bs_goto (tgt := 41) dX12_set_138 (by decide) ?_
      cases h
      refine bs_W.mk [(0, .ref m), (1, .int l1), (2, .int l2), (3, .int l3), (4, .int (s.1 &&& (t14 ^^^ (-1)))), (5, .int (s.2 + (nI 1)))] (by intro q hq; simp only [List.mem_cons, List.not_mem_nil, or_false] at hq; rcases hq with rfl | rfl | rfl | rfl | rfl | rfl <;> rfl) (by have k := ka _ rfl; dsimp only at k; exact k)
    · replace h := fg_ip c h
      refine bs_iload dX12_set_123 rfl ?_
      cases h
      exact bs_iret dX12_set_125 rfl (Nat.zero_le _) (Nat.zero_le _) (kr _ rfl hR)
theorem wFX12_set_l41 {nx : Nat} {sh : bs_Sh} {R : Nat → Nat → Option Nat} {m : Nat} (HM : fg_S (bs_tM m) R m sh) {mu : bs_Mm} {l1 : Int32} {l2 : Int32} {l3 : Int32} {Ph : bs_Po} {t : (Unit) ⊕ (Int32 × bs_Mm)} : ∀ n (y0 : Int32) (y1 : Int32), fg_lp (FX12_set_b41 m mu l1 l2 l3) n (y0, y1) = some t → fg_R R mu → (ke : ∀ s, t = .inl s → bs_W Ph mX12_set (bs_rm 5 0 0) 141 (bs_mk [(0, .ref m), (1, .int l1), (2, .int l2), (3, .int l3)]) [] 0 0 nx sh mu) → (kr : ∀ q, t = .inr q → fg_R R q.2 → Ph (some (.int q.1)) nx sh q.2) → bs_W Ph mX12_set (bs_rm 5 0 0) 41 (bs_mk [(0, .ref m), (1, .int l1), (2, .int l2), (3, .int l3), (4, .int y0), (5, .int y1)]) [] 0 0 nx sh mu := by
  intro n
  induction n with
  | zero => intro y0 y1 h; exact absurd h (fun z => fg_lp0 z)
  | succ n ih =>
    intro y0 y1 h hR ke kr
    obtain ⟨r, hb, h1, h2⟩ := fg_lpE h
    exact wFX12_set_b41 (s := (y0, y1)) HM (fun s' e => ih s'.1 s'.2 (h1 s' e) hR ke kr) (fun s' e => ke s' (h2 _ e).symm) (fun q e => kr q (h2 _ e).symm) hR hb
noncomputable def FX12_set (m : Nat) (mu : bs_Mm) (p1 : Int32) (p2 : Int32) (p3 : Int32) : Option (Int32 × bs_Mm) :=
  fg_b2 (FX12_mayBeMade m mu p1 p2) (fun v3 mu2 => 
  if v3 = 0 then (
    some ((-1), mu2)
  ) else (
    fg_bd (FX12_all m mu2 p1) (fun v5 => 
    fg_gd (fg_in v5 1024) (
    fg_bd (FX12_in m mu2 p3 (nI 0) ((bs_iv (mu2 (m + 25) v5.toNatClampNeg)) - (nI 1))) (fun v8 => 
    if v8 = 0 then (
      some ((-1), mu2)
    ) else (
      fg_bd (FX12_all m mu2 p1) (fun v10 => 
      fg_l3 (fg_lp (FX12_set_b41 m mu2 p1 p2 p3) fg_fu (v10, (nI 0))) (fun t16 => 
        some ((-1), mu2)
      ) (fun q18 => some q18))
    ))))
  ))
set_option maxHeartbeats 4000000 in
theorem wX12_set {nx : Nat} {sh : bs_Sh} {R : Nat → Nat → Option Nat} {m : Nat} (HM : fg_S (bs_tM m) R m sh) {mu : bs_Mm} (hR : fg_R R mu) {p1 : Int32} {p2 : Int32} {p3 : Int32} {r : Int32 × bs_Mm} (h : FX12_set m mu p1 p2 p3 = some r) : bs_C mX12_set (bs_rm 5 0 0) [.ref m, .int p1, .int p2, .int p3] nx sh mu (fg_po R nx sh (some (.int r.1)) r.2) := by
  refine bs_ct (by decide +kernel) (Nat.le_of_ble_eq_true rfl) ?_
  have kr : ∀ q, r = q → fg_R R q.2 → (fg_po R nx sh (some (.int r.1)) r.2) (some (.int q.1)) nx sh q.2 := fun q e hq => by subst e; exact ⟨rfl, rfl, rfl, rfl, hq⟩
  unfold FX12_set at h
  refine bs_aload_n dX12_set_0 rfl ?_
  refine bs_iload_n dX12_set_1 rfl ?_
  refine bs_iload_n dX12_set_2 rfl ?_
  obtain ⟨v3, mu2, k1, h⟩ := fg_b2E h
  refine fg_callV dX12_set_3 qX12_381 (wX12_mayBeMade HM hR k1) rfl (HM.s 0 rfl rfl rfl) rfl (Nat.le_of_ble_eq_true rfl) (fg_cr (by first | decide | omega) (by decide)) (fun hR => ?_)
  refine bs_if_eq (tgt := 29) dX12_set_6 (by decide) (fun c => ?_) (fun c => ?_)
  · replace h := fg_ip c h
    refine bs_iconst (v := (-1)) dX12_set_29 (by decide) ?_
    cases h
    exact bs_iret dX12_set_30 rfl (Nat.zero_le _) (Nat.zero_le _) (kr _ rfl hR)
  · replace h := fg_iN c h
    refine bs_iload_n dX12_set_9 rfl ?_
    refine bs_iconst (v := (nI 0)) dX12_set_10 (by decide) ?_
    refine bs_aload_n dX12_set_11 rfl ?_
    refine fg_getR (b := (m + 25)) dX12_set_12 fX12_83 (HM.s 0 rfl rfl rfl) hR (HM.r 0 37 rfl rfl rfl) ?_
    refine bs_aload_n dX12_set_15 rfl ?_
    refine bs_iload_n dX12_set_16 rfl ?_
    obtain ⟨v5, k4, h⟩ := fg_bdE h
    refine fg_callV dX12_set_17 qX12_287 (wX12_all HM hR k4) rfl (HM.s 0 rfl rfl rfl) rfl (Nat.le_of_ble_eq_true rfl) (fg_cr (by first | decide | omega) (by decide)) (fun hR => ?_)
    obtain ⟨g6, h⟩ := fg_gdE h
    refine bs_iald dX12_set_20 (HM.ss 25 rfl rfl) (fg_in_ix g6) ?_
    refine bs_iconst (v := (nI 1)) dX12_set_21 (by decide) ?_
    refine bs_isub dX12_set_22 ?_
    obtain ⟨v8, k7, h⟩ := fg_bdE h
    refine fg_callS dX12_set_23 qX12_121 (wX12_in HM hR k7) rfl rfl (Nat.le_of_ble_eq_true rfl) (fg_cr (by first | decide | omega) (by decide)) (fun hR => ?_)
    refine bs_if_ne (tgt := 31) dX12_set_26 (by decide) (fun c => ?_) (fun c => ?_)
    · replace h := fg_iN c h
      refine bs_aload_n dX12_set_31 rfl ?_
      refine bs_iload_n dX12_set_32 rfl ?_
      obtain ⟨v10, k9, h⟩ := fg_bdE h
      refine fg_callV dX12_set_33 qX12_287 (wX12_all HM hR k9) rfl (HM.s 0 rfl rfl rfl) rfl (Nat.le_of_ble_eq_true rfl) (fg_cr (by first | decide | omega) (by decide)) (fun hR => ?_)
      refine bs_istore dX12_set_36 rfl (by decide) ?_
      refine bs_iconst (v := (nI 0)) dX12_set_38 (by decide) ?_
      refine bs_istore dX12_set_39 rfl (by decide) ?_
      obtain ⟨t160, k17, h1, h2⟩ := fg_l3E h
      refine bs_W.mk [(0, .ref m), (1, .int p1), (2, .int p2), (3, .int p3), (4, .int v10), (5, .int (nI 0))] (by intro q hq; simp only [List.mem_cons, List.not_mem_nil, or_false] at hq; rcases hq with rfl | rfl | rfl | rfl | rfl | rfl <;> rfl) ?_
      refine wFX12_set_l41 HM _ _ _ k17 hR ?_ ?_
      · intro t16 e
        replace h := h1 t16 e
        refine bs_iconst (v := (-1)) dX12_set_141 (by decide) ?_
        cases h
        exact bs_iret dX12_set_142 rfl (Nat.zero_le _) (Nat.zero_le _) (kr _ rfl hR)
      · intro q18 e hR
        replace h := h2 q18 e
        cases h
        exact kr _ rfl hR
    · replace h := fg_ip c h
      refine bs_iconst (v := (-1)) dX12_set_29 (by decide) ?_
      cases h
      exact bs_iret dX12_set_30 rfl (Nat.zero_le _) (Nat.zero_le _) (kr _ rfl hR)
