noncomputable def FX12_all (m : Nat) (mu : bs_Mm) (p1 : Int32) : Option (Int32) :=
  fg_gd (fg_in p1 13) (
  some ((((nI 1) <<< ((bs_iv (mu (m + 8) p1.toNatClampNeg)) &&& 31)) - (nI 1))))
set_option maxHeartbeats 4000000 in
theorem wX12_all {nx : Nat} {sh : bs_Sh} {R : Nat → Nat → Option Nat} {m : Nat} (HM : fg_S (bs_tM m) R m sh) {mu : bs_Mm} (hR : fg_R R mu) {p1 : Int32} {r : Int32} (h : FX12_all m mu p1 = some r) : bs_C mX12_all (bs_rm 0 0 0) [.ref m, .int p1] nx sh mu (fg_po R nx sh (some (.int r)) mu) := by
  refine bs_ct (by decide +kernel) (Nat.le_of_ble_eq_true rfl) ?_
  have kr : ∀ q, r = q → fg_R R mu → (fg_po R nx sh (some (.int r)) mu) (some (.int q)) nx sh mu := fun q e hq => by subst e; exact ⟨rfl, rfl, rfl, rfl, hq⟩
  unfold FX12_all at h
  refine bs_iconst (v := (nI 1)) dX12_all_0 (by decide) ?_
  refine bs_aload_n dX12_all_1 rfl ?_
  refine fg_getR (b := (m + 8)) dX12_all_2 fX12_31 (HM.s 0 rfl rfl rfl) hR (HM.r 0 13 rfl rfl rfl) ?_
  refine bs_iload_n dX12_all_5 rfl ?_
  obtain ⟨g1, h⟩ := fg_gdE h
  refine bs_iald dX12_all_6 (HM.ss 8 rfl rfl) (fg_in_ix g1) ?_
  refine bs_ishl dX12_all_7 ?_
  refine bs_iconst (v := (nI 1)) dX12_all_8 (by decide) ?_
  refine bs_isub dX12_all_9 ?_
  cases h
  exact bs_iret dX12_all_10 rfl (Nat.zero_le _) (Nat.zero_le _) (kr _ rfl hR)
noncomputable def FX12_startAging_b11 (m : Nat)  (l1 : Int32) (s : Int32 × bs_Mm) : Option ((Int32 × bs_Mm) ⊕ (bs_Mm)) :=
  fg_gd (fg_in l1 13) (
  if (bs_iv (s.2 (m + 8) l1.toNatClampNeg)) ≤ s.1 then (
    some (.inr s.2)
  ) else (
    fg_gd (fg_in (((nI 24) * l1) + s.1) 312) (
    fg_gd (fg_in s.1 24) (
    fg_wr s.2 (m + 33) s.1.toNatClampNeg (.int (bs_iv (s.2 (m + 10) (((nI 24) * l1) + s.1).toNatClampNeg))) (fun mu7 => 
    some (.inl ((s.1 + (nI 1)), mu7)))))
  ))
set_option maxHeartbeats 4000000 in
theorem wFX12_startAging_b11 {nx : Nat} {sh : bs_Sh} {R : Nat → Nat → Option Nat} {m : Nat} (HM : fg_S (bs_tM m) R m sh) {l1 : Int32} {Ph : bs_Po} {s : Int32 × bs_Mm} {r : (Int32 × bs_Mm) ⊕ (bs_Mm)} (ka : ∀ s, r = .inl s → fg_R R s.2 → bs_W Ph mX12_startAging (bs_rm 1 0 0) 11 (bs_mk [(0, .ref m), (1, .int l1), (2, .int s.1)]) [] 0 0 nx sh s.2) (ke : ∀ s, r = .inr s → fg_R R s → bs_W Ph mX12_startAging (bs_rm 1 0 0) 44 (bs_mk [(0, .ref m), (1, .int l1)]) [] 0 0 nx sh s) (hR : fg_R R s.2) (h : FX12_startAging_b11 m l1 s = some r) : bs_W Ph mX12_startAging (bs_rm 1 0 0) 11 (bs_mk [(0, .ref m), (1, .int l1), (2, .int s.1)]) [] 0 0 nx sh s.2 := by
  unfold FX12_startAging_b11 at h
  refine bs_iload_n dX12_startAging_11 rfl ?_
  refine bs_aload_n dX12_startAging_12 rfl ?_
  refine fg_getR (b := (m + 8)) dX12_startAging_13 fX12_31 (HM.s 0 rfl rfl rfl) hR (HM.r 0 13 rfl rfl rfl) ?_
  refine bs_iload_n dX12_startAging_16 rfl ?_
  obtain ⟨g4, h⟩ := fg_gdE h
  refine bs_iald dX12_startAging_17 (HM.ss 8 rfl rfl) (fg_in_ix g4) ?_
  refine bs_icmp_ge (tgt := 44) dX12_startAging_18 (by decide) (fun c => ?_) (fun c => ?_)
  · replace h := fg_ip c h
    cases h
    refine bs_W.mk [(0, .ref m), (1, .int l1)] (by intro q hq; simp only [List.mem_cons, List.not_mem_nil, or_false] at hq; rcases hq with rfl | rfl <;> rfl) (ke _ rfl hR)
  · replace h := fg_iN c h
    refine bs_aload_n dX12_startAging_21 rfl ?_
    refine fg_getR (b := (m + 33)) dX12_startAging_22 fX12_112 (HM.s 0 rfl rfl rfl) hR (HM.r 0 49 rfl rfl rfl) ?_
    refine bs_iload_n dX12_startAging_25 rfl ?_
    refine bs_aload_n dX12_startAging_26 rfl ?_
    refine fg_getR (b := (m + 10)) dX12_startAging_27 fX12_37 (HM.s 0 rfl rfl rfl) hR (HM.r 0 15 rfl rfl rfl) ?_
    refine bs_bipush (v := (nI 24)) dX12_startAging_30 (by decide) ?_
    refine bs_iload_n dX12_startAging_32 rfl ?_
    refine bs_imul dX12_startAging_33 ?_
    refine bs_iload_n dX12_startAging_34 rfl ?_
    refine bs_iadd dX12_startAging_35 ?_
    obtain ⟨g5, h⟩ := fg_gdE h
    refine bs_iald dX12_startAging_36 (HM.ss 10 rfl rfl) (fg_in_ix g5) ?_
    obtain ⟨g6, h⟩ := fg_gdE h
    refine fg_iast dX12_startAging_37 (HM.ss 33 rfl rfl) (fun j => HM.n 33 j rfl rfl rfl) g6 hR h (fun mu7 hR h => ?_)
    refine fg_iinc (m := (nI 1)) dX12_startAging_38 rfl rfl (by decide) ?_
    refine bs_goto (tgt := 11) dX12_startAging_41 (by decide) ?_
    cases h
    refine bs_W.mk [(0, .ref m), (1, .int l1), (2, .int (s.1 + (nI 1)))] (by intro q hq; simp only [List.mem_cons, List.not_mem_nil, or_false] at hq; rcases hq with rfl | rfl | rfl <;> rfl) (by have k := ka _ rfl hR; dsimp only at k; exact k)
theorem wFX12_startAging_l11 {nx : Nat} {sh : bs_Sh} {R : Nat → Nat → Option Nat} {m : Nat} (HM : fg_S (bs_tM m) R m sh) {l1 : Int32} {Ph : bs_Po} {t : bs_Mm} : ∀ n (y0 : Int32) (mu1 : bs_Mm), fg_lp (FX12_startAging_b11 m l1) n (y0, mu1) = some t → fg_R R mu1 → (ke : ∀ s, t = s → fg_R R s → bs_W Ph mX12_startAging (bs_rm 1 0 0) 44 (bs_mk [(0, .ref m), (1, .int l1)]) [] 0 0 nx sh s) → bs_W Ph mX12_startAging (bs_rm 1 0 0) 11 (bs_mk [(0, .ref m), (1, .int l1), (2, .int y0)]) [] 0 0 nx sh mu1 := by
  intro n
  induction n with
  | zero => intro y0 mu1 h; exact absurd h (fun z => fg_lp0 z)
  | succ n ih =>
    intro y0 mu1 h hR ke
    obtain ⟨r, hb, h1, h2⟩ := fg_lpE h
    exact wFX12_startAging_b11 (s := (y0, mu1)) HM (fun s' e hR' => ih s'.1 s'.2 (h1 s' e) hR' ke) (fun s' e => ke s' (h2 _ e).symm) hR hb
noncomputable def FX12_startAging (m : Nat) (mu : bs_Mm) (p1 : Int32) : Option (bs_Mm) :=
  fg_bd (FX12_all m mu p1) (fun v2 => 
  fg_wr mu m 51 (.int v2) (fun mu3 => 
  fg_bd (fg_lp (FX12_startAging_b11 m p1) fg_fu ((nI 0), mu3)) (fun t8 => 
    some t8
  )))
set_option maxHeartbeats 4000000 in
theorem wX12_startAging {nx : Nat} {sh : bs_Sh} {R : Nat → Nat → Option Nat} {m : Nat} (HM : fg_S (bs_tM m) R m sh) {mu : bs_Mm} (hR : fg_R R mu) {p1 : Int32} {r : bs_Mm} (h : FX12_startAging m mu p1 = some r) : bs_C mX12_startAging (bs_rm 1 0 0) [.ref m, .int p1] nx sh mu (fg_po R nx sh none r) := by
  refine bs_ct (by decide +kernel) (Nat.le_of_ble_eq_true rfl) ?_
  have kr : ∀ q, r = q → fg_R R q → (fg_po R nx sh none r) none nx sh q := fun q e hq => by subst e; exact ⟨rfl, rfl, rfl, rfl, hq⟩
  unfold FX12_startAging at h
  refine bs_aload_n dX12_startAging_0 rfl ?_
  refine bs_aload_n dX12_startAging_1 rfl ?_
  refine bs_iload_n dX12_startAging_2 rfl ?_
  obtain ⟨v2, k1, h⟩ := fg_bdE h
  refine fg_callV dX12_startAging_3 qX12_287 (wX12_all HM hR k1) rfl (HM.s 0 rfl rfl rfl) rfl (Nat.le_of_ble_eq_true rfl) (fg_cr (by first | decide | omega) (by decide)) (fun hR => ?_)
  refine fg_putI dX12_startAging_6 pX12_411 (HM.s 0 rfl rfl rfl) (HM.n 0 51 rfl rfl rfl) hR h (fun mu3 hR h => ?_)
  refine bs_iconst (v := (nI 0)) dX12_startAging_9 (by decide) ?_
  refine bs_istore_n dX12_startAging_10 rfl (by decide) ?_
  obtain ⟨t8, k9, h⟩ := fg_bdE h
  refine bs_W.mk [(0, .ref m), (1, .int p1), (2, .int (nI 0))] (by intro q hq; simp only [List.mem_cons, List.not_mem_nil, or_false] at hq; rcases hq with rfl | rfl | rfl <;> rfl) ?_
  refine wFX12_startAging_l11 HM _ _ _ k9 hR ?_
  intro s e hR
  subst e
  cases h
  exact bs_vret dX12_startAging_44 rfl (Nat.zero_le _) (Nat.zero_le _) (kr _ rfl hR)
noncomputable def FX12_aged_b44 (m : Nat)  (l1 : Int32) (l2 : Int32) (l3 : Int32) (l4 : Int32) (s : Int32 × bs_Mm) : Option ((Int32 × bs_Mm) ⊕ (bs_Mm)) :=
  if l3 < s.1 then (
    some (.inr s.2)
  ) else (
    fg_bd (FX12_age m s.2 l1 l2 s.1) (fun mu10 => 
    some (.inl ((s.1 + (nI 1)), mu10)))
  )
set_option maxHeartbeats 4000000 in
theorem wFX12_aged_b44 {nx : Nat} {sh : bs_Sh} {R : Nat → Nat → Option Nat} {m : Nat} (HM : fg_S (bs_tM m) R m sh) {l1 : Int32} {l2 : Int32} {l3 : Int32} {l4 : Int32} {Ph : bs_Po} {s : Int32 × bs_Mm} {r : (Int32 × bs_Mm) ⊕ (bs_Mm)} (ka : ∀ s, r = .inl s → fg_R R s.2 → bs_W Ph mX12_aged (bs_rm 6 0 0) 44 (bs_mk [(0, .ref m), (1, .int l1), (2, .int l2), (3, .int l3), (4, .int l4), (5, .int s.1)]) [] 0 0 nx sh s.2) (ke : ∀ s, r = .inr s → fg_R R s → bs_W Ph mX12_aged (bs_rm 6 0 0) 64 (bs_mk [(0, .ref m), (1, .int l1), (2, .int l2), (3, .int l3), (4, .int l4)]) [] 0 0 nx sh s) (hR : fg_R R s.2) (h : FX12_aged_b44 m l1 l2 l3 l4 s = some r) : bs_W Ph mX12_aged (bs_rm 6 0 0) 44 (bs_mk [(0, .ref m), (1, .int l1), (2, .int l2), (3, .int l3), (4, .int l4), (5, .int s.1)]) [] 0 0 nx sh s.2 := by
  unfold FX12_aged_b44 at h
  refine bs_iload dX12_aged_44 rfl ?_
  refine bs_iload_n dX12_aged_46 rfl ?_
  refine bs_icmp_gt (tgt := 64) dX12_aged_47 (by decide) (fun c => ?_) (fun c => ?_)
  · replace h := fg_ip c h
    cases h
    refine bs_W.mk [(0, .ref m), (1, .int l1), (2, .int l2), (3, .int l3), (4, .int l4)] (by intro q hq; simp only [List.mem_cons, List.not_mem_nil, or_false] at hq; rcases hq with rfl | rfl | rfl | rfl | rfl <;> rfl) (ke _ rfl hR)
  · replace h := fg_iN c h
    refine bs_aload_n dX12_aged_50 rfl ?_
    refine bs_iload_n dX12_aged_51 rfl ?_
    refine bs_iload_n dX12_aged_52 rfl ?_
    refine bs_iload dX12_aged_53 rfl ?_
    obtain ⟨mu10, k9, h⟩ := fg_bdE h
    refine fg_callVv dX12_aged_55 qX12_417 (wX12_age HM hR k9) rfl (HM.s 0 rfl rfl rfl) rfl (Nat.le_of_ble_eq_true rfl) (fg_cr (by first | decide | omega) (by decide)) (fun hR => ?_)
    refine fg_iinc (m := (nI 1)) dX12_aged_58 rfl rfl (by decide) ?_
    refine bs_goto (tgt := 44) dX12_aged_61 (by decide) ?_
    cases h
    refine bs_W.mk [(0, .ref m), (1, .int l1), (2, .int l2), (3, .int l3), (4, .int l4), (5, .int (s.1 + (nI 1)))] (by intro q hq; simp only [List.mem_cons, List.not_mem_nil, or_false] at hq; rcases hq with rfl | rfl | rfl | rfl | rfl | rfl <;> rfl) (by have k := ka _ rfl hR; dsimp only at k; exact k)
theorem wFX12_aged_l44 {nx : Nat} {sh : bs_Sh} {R : Nat → Nat → Option Nat} {m : Nat} (HM : fg_S (bs_tM m) R m sh) {l1 : Int32} {l2 : Int32} {l3 : Int32} {l4 : Int32} {Ph : bs_Po} {t : bs_Mm} : ∀ n (y0 : Int32) (mu1 : bs_Mm), fg_lp (FX12_aged_b44 m l1 l2 l3 l4) n (y0, mu1) = some t → fg_R R mu1 → (ke : ∀ s, t = s → fg_R R s → bs_W Ph mX12_aged (bs_rm 6 0 0) 64 (bs_mk [(0, .ref m), (1, .int l1), (2, .int l2), (3, .int l3), (4, .int l4)]) [] 0 0 nx sh s) → bs_W Ph mX12_aged (bs_rm 6 0 0) 44 (bs_mk [(0, .ref m), (1, .int l1), (2, .int l2), (3, .int l3), (4, .int l4), (5, .int y0)]) [] 0 0 nx sh mu1 := by
  intro n
  induction n with
  | zero => intro y0 mu1 h; exact absurd h (fun z => fg_lp0 z)
  | succ n ih =>
    intro y0 mu1 h hR ke
    obtain ⟨r, hb, h1, h2⟩ := fg_lpE h
    exact wFX12_aged_b44 (s := (y0, mu1)) HM (fun s' e hR' => ih s'.1 s'.2 (h1 s' e) hR' ke) (fun s' e => ke s' (h2 _ e).symm) hR hb
noncomputable def FX12_aged (m : Nat) (mu : bs_Mm) (p1 : Int32) (p2 : Int32) (p3 : Int32) (p4 : Int32) : Option (Int32 × bs_Mm) :=
  fg_bd (FX12_isBubble m mu p1 p4) (fun v2 => 
  if v2 = 0 then (
    some ((-1), mu)
  ) else (
    fg_bd (FX12_in m mu p2 (nI 0) ((bs_iv (mu m 31)) - (nI 1))) (fun v4 => 
    if v4 = 0 then (
      some ((-1), mu)
    ) else (
      fg_bd (FX12_in m mu p3 (nI 0) (nI 60)) (fun v6 => 
      if v6 = 0 then (
        some ((-1), mu)
      ) else (
        fg_bd (FX12_startAging m mu p1) (fun mu8 => 
        fg_bd (fg_lp (FX12_aged_b44 m p1 p2 p3 p4) fg_fu ((nI 1), mu8)) (fun t11 => 
          fg_gd (fg_in p4 24) (
          some ((bs_iv (t11 (m + 33) p4.toNatClampNeg)), t11))
        ))
      ))
    ))
  ))
set_option maxHeartbeats 4000000 in
theorem wX12_aged {nx : Nat} {sh : bs_Sh} {R : Nat → Nat → Option Nat} {m : Nat} (HM : fg_S (bs_tM m) R m sh) {mu : bs_Mm} (hR : fg_R R mu) {p1 : Int32} {p2 : Int32} {p3 : Int32} {p4 : Int32} {r : Int32 × bs_Mm} (h : FX12_aged m mu p1 p2 p3 p4 = some r) : bs_C mX12_aged (bs_rm 6 0 0) [.ref m, .int p1, .int p2, .int p3, .int p4] nx sh mu (fg_po R nx sh (some (.int r.1)) r.2) := by
  refine bs_ct (by decide +kernel) (Nat.le_of_ble_eq_true rfl) ?_
  have kr : ∀ q, r = q → fg_R R q.2 → (fg_po R nx sh (some (.int r.1)) r.2) (some (.int q.1)) nx sh q.2 := fun q e hq => by subst e; exact ⟨rfl, rfl, rfl, rfl, hq⟩
  unfold FX12_aged at h
  refine bs_aload_n dX12_aged_0 rfl ?_
  refine bs_iload_n dX12_aged_1 rfl ?_
  refine bs_iload dX12_aged_2 rfl ?_
  obtain ⟨v2, k1, h⟩ := fg_bdE h
  refine fg_callV dX12_aged_4 qX12_304 (wX12_isBubble HM hR k1) rfl (HM.s 0 rfl rfl rfl) rfl (Nat.le_of_ble_eq_true rfl) (fg_cr (by first | decide | omega) (by decide)) (fun hR => ?_)
  refine bs_if_eq (tgt := 34) dX12_aged_7 (by decide) (fun c => ?_) (fun c => ?_)
  · replace h := fg_ip c h
    refine bs_iconst (v := (-1)) dX12_aged_34 (by decide) ?_
    cases h
    exact bs_iret dX12_aged_35 rfl (Nat.zero_le _) (Nat.zero_le _) (kr _ rfl hR)
  · replace h := fg_iN c h
    refine bs_iload_n dX12_aged_10 rfl ?_
    refine bs_iconst (v := (nI 0)) dX12_aged_11 (by decide) ?_
    refine bs_aload_n dX12_aged_12 rfl ?_
    refine bs_getI dX12_aged_13 fX12_255 (HM.s 0 rfl rfl rfl) ?_
    refine bs_iconst (v := (nI 1)) dX12_aged_16 (by decide) ?_
    refine bs_isub dX12_aged_17 ?_
    obtain ⟨v4, k3, h⟩ := fg_bdE h
    refine fg_callS dX12_aged_18 qX12_121 (wX12_in HM hR k3) rfl rfl (Nat.le_of_ble_eq_true rfl) (fg_cr (by first | decide | omega) (by decide)) (fun hR => ?_)
    refine bs_if_eq (tgt := 34) dX12_aged_21 (by decide) (fun c => ?_) (fun c => ?_)
    · replace h := fg_ip c h
      refine bs_iconst (v := (-1)) dX12_aged_34 (by decide) ?_
      cases h
      exact bs_iret dX12_aged_35 rfl (Nat.zero_le _) (Nat.zero_le _) (kr _ rfl hR)
    · replace h := fg_iN c h
      refine bs_iload_n dX12_aged_24 rfl ?_
      refine bs_iconst (v := (nI 0)) dX12_aged_25 (by decide) ?_
      refine bs_bipush (v := (nI 60)) dX12_aged_26 (by decide) ?_
      obtain ⟨v6, k5, h⟩ := fg_bdE h
      refine fg_callS dX12_aged_28 qX12_121 (wX12_in HM hR k5) rfl rfl (Nat.le_of_ble_eq_true rfl) (fg_cr (by first | decide | omega) (by decide)) (fun hR => ?_)
      refine bs_if_ne (tgt := 36) dX12_aged_31 (by decide) (fun c => ?_) (fun c => ?_)
      · replace h := fg_iN c h
        refine bs_aload_n dX12_aged_36 rfl ?_
        refine bs_iload_n dX12_aged_37 rfl ?_
        obtain ⟨mu8, k7, h⟩ := fg_bdE h
        refine fg_callVv dX12_aged_38 qX12_414 (wX12_startAging HM hR k7) rfl (HM.s 0 rfl rfl rfl) rfl (Nat.le_of_ble_eq_true rfl) (fg_cr (by first | decide | omega) (by decide)) (fun hR => ?_)
        refine bs_iconst (v := (nI 1)) dX12_aged_41 (by decide) ?_
        refine bs_istore dX12_aged_42 rfl (by decide) ?_
        obtain ⟨t11, k12, h⟩ := fg_bdE h
        refine bs_W.mk [(0, .ref m), (1, .int p1), (2, .int p2), (3, .int p3), (4, .int p4), (5, .int (nI 1))] (by intro q hq; simp only [List.mem_cons, List.not_mem_nil, or_false] at hq; rcases hq with rfl | rfl | rfl | rfl | rfl | rfl <;> rfl) ?_
        refine wFX12_aged_l44 HM _ _ _ k12 hR ?_
        intro s e hR
        subst e
        refine bs_aload_n dX12_aged_64 rfl ?_
        refine fg_getR (b := (m + 33)) dX12_aged_65 fX12_112 (HM.s 0 rfl rfl rfl) hR (HM.r 0 49 rfl rfl rfl) ?_
        refine bs_iload dX12_aged_68 rfl ?_
        obtain ⟨g13, h⟩ := fg_gdE h
        refine bs_iald dX12_aged_70 (HM.ss 33 rfl rfl) (fg_in_ix g13) ?_
        cases h
        exact bs_iret dX12_aged_71 rfl (Nat.zero_le _) (Nat.zero_le _) (kr _ rfl hR)
      · replace h := fg_ip c h
        refine bs_iconst (v := (-1)) dX12_aged_34 (by decide) ?_
        cases h
        exact bs_iret dX12_aged_35 rfl (Nat.zero_le _) (Nat.zero_le _) (kr _ rfl hR)
noncomputable def FX12_mayMatch (m : Nat) (mu : bs_Mm) (p1 : Int32) (p2 : Int32) : Option (Int32) :=
  fg_bd (FX12_isFigure m mu p1) (fun v2 => 
  if v2 = 0 then (
    some ((nI 0))
  ) else (
    fg_bd (FX12_isFigure m mu p2) (fun v4 => 
    if v4 = 0 then (
      some ((nI 0))
    ) else (
      fg_gd (fg_in p1 13) (
      if (nI 8) < (bs_iv (mu (m + 9) p1.toNatClampNeg)) then (
        some ((nI 0))
      ) else (
        fg_gd (fg_in p2 13) (
        if (nI 8) < (bs_iv (mu (m + 9) p2.toNatClampNeg)) then (
          some ((nI 0))
        ) else (
          some ((nI 1))
        ))
      ))
    ))
  ))
set_option maxHeartbeats 4000000 in
theorem wX12_mayMatch {nx : Nat} {sh : bs_Sh} {R : Nat → Nat → Option Nat} {m : Nat} (HM : fg_S (bs_tM m) R m sh) {mu : bs_Mm} (hR : fg_R R mu) {p1 : Int32} {p2 : Int32} {r : Int32} (h : FX12_mayMatch m mu p1 p2 = some r) : bs_C mX12_mayMatch (bs_rm 2 0 0) [.ref m, .int p1, .int p2] nx sh mu (fg_po R nx sh (some (.int r)) mu) := by
  refine bs_ct (by decide +kernel) (Nat.le_of_ble_eq_true rfl) ?_
  have kr : ∀ q, r = q → fg_R R mu → (fg_po R nx sh (some (.int r)) mu) (some (.int q)) nx sh mu := fun q e hq => by subst e; exact ⟨rfl, rfl, rfl, rfl, hq⟩
  unfold FX12_mayMatch at h
  refine bs_aload_n dX12_mayMatch_0 rfl ?_
  refine bs_iload_n dX12_mayMatch_1 rfl ?_
  obtain ⟨v2, k1, h⟩ := fg_bdE h
  refine fg_callV dX12_mayMatch_2 qX12_284 (wX12_isFigure HM hR k1) rfl (HM.s 0 rfl rfl rfl) rfl (Nat.le_of_ble_eq_true rfl) (fg_cr (by first | decide | omega) (by decide)) (fun hR => ?_)
  refine bs_if_eq (tgt := 42) dX12_mayMatch_5 (by decide) (fun c => ?_) (fun c => ?_)
  · replace h := fg_ip c h
    refine bs_iconst (v := (nI 0)) dX12_mayMatch_42 (by decide) ?_
    cases h
    exact bs_zret dX12_mayMatch_43 rfl (Or.inl rfl) (Nat.zero_le _) (Nat.zero_le _) (kr _ rfl hR)
  · replace h := fg_iN c h
    refine bs_aload_n dX12_mayMatch_8 rfl ?_
    refine bs_iload_n dX12_mayMatch_9 rfl ?_
    obtain ⟨v4, k3, h⟩ := fg_bdE h
    refine fg_callV dX12_mayMatch_10 qX12_284 (wX12_isFigure HM hR k3) rfl (HM.s 0 rfl rfl rfl) rfl (Nat.le_of_ble_eq_true rfl) (fg_cr (by first | decide | omega) (by decide)) (fun hR => ?_)
    refine bs_if_eq (tgt := 42) dX12_mayMatch_13 (by decide) (fun c => ?_) (fun c => ?_)
    · replace h := fg_ip c h
      refine bs_iconst (v := (nI 0)) dX12_mayMatch_42 (by decide) ?_
      cases h
      exact bs_zret dX12_mayMatch_43 rfl (Or.inl rfl) (Nat.zero_le _) (Nat.zero_le _) (kr _ rfl hR)
    · replace h := fg_iN c h
      refine bs_aload_n dX12_mayMatch_16 rfl ?_
      refine fg_getR (b := (m + 9)) dX12_mayMatch_17 fX12_34 (HM.s 0 rfl rfl rfl) hR (HM.r 0 14 rfl rfl rfl) ?_
      refine bs_iload_n dX12_mayMatch_20 rfl ?_
      obtain ⟨g5, h⟩ := fg_gdE h
      refine bs_iald dX12_mayMatch_21 (HM.ss 9 rfl rfl) (fg_in_ix g5) ?_
      refine bs_bipush (v := (nI 8)) dX12_mayMatch_22 (by decide) ?_
      refine bs_icmp_gt (tgt := 42) dX12_mayMatch_24 (by decide) (fun c => ?_) (fun c => ?_)
      · replace h := fg_ip c h
        refine bs_iconst (v := (nI 0)) dX12_mayMatch_42 (by decide) ?_
        cases h
        exact bs_zret dX12_mayMatch_43 rfl (Or.inl rfl) (Nat.zero_le _) (Nat.zero_le _) (kr _ rfl hR)
      · replace h := fg_iN c h
        refine bs_aload_n dX12_mayMatch_27 rfl ?_
        refine fg_getR (b := (m + 9)) dX12_mayMatch_28 fX12_34 (HM.s 0 rfl rfl rfl) hR (HM.r 0 14 rfl rfl rfl) ?_
        refine bs_iload_n dX12_mayMatch_31 rfl ?_
        obtain ⟨g6, h⟩ := fg_gdE h
        refine bs_iald dX12_mayMatch_32 (HM.ss 9 rfl rfl) (fg_in_ix g6) ?_
        refine bs_bipush (v := (nI 8)) dX12_mayMatch_33 (by decide) ?_
        refine bs_icmp_gt (tgt := 42) dX12_mayMatch_35 (by decide) (fun c => ?_) (fun c => ?_)
        · replace h := fg_ip c h
          refine bs_iconst (v := (nI 0)) dX12_mayMatch_42 (by decide) ?_
          cases h
          exact bs_zret dX12_mayMatch_43 rfl (Or.inl rfl) (Nat.zero_le _) (Nat.zero_le _) (kr _ rfl hR)
        · replace h := fg_iN c h
          refine bs_iconst (v := (nI 1)) dX12_mayMatch_38 (by decide) ?_
          refine bs_goto (tgt := 43) dX12_mayMatch_39 (by decide) ?_
          cases h
          exact bs_zret dX12_mayMatch_43 rfl (Or.inr rfl) (Nat.zero_le _) (Nat.zero_le _) (kr _ rfl hR)
noncomputable def FX12_between_j74_L9 (m : Nat) (mu : bs_Mm) (l1 : Int32) (l2 : Int32) (l3 : Int32) (l4 : Int32) (l5 : Int32) (l6 : Int32) (t0 : Int32) : Option ((Int32 × Int32) ⊕ (Int32)) :=
  if t0 = 0 then (
    some (.inl ((l5 + (nI 0)), (l6 + (nI 1))))
  ) else (
    fg_gd (fg_in l6 312) (
    if (bs_iv (mu (m + 10) l6.toNatClampNeg)) = l4 then (
      some (.inl ((l5 + (nI 1)), (l6 + (nI 1))))
    ) else (
      some (.inl ((l5 + (nI 0)), (l6 + (nI 1))))
    ))
  )
set_option maxHeartbeats 4000000 in
theorem wFX12_between_j74_L9 {nx : Nat} {sh : bs_Sh} {R : Nat → Nat → Option Nat} {m : Nat} (HM : fg_S (bs_tM m) R m sh) {mu : bs_Mm} {l1 : Int32} {l2 : Int32} {l3 : Int32} {l4 : Int32} {l5 : Int32} {l6 : Int32} {t0 : Int32} {Ph : bs_Po} {r : (Int32 × Int32) ⊕ (Int32)} (ka : ∀ s, r = .inl s → bs_W Ph mX12_between (bs_rm 0 0 0) 9 (bs_mk [(0, .ref m), (1, .int l1), (2, .int l2), (3, .int l3), (4, .int l4), (5, .int s.1), (6, .int s.2)]) [] 0 0 nx sh mu) (ke : ∀ s, r = .inr s → bs_W Ph mX12_between (bs_rm 0 0 0) 109 (bs_mk [(0, .ref m), (1, .int l1), (2, .int l2), (3, .int l3), (4, .int l4), (5, .int s)]) [] 0 0 nx sh mu) (hR : fg_R R mu) (h : FX12_between_j74_L9 m mu l1 l2 l3 l4 l5 l6 t0 = some r) : bs_W Ph mX12_between (bs_rm 0 0 0) 74 (bs_mk [(0, .ref m), (1, .int l1), (2, .int l2), (3, .int l3), (4, .int l4), (5, .int l5), (6, .int l6)]) [.int t0] 0 0 nx sh mu := by
  unfold FX12_between_j74_L9 at h
  refine bs_istore dX12_between_74 rfl (by decide) ?_
  refine bs_iload dX12_between_76 rfl ?_
  refine bs_iload dX12_between_78 rfl ?_
  refine bs_if_eq (tgt := 99) dX12_between_80 (by decide) (fun c => ?_) (fun c => ?_)
  · replace h := fg_ip c h
    refine bs_iconst (v := (nI 0)) dX12_between_99 (by decide) ?_
    refine bs_iadd dX12_between_100 ?_
    refine bs_istore dX12_between_101 rfl (by decide) ?_
    refine fg_iinc (m := (nI 1)) dX12_between_103 rfl rfl (by decide) ?_
    refine bs_goto (tgt := 9) dX12_between_106 (by decide) ?_
    cases h
    refine bs_W.mk [(0, .ref m), (1, .int l1), (2, .int l2), (3, .int l3), (4, .int l4), (5, .int (l5 + (nI 0))), (6, .int (l6 + (nI 1)))] (by intro q hq; simp only [List.mem_cons, List.not_mem_nil, or_false] at hq; rcases hq with rfl | rfl | rfl | rfl | rfl | rfl | rfl <;> rfl) (by have k := ka _ rfl; dsimp only at k; exact k)
  · replace h := fg_iN c h
    refine bs_aload_n dX12_between_83 rfl ?_
    refine fg_getR (b := (m + 10)) dX12_between_84 fX12_37 (HM.s 0 rfl rfl rfl) hR (HM.r 0 15 rfl rfl rfl) ?_
    refine bs_iload dX12_between_87 rfl ?_
    obtain ⟨g4, h⟩ := fg_gdE h
    refine bs_iald dX12_between_89 (HM.ss 10 rfl rfl) (fg_in_ix g4) ?_
    refine bs_iload dX12_between_90 rfl ?_
    refine bs_icmp_ne (tgt := 99) dX12_between_92 (by decide) (fun c => ?_) (fun c => ?_)
    · replace h := fg_iN c h
      refine bs_iconst (v := (nI 0)) dX12_between_99 (by decide) ?_
      refine bs_iadd dX12_between_100 ?_
      refine bs_istore dX12_between_101 rfl (by decide) ?_
      refine fg_iinc (m := (nI 1)) dX12_between_103 rfl rfl (by decide) ?_
      refine bs_goto (tgt := 9) dX12_between_106 (by decide) ?_
      cases h
      refine bs_W.mk [(0, .ref m), (1, .int l1), (2, .int l2), (3, .int l3), (4, .int l4), (5, .int (l5 + (nI 0))), (6, .int (l6 + (nI 1)))] (by intro q hq; simp only [List.mem_cons, List.not_mem_nil, or_false] at hq; rcases hq with rfl | rfl | rfl | rfl | rfl | rfl | rfl <;> rfl) (by have k := ka _ rfl; dsimp only at k; exact k)
    · replace h := fg_ip c h
      refine bs_iconst (v := (nI 1)) dX12_between_95 (by decide) ?_
      refine bs_goto (tgt := 100) dX12_between_96 (by decide) ?_
      refine bs_iadd dX12_between_100 ?_
      refine bs_istore dX12_between_101 rfl (by decide) ?_
      refine fg_iinc (m := (nI 1)) dX12_between_103 rfl rfl (by decide) ?_
      refine bs_goto (tgt := 9) dX12_between_106 (by decide) ?_
      cases h
      refine bs_W.mk [(0, .ref m), (1, .int l1), (2, .int l2), (3, .int l3), (4, .int l4), (5, .int (l5 + (nI 1))), (6, .int (l6 + (nI 1)))] (by intro q hq; simp only [List.mem_cons, List.not_mem_nil, or_false] at hq; rcases hq with rfl | rfl | rfl | rfl | rfl | rfl | rfl <;> rfl) (by have k := ka _ rfl; dsimp only at k; exact k)
noncomputable def FX12_between_j73_L9 (m : Nat) (mu : bs_Mm) (l1 : Int32) (l2 : Int32) (l3 : Int32) (l4 : Int32) (l5 : Int32) (l6 : Int32) : Option ((Int32 × Int32) ⊕ (Int32)) :=
  FX12_between_j74_L9 m mu l1 l2 l3 l4 l5 l6 (nI 0)
set_option maxHeartbeats 4000000 in
theorem wFX12_between_j73_L9 {nx : Nat} {sh : bs_Sh} {R : Nat → Nat → Option Nat} {m : Nat} (HM : fg_S (bs_tM m) R m sh) {mu : bs_Mm} {l1 : Int32} {l2 : Int32} {l3 : Int32} {l4 : Int32} {l5 : Int32} {l6 : Int32} {Ph : bs_Po} {r : (Int32 × Int32) ⊕ (Int32)} (ka : ∀ s, r = .inl s → bs_W Ph mX12_between (bs_rm 0 0 0) 9 (bs_mk [(0, .ref m), (1, .int l1), (2, .int l2), (3, .int l3), (4, .int l4), (5, .int s.1), (6, .int s.2)]) [] 0 0 nx sh mu) (ke : ∀ s, r = .inr s → bs_W Ph mX12_between (bs_rm 0 0 0) 109 (bs_mk [(0, .ref m), (1, .int l1), (2, .int l2), (3, .int l3), (4, .int l4), (5, .int s)]) [] 0 0 nx sh mu) (hR : fg_R R mu) (h : FX12_between_j73_L9 m mu l1 l2 l3 l4 l5 l6 = some r) : bs_W Ph mX12_between (bs_rm 0 0 0) 73 (bs_mk [(0, .ref m), (1, .int l1), (2, .int l2), (3, .int l3), (4, .int l4), (5, .int l5), (6, .int l6)]) [] 0 0 nx sh mu := by
  unfold FX12_between_j73_L9 at h
  refine bs_iconst (v := (nI 0)) dX12_between_73 (by decide) ?_
  refine bs_W.mk [(0, .ref m), (1, .int l1), (2, .int l2), (3, .int l3), (4, .int l4), (5, .int l5), (6, .int l6)] (by intro q hq; simp only [List.mem_cons, List.not_mem_nil, or_false] at hq; rcases hq with rfl | rfl | rfl | rfl | rfl | rfl | rfl <;> rfl) ?_
  exact wFX12_between_j74_L9 HM ka ke hR h
noncomputable def FX12_between_j69_L9 (m : Nat) (mu : bs_Mm) (l1 : Int32) (l2 : Int32) (l3 : Int32) (l4 : Int32) (l5 : Int32) (l6 : Int32) : Option ((Int32 × Int32) ⊕ (Int32)) :=
  FX12_between_j74_L9 m mu l1 l2 l3 l4 l5 l6 (nI 1)
set_option maxHeartbeats 4000000 in
theorem wFX12_between_j69_L9 {nx : Nat} {sh : bs_Sh} {R : Nat → Nat → Option Nat} {m : Nat} (HM : fg_S (bs_tM m) R m sh) {mu : bs_Mm} {l1 : Int32} {l2 : Int32} {l3 : Int32} {l4 : Int32} {l5 : Int32} {l6 : Int32} {Ph : bs_Po} {r : (Int32 × Int32) ⊕ (Int32)} (ka : ∀ s, r = .inl s → bs_W Ph mX12_between (bs_rm 0 0 0) 9 (bs_mk [(0, .ref m), (1, .int l1), (2, .int l2), (3, .int l3), (4, .int l4), (5, .int s.1), (6, .int s.2)]) [] 0 0 nx sh mu) (ke : ∀ s, r = .inr s → bs_W Ph mX12_between (bs_rm 0 0 0) 109 (bs_mk [(0, .ref m), (1, .int l1), (2, .int l2), (3, .int l3), (4, .int l4), (5, .int s)]) [] 0 0 nx sh mu) (hR : fg_R R mu) (h : FX12_between_j69_L9 m mu l1 l2 l3 l4 l5 l6 = some r) : bs_W Ph mX12_between (bs_rm 0 0 0) 69 (bs_mk [(0, .ref m), (1, .int l1), (2, .int l2), (3, .int l3), (4, .int l4), (5, .int l5), (6, .int l6)]) [] 0 0 nx sh mu := by
  unfold FX12_between_j69_L9 at h
  refine bs_iconst (v := (nI 1)) dX12_between_69 (by decide) ?_
  refine bs_goto (tgt := 74) dX12_between_70 (by decide) ?_
  refine bs_W.mk [(0, .ref m), (1, .int l1), (2, .int l2), (3, .int l3), (4, .int l4), (5, .int l5), (6, .int l6)] (by intro q hq; simp only [List.mem_cons, List.not_mem_nil, or_false] at hq; rcases hq with rfl | rfl | rfl | rfl | rfl | rfl | rfl <;> rfl) ?_
  exact wFX12_between_j74_L9 HM ka ke hR h
noncomputable def FX12_between_j47_L9 (m : Nat) (mu : bs_Mm) (l1 : Int32) (l2 : Int32) (l3 : Int32) (l4 : Int32) (l5 : Int32) (l6 : Int32) : Option ((Int32 × Int32) ⊕ (Int32)) :=
  fg_gd (fg_in l6 312) (
  if (bs_iv (mu (m + 11) l6.toNatClampNeg)) = l3 then (
    fg_gd (fg_in l6 312) (
    if (bs_iv (mu (m + 12) l6.toNatClampNeg)) = l2 then (
      FX12_between_j69_L9 m mu l1 l2 l3 l4 l5 l6
    ) else (
      FX12_between_j73_L9 m mu l1 l2 l3 l4 l5 l6
    ))
  ) else (
    FX12_between_j73_L9 m mu l1 l2 l3 l4 l5 l6
  ))
set_option maxHeartbeats 4000000 in
theorem wFX12_between_j47_L9 {nx : Nat} {sh : bs_Sh} {R : Nat → Nat → Option Nat} {m : Nat} (HM : fg_S (bs_tM m) R m sh) {mu : bs_Mm} {l1 : Int32} {l2 : Int32} {l3 : Int32} {l4 : Int32} {l5 : Int32} {l6 : Int32} {Ph : bs_Po} {r : (Int32 × Int32) ⊕ (Int32)} (ka : ∀ s, r = .inl s → bs_W Ph mX12_between (bs_rm 0 0 0) 9 (bs_mk [(0, .ref m), (1, .int l1), (2, .int l2), (3, .int l3), (4, .int l4), (5, .int s.1), (6, .int s.2)]) [] 0 0 nx sh mu) (ke : ∀ s, r = .inr s → bs_W Ph mX12_between (bs_rm 0 0 0) 109 (bs_mk [(0, .ref m), (1, .int l1), (2, .int l2), (3, .int l3), (4, .int l4), (5, .int s)]) [] 0 0 nx sh mu) (hR : fg_R R mu) (h : FX12_between_j47_L9 m mu l1 l2 l3 l4 l5 l6 = some r) : bs_W Ph mX12_between (bs_rm 0 0 0) 47 (bs_mk [(0, .ref m), (1, .int l1), (2, .int l2), (3, .int l3), (4, .int l4), (5, .int l5), (6, .int l6)]) [] 0 0 nx sh mu := by
  unfold FX12_between_j47_L9 at h
  refine bs_aload_n dX12_between_47 rfl ?_
  refine fg_getR (b := (m + 11)) dX12_between_48 fX12_40 (HM.s 0 rfl rfl rfl) hR (HM.r 0 16 rfl rfl rfl) ?_
  refine bs_iload dX12_between_51 rfl ?_
  obtain ⟨g3, h⟩ := fg_gdE h
  refine bs_iald dX12_between_53 (HM.ss 11 rfl rfl) (fg_in_ix g3) ?_
  refine bs_iload_n dX12_between_54 rfl ?_
  refine bs_icmp_ne (tgt := 73) dX12_between_55 (by decide) (fun c => ?_) (fun c => ?_)
  · replace h := fg_iN c h
    refine bs_W.mk [(0, .ref m), (1, .int l1), (2, .int l2), (3, .int l3), (4, .int l4), (5, .int l5), (6, .int l6)] (by intro q hq; simp only [List.mem_cons, List.not_mem_nil, or_false] at hq; rcases hq with rfl | rfl | rfl | rfl | rfl | rfl | rfl <;> rfl) ?_
    exact wFX12_between_j73_L9 HM ka ke hR h
  · replace h := fg_ip c h
    refine bs_aload_n dX12_between_58 rfl ?_
    refine fg_getR (b := (m + 12)) dX12_between_59 fX12_43 (HM.s 0 rfl rfl rfl) hR (HM.r 0 17 rfl rfl rfl) ?_
    refine bs_iload dX12_between_62 rfl ?_
    obtain ⟨g5, h⟩ := fg_gdE h
    refine bs_iald dX12_between_64 (HM.ss 12 rfl rfl) (fg_in_ix g5) ?_
    refine bs_iload_n dX12_between_65 rfl ?_
    refine bs_icmp_ne (tgt := 73) dX12_between_66 (by decide) (fun c => ?_) (fun c => ?_)
    · replace h := fg_iN c h
      refine bs_W.mk [(0, .ref m), (1, .int l1), (2, .int l2), (3, .int l3), (4, .int l4), (5, .int l5), (6, .int l6)] (by intro q hq; simp only [List.mem_cons, List.not_mem_nil, or_false] at hq; rcases hq with rfl | rfl | rfl | rfl | rfl | rfl | rfl <;> rfl) ?_
      exact wFX12_between_j73_L9 HM ka ke hR h
    · replace h := fg_ip c h
      refine bs_W.mk [(0, .ref m), (1, .int l1), (2, .int l2), (3, .int l3), (4, .int l4), (5, .int l5), (6, .int l6)] (by intro q hq; simp only [List.mem_cons, List.not_mem_nil, or_false] at hq; rcases hq with rfl | rfl | rfl | rfl | rfl | rfl | rfl <;> rfl) ?_
      exact wFX12_between_j69_L9 HM ka ke hR h
noncomputable def FX12_between_b9 (m : Nat) (mu : bs_Mm) (l1 : Int32) (l2 : Int32) (l3 : Int32) (l4 : Int32) (s : Int32 × Int32) : Option ((Int32 × Int32) ⊕ (Int32)) :=
  fg_gd (fg_in l1 13) (
  if (((nI 24) * l1) + (bs_iv (mu (m + 8) l1.toNatClampNeg))) ≤ s.2 then (
    some (.inr s.1)
  ) else (
    fg_gd (fg_in s.2 312) (
    if (bs_iv (mu (m + 11) s.2.toNatClampNeg)) = l2 then (
      fg_gd (fg_in s.2 312) (
      if (bs_iv (mu (m + 12) s.2.toNatClampNeg)) = l3 then (
        FX12_between_j69_L9 m mu l1 l2 l3 l4 s.1 s.2
      ) else (
        FX12_between_j47_L9 m mu l1 l2 l3 l4 s.1 s.2
      ))
    ) else (
      FX12_between_j47_L9 m mu l1 l2 l3 l4 s.1 s.2
    ))
  ))
set_option maxHeartbeats 4000000 in
theorem wFX12_between_b9 {nx : Nat} {sh : bs_Sh} {R : Nat → Nat → Option Nat} {m : Nat} (HM : fg_S (bs_tM m) R m sh) {mu : bs_Mm} {l1 : Int32} {l2 : Int32} {l3 : Int32} {l4 : Int32} {Ph : bs_Po} {s : Int32 × Int32} {r : (Int32 × Int32) ⊕ (Int32)} (ka : ∀ s, r = .inl s → bs_W Ph mX12_between (bs_rm 0 0 0) 9 (bs_mk [(0, .ref m), (1, .int l1), (2, .int l2), (3, .int l3), (4, .int l4), (5, .int s.1), (6, .int s.2)]) [] 0 0 nx sh mu) (ke : ∀ s, r = .inr s → bs_W Ph mX12_between (bs_rm 0 0 0) 109 (bs_mk [(0, .ref m), (1, .int l1), (2, .int l2), (3, .int l3), (4, .int l4), (5, .int s)]) [] 0 0 nx sh mu) (hR : fg_R R mu) (h : FX12_between_b9 m mu l1 l2 l3 l4 s = some r) : bs_W Ph mX12_between (bs_rm 0 0 0) 9 (bs_mk [(0, .ref m), (1, .int l1), (2, .int l2), (3, .int l3), (4, .int l4), (5, .int s.1), (6, .int s.2)]) [] 0 0 nx sh mu := by
  unfold FX12_between_b9 at h
  refine bs_iload dX12_between_9 rfl ?_
  refine bs_bipush (v := (nI 24)) dX12_between_11 (by decide) ?_
  refine bs_iload_n dX12_between_13 rfl ?_
  refine bs_imul dX12_between_14 ?_
  refine bs_aload_n dX12_between_15 rfl ?_
  refine fg_getR (b := (m + 8)) dX12_between_16 fX12_31 (HM.s 0 rfl rfl rfl) hR (HM.r 0 13 rfl rfl rfl) ?_
  refine bs_iload_n dX12_between_19 rfl ?_
  obtain ⟨g1, h⟩ := fg_gdE h
  refine bs_iald dX12_between_20 (HM.ss 8 rfl rfl) (fg_in_ix g1) ?_
  refine bs_iadd dX12_between_21 ?_
  refine bs_icmp_ge (tgt := 109) dX12_between_22 (by decide) (fun c => ?_) (fun c => ?_)
  · replace h := fg_ip c h
    cases h
    refine bs_W.mk [(0, .ref m), (1, .int l1), (2, .int l2), (3, .int l3), (4, .int l4), (5, .int s.1)] (by intro q hq; simp only [List.mem_cons, List.not_mem_nil, or_false] at hq; rcases hq with rfl | rfl | rfl | rfl | rfl | rfl <;> rfl) (ke _ rfl)
  · replace h := fg_iN c h
    refine bs_aload_n dX12_between_25 rfl ?_
    refine fg_getR (b := (m + 11)) dX12_between_26 fX12_40 (HM.s 0 rfl rfl rfl) hR (HM.r 0 16 rfl rfl rfl) ?_
    refine bs_iload dX12_between_29 rfl ?_
    obtain ⟨g2, h⟩ := fg_gdE h
    refine bs_iald dX12_between_31 (HM.ss 11 rfl rfl) (fg_in_ix g2) ?_
    refine bs_iload_n dX12_between_32 rfl ?_
    refine bs_icmp_ne (tgt := 47) dX12_between_33 (by decide) (fun c => ?_) (fun c => ?_)
    · replace h := fg_iN c h
      refine bs_W.mk [(0, .ref m), (1, .int l1), (2, .int l2), (3, .int l3), (4, .int l4), (5, .int s.1), (6, .int s.2)] (by intro q hq; simp only [List.mem_cons, List.not_mem_nil, or_false] at hq; rcases hq with rfl | rfl | rfl | rfl | rfl | rfl | rfl <;> rfl) ?_
      exact wFX12_between_j47_L9 HM ka ke hR h
    · replace h := fg_ip c h
      refine bs_aload_n dX12_between_36 rfl ?_
      refine fg_getR (b := (m + 12)) dX12_between_37 fX12_43 (HM.s 0 rfl rfl rfl) hR (HM.r 0 17 rfl rfl rfl) ?_
      refine bs_iload dX12_between_40 rfl ?_
      obtain ⟨g6, h⟩ := fg_gdE h
      refine bs_iald dX12_between_42 (HM.ss 12 rfl rfl) (fg_in_ix g6) ?_
      refine bs_iload_n dX12_between_43 rfl ?_
      refine bs_icmp_eq (tgt := 69) dX12_between_44 (by decide) (fun c => ?_) (fun c => ?_)
      · replace h := fg_ip c h
        refine bs_W.mk [(0, .ref m), (1, .int l1), (2, .int l2), (3, .int l3), (4, .int l4), (5, .int s.1), (6, .int s.2)] (by intro q hq; simp only [List.mem_cons, List.not_mem_nil, or_false] at hq; rcases hq with rfl | rfl | rfl | rfl | rfl | rfl | rfl <;> rfl) ?_
        exact wFX12_between_j69_L9 HM ka ke hR h
      · replace h := fg_iN c h
        refine bs_W.mk [(0, .ref m), (1, .int l1), (2, .int l2), (3, .int l3), (4, .int l4), (5, .int s.1), (6, .int s.2)] (by intro q hq; simp only [List.mem_cons, List.not_mem_nil, or_false] at hq; rcases hq with rfl | rfl | rfl | rfl | rfl | rfl | rfl <;> rfl) ?_
        exact wFX12_between_j47_L9 HM ka ke hR h
theorem wFX12_letween_l9 {nx : Nat} {sh : bs_Sh} {R : Nat → Nat → Option Nat} {m : Nat} (HM : fg_S (bs_tM m) R m sh) {mu : bs_Mm} {l1 : Int32} {l2 : Int32} {l3 : Int32} {l4 : Int32} {Ph : bs_Po} {t : Int32} : ∀ n (y0 : Int32) (y1 : Int32), fg_lp (FX12_between_b9 m mu l1 l2 l3 l4) n (y0, y1) = some t → fg_R R mu → (ke : ∀ s, t = s → bs_W Ph mX12_between (bs_rm 0 0 0) 109 (bs_mk [(0, .ref m), (1, .int l1), (2, .int l2), (3, .int l3), (4, .int l4), (5, .int s)]) [] 0 0 nx sh mu) → bs_W Ph mX12_between (bs_rm 0 0 0) 9 (bs_mk [(0, .ref m), (1, .int l1), (2, .int l2), (3, .int l3), (4, .int l4), (5, .int y0), (6, .int y1)]) [] 0 0 nx sh mu := by
  intro n
  induction n with
  | zero => intro y0 y1 h; exact absurd h (fun z => fg_lp0 z)
  | succ n ih =>
    intro y0 y1 h hR ke
    obtain ⟨r, hb, h1, h2⟩ := fg_lpE h
    exact wFX12_between_b9 (s := (y0, y1)) HM (fun s' e => ih s'.1 s'.2 (h1 s' e) hR ke) (fun s' e => ke s' (h2 _ e).symm) hR hb
noncomputable def FX12_between (m : Nat) (mu : bs_Mm) (p1 : Int32) (p2 : Int32) (p3 : Int32) (p4 : Int32) : Option (Int32) :=
  fg_bd (fg_lp (FX12_between_b9 m mu p1 p2 p3 p4) fg_fu ((nI 0), ((nI 24) * p1))) (fun t7 => 
    some (t7)
  )
set_option maxHeartbeats 4000000 in
theorem wX12_between {nx : Nat} {sh : bs_Sh} {R : Nat → Nat → Option Nat} {m : Nat} (HM : fg_S (bs_tM m) R m sh) {mu : bs_Mm} (hR : fg_R R mu) {p1 : Int32} {p2 : Int32} {p3 : Int32} {p4 : Int32} {r : Int32} (h : FX12_between m mu p1 p2 p3 p4 = some r) : bs_C mX12_between (bs_rm 0 0 0) [.ref m, .int p1, .int p2, .int p3, .int p4] nx sh mu (fg_po R nx sh (some (.int r)) mu) := by
  refine bs_ct (by decide +kernel) (Nat.le_of_ble_eq_true rfl) ?_
  have kr : ∀ q, r = q → fg_R R mu → (fg_po R nx sh (some (.int r)) mu) (some (.int q)) nx sh mu := fun q e hq => by subst e; exact ⟨rfl, rfl, rfl, rfl, hq⟩
  unfold FX12_between at h
  refine bs_iconst (v := (nI 0)) dX12_between_0 (by decide) ?_
  refine bs_istore dX12_between_1 rfl (by decide) ?_
  refine bs_bipush (v := (nI 24)) dX12_between_3 (by decide) ?_
  refine bs_iload_n dX12_between_5 rfl ?_
  refine bs_imul dX12_between_6 ?_
  refine bs_istore dX12_between_7 rfl (by decide) ?_
  obtain ⟨t7, k8, h⟩ := fg_bdE h
  refine bs_W.mk [(0, .ref m), (1, .int p1), (2, .int p2), (3, .int p3), (4, .int p4), (5, .int (nI 0)), (6, .int ((nI 24) * p1))] (by intro q hq; simp only [List.mem_cons, List.not_mem_nil, or_false] at hq; rcases hq with rfl | rfl | rfl | rfl | rfl | rfl | rfl <;> rfl) ?_
  refine wFX12_letween_l9 HM _ _ _ k8 hR ?_
  intro s e
  subst e
  refine bs_iload dX12_between_109 rfl ?_
  cases h
  exact bs_iret dX12_between_111 rfl (Nat.zero_le _) (Nat.zero_le _) (kr _ rfl hR)
noncomputable def FX12_isSame_b6 (m : Nat) (mu : bs_Mm) (l1 : Int32) (l2 : Int32) (l3 : Int32) (l4 : Int32) (l5 : Int32) (l6 : Int32) (s : Int32) : Option ((Int32) ⊕ ((Unit) ⊕ (Int32))) :=
  fg_gd (fg_in l1 13) (
  if (((nI 24) * l1) + (bs_iv (mu (m + 8) l1.toNatClampNeg))) ≤ s then (
    some (.inr (.inl ()))
  ) else (
    fg_gd (fg_in s 312) (
    fg_bd (FX12_between m mu l1 l2 l3 (bs_iv (mu (m + 10) s.toNatClampNeg))) (fun v4 => 
    fg_gd (fg_in s 312) (
    fg_bd (FX12_between m mu l4 l5 l6 (bs_iv (mu (m + 10) s.toNatClampNeg))) (fun v7 => 
    if v4 = v7 then (
      some (.inl (s + (nI 1)))
    ) else (
      some (.inr (.inr ((nI 0))))
    )))))
  ))
set_option maxHeartbeats 4000000 in
theorem wFX12_isSame_b6 {nx : Nat} {sh : bs_Sh} {R : Nat → Nat → Option Nat} {m : Nat} (HM : fg_S (bs_tM m) R m sh) {mu : bs_Mm} {l1 : Int32} {l2 : Int32} {l3 : Int32} {l4 : Int32} {l5 : Int32} {l6 : Int32} {Ph : bs_Po} {s : Int32} {r : (Int32) ⊕ ((Unit) ⊕ (Int32))} (ka : ∀ s, r = .inl s → bs_W Ph mX12_isSame (bs_rm 1 0 0) 6 (bs_mk [(0, .ref m), (1, .int l1), (2, .int l2), (3, .int l3), (4, .int l4), (5, .int l5), (6, .int l6), (7, .int s)]) [] 0 0 nx sh mu) (ke : ∀ s, r = .inr (.inl s) → bs_W Ph mX12_isSame (bs_rm 1 0 0) 64 (bs_mk [(0, .ref m), (1, .int l1), (2, .int l2), (3, .int l3), (4, .int l4), (5, .int l5), (6, .int l6)]) [] 0 0 nx sh mu) (kr : ∀ q, r = .inr (.inr q) → fg_R R mu → Ph (some (.int q)) nx sh mu) (hR : fg_R R mu) (h : FX12_isSame_b6 m mu l1 l2 l3 l4 l5 l6 s = some r) : bs_W Ph mX12_isSame (bs_rm 1 0 0) 6 (bs_mk [(0, .ref m), (1, .int l1), (2, .int l2), (3, .int l3), (4, .int l4), (5, .int l5), (6, .int l6), (7, .int s)]) [] 0 0 nx sh mu := by
  unfold FX12_isSame_b6 at h
  refine bs_iload dX12_isSame_6 rfl ?_
  refine bs_bipush (v := (nI 24)) dX12_isSame_8 (by decide) ?_
  refine bs_iload_n dX12_isSame_10 rfl ?_
  refine bs_imul dX12_isSame_11 ?_
  refine bs_aload_n dX12_isSame_12 rfl ?_
  refine fg_getR (b := (m + 8)) dX12_isSame_13 fX12_31 (HM.s 0 rfl rfl rfl) hR (HM.r 0 13 rfl rfl rfl) ?_
  refine bs_iload_n dX12_isSame_16 rfl ?_
  obtain ⟨g1, h⟩ := fg_gdE h
  refine bs_iald dX12_isSame_17 (HM.ss 8 rfl rfl) (fg_in_ix g1) ?_
  refine bs_iadd dX12_isSame_18 ?_
  refine bs_icmp_ge (tgt := 64) dX12_isSame_19 (by decide) (fun c => ?_) (fun c => ?_)
  · replace h := fg_ip c h
    cases h
    refine bs_W.mk [(0, .ref m), (1, .int l1), (2, .int l2), (3, .int l3), (4, .int l4), (5, .int l5), (6, .int l6)] (by intro q hq; simp only [List.mem_cons, List.not_mem_nil, or_false] at hq; rcases hq with rfl | rfl | rfl | rfl | rfl | rfl | rfl <;> rfl) (ke _ rfl)
  · replace h := fg_iN c h
    refine bs_aload_n dX12_isSame_22 rfl ?_
    refine bs_iload_n dX12_isSame_23 rfl ?_
    refine bs_iload_n dX12_isSame_24 rfl ?_
    refine bs_iload_n dX12_isSame_25 rfl ?_
    refine bs_aload_n dX12_isSame_26 rfl ?_
    refine fg_getR (b := (m + 10)) dX12_isSame_27 fX12_37 (HM.s 0 rfl rfl rfl) hR (HM.r 0 15 rfl rfl rfl) ?_
    refine bs_iload dX12_isSame_30 rfl ?_
    obtain ⟨g2, h⟩ := fg_gdE h
    refine bs_iald dX12_isSame_32 (HM.ss 10 rfl rfl) (fg_in_ix g2) ?_
    obtain ⟨v4, k3, h⟩ := fg_bdE h
    refine fg_callV dX12_isSame_33 qX12_347 (wX12_between HM hR k3) rfl (HM.s 0 rfl rfl rfl) rfl (Nat.le_of_ble_eq_true rfl) (fg_cr (by first | decide | omega) (by decide)) (fun hR => ?_)
    refine bs_aload_n dX12_isSame_36 rfl ?_
    refine bs_iload dX12_isSame_37 rfl ?_
    refine bs_iload dX12_isSame_39 rfl ?_
    refine bs_iload dX12_isSame_41 rfl ?_
    refine bs_aload_n dX12_isSame_43 rfl ?_
    refine fg_getR (b := (m + 10)) dX12_isSame_44 fX12_37 (HM.s 0 rfl rfl rfl) hR (HM.r 0 15 rfl rfl rfl) ?_
    refine bs_iload dX12_isSame_47 rfl ?_
    obtain ⟨g5, h⟩ := fg_gdE h
    refine bs_iald dX12_isSame_49 (HM.ss 10 rfl rfl) (fg_in_ix g5) ?_
    obtain ⟨v7, k6, h⟩ := fg_bdE h
    refine fg_callV dX12_isSame_50 qX12_347 (wX12_between HM hR k6) rfl (HM.s 0 rfl rfl rfl) rfl (Nat.le_of_ble_eq_true rfl) (fg_cr (by first | decide | omega) (by decide)) (fun hR => ?_)
    refine bs_icmp_eq (tgt := 58) dX12_isSame_53 (by decide) (fun c => ?_) (fun c => ?_)
    · replace h := fg_ip c h
      refine fg_iinc (m := (nI 1)) dX12_isSame_58 rfl rfl (by decide) ?_
      refine bs_goto (tgt := 6) dX12_isSame_61 (by decide) ?_
      cases h
      refine bs_W.mk [(0, .ref m), (1, .int l1), (2, .int l2), (3, .int l3), (4, .int l4), (5, .int l5), (6, .int l6), (7, .int (s + (nI 1)))] (by intro q hq; simp only [List.mem_cons, List.not_mem_nil, or_false] at hq; rcases hq with rfl | rfl | rfl | rfl | rfl | rfl | rfl | rfl <;> rfl) (ka _ rfl)
    · replace h := fg_iN c h
      refine bs_iconst (v := (nI 0)) dX12_isSame_56 (by decide) ?_
      cases h
      exact bs_zret dX12_isSame_57 rfl (Or.inl rfl) (Nat.zero_le _) (Nat.zero_le _) (kr _ rfl hR)
theorem wFX12_isSame_l6 {nx : Nat} {sh : bs_Sh} {R : Nat → Nat → Option Nat} {m : Nat} (HM : fg_S (bs_tM m) R m sh) {mu : bs_Mm} {l1 : Int32} {l2 : Int32} {l3 : Int32} {l4 : Int32} {l5 : Int32} {l6 : Int32} {Ph : bs_Po} {t : (Unit) ⊕ (Int32)} : ∀ n (y0 : Int32), fg_lp (FX12_isSame_b6 m mu l1 l2 l3 l4 l5 l6) n y0 = some t → fg_R R mu → (ke : ∀ s, t = .inl s → bs_W Ph mX12_isSame (bs_rm 1 0 0) 64 (bs_mk [(0, .ref m), (1, .int l1), (2, .int l2), (3, .int l3), (4, .int l4), (5, .int l5), (6, .int l6)]) [] 0 0 nx sh mu) → (kr : ∀ q, t = .inr q → fg_R R mu → Ph (some (.int q)) nx sh mu) → bs_W Ph mX12_isSame (bs_rm 1 0 0) 6 (bs_mk [(0, .ref m), (1, .int l1), (2, .int l2), (3, .int l3), (4, .int l4), (5, .int l5), (6, .int l6), (7, .int y0)]) [] 0 0 nx sh mu := by
  intro n
  induction n with
  | zero => intro y0 h; exact absurd h (fun z => fg_lp0 z)
  | succ n ih =>
    intro y0 h hR ke kr
    obtain ⟨r, hb, h1, h2⟩ := fg_lpE h
    exact wFX12_isSame_b6 (s := y0) HM (fun s' e => ih s' (h1 s' e) hR ke kr) (fun s' e => ke s' (h2 _ e).symm) (fun q e => kr q (h2 _ e).symm) hR hb
noncomputable def FX12_isSame_b71 (m : Nat) (mu : bs_Mm) (l1 : Int32) (l2 : Int32) (l3 : Int32) (l4 : Int32) (l5 : Int32) (l6 : Int32) (s : Int32) : Option ((Int32) ⊕ ((Unit) ⊕ (Int32))) :=
  fg_gd (fg_in l4 13) (
  if (((nI 24) * l4) + (bs_iv (mu (m + 8) l4.toNatClampNeg))) ≤ s then (
    some (.inr (.inl ()))
  ) else (
    fg_gd (fg_in s 312) (
    fg_bd (FX12_between m mu l1 l2 l3 (bs_iv (mu (m + 10) s.toNatClampNeg))) (fun v13 => 
    fg_gd (fg_in s 312) (
    fg_bd (FX12_between m mu l4 l5 l6 (bs_iv (mu (m + 10) s.toNatClampNeg))) (fun v16 => 
    if v13 = v16 then (
      some (.inl (s + (nI 1)))
    ) else (
      some (.inr (.inr ((nI 0))))
    )))))
  ))
set_option maxHeartbeats 4000000 in
theorem wFX12_isSame_b71 {nx : Nat} {sh : bs_Sh} {R : Nat → Nat → Option Nat} {m : Nat} (HM : fg_S (bs_tM m) R m sh) {mu : bs_Mm} {l1 : Int32} {l2 : Int32} {l3 : Int32} {l4 : Int32} {l5 : Int32} {l6 : Int32} {Ph : bs_Po} {s : Int32} {r : (Int32) ⊕ ((Unit) ⊕ (Int32))} (ka : ∀ s, r = .inl s → bs_W Ph mX12_isSame (bs_rm 1 0 0) 71 (bs_mk [(0, .ref m), (1, .int l1), (2, .int l2), (3, .int l3), (4, .int l4), (5, .int l5), (6, .int l6), (7, .int s)]) [] 0 0 nx sh mu) (ke : ∀ s, r = .inr (.inl s) → bs_W Ph mX12_isSame (bs_rm 1 0 0) 131 (bs_mk [(0, .ref m), (1, .int l1), (2, .int l2), (3, .int l3), (4, .int l4), (5, .int l5), (6, .int l6)]) [] 0 0 nx sh mu) (kr : ∀ q, r = .inr (.inr q) → fg_R R mu → Ph (some (.int q)) nx sh mu) (hR : fg_R R mu) (h : FX12_isSame_b71 m mu l1 l2 l3 l4 l5 l6 s = some r) : bs_W Ph mX12_isSame (bs_rm 1 0 0) 71 (bs_mk [(0, .ref m), (1, .int l1), (2, .int l2), (3, .int l3), (4, .int l4), (5, .int l5), (6, .int l6), (7, .int s)]) [] 0 0 nx sh mu := by
  unfold FX12_isSame_b71 at h
  refine bs_iload dX12_isSame_71 rfl ?_
  refine bs_bipush (v := (nI 24)) dX12_isSame_73 (by decide) ?_
  refine bs_iload dX12_isSame_75 rfl ?_
  refine bs_imul dX12_isSame_77 ?_
  refine bs_aload_n dX12_isSame_78 rfl ?_
  refine fg_getR (b := (m + 8)) dX12_isSame_79 fX12_31 (HM.s 0 rfl rfl rfl) hR (HM.r 0 13 rfl rfl rfl) ?_
  refine bs_iload dX12_isSame_82 rfl ?_
  obtain ⟨g10, h⟩ := fg_gdE h
  refine bs_iald dX12_isSame_84 (HM.ss 8 rfl rfl) (fg_in_ix g10) ?_
  refine bs_iadd dX12_isSame_85 ?_
  refine bs_icmp_ge (tgt := 131) dX12_isSame_86 (by decide) (fun c => ?_) (fun c => ?_)
  · replace h := fg_ip c h
    cases h
    refine bs_W.mk [(0, .ref m), (1, .int l1), (2, .int l2), (3, .int l3), (4, .int l4), (5, .int l5), (6, .int l6)] (by intro q hq; simp only [List.mem_cons, List.not_mem_nil, or_false] at hq; rcases hq with rfl | rfl | rfl | rfl | rfl | rfl | rfl <;> rfl) (ke _ rfl)
  · replace h := fg_iN c h
    refine bs_aload_n dX12_isSame_89 rfl ?_
    refine bs_iload_n dX12_isSame_90 rfl ?_
    refine bs_iload_n dX12_isSame_91 rfl ?_
    refine bs_iload_n dX12_isSame_92 rfl ?_
    refine bs_aload_n dX12_isSame_93 rfl ?_
    refine fg_getR (b := (m + 10)) dX12_isSame_94 fX12_37 (HM.s 0 rfl rfl rfl) hR (HM.r 0 15 rfl rfl rfl) ?_
    refine bs_iload dX12_isSame_97 rfl ?_
    obtain ⟨g11, h⟩ := fg_gdE h
    refine bs_iald dX12_isSame_99 (HM.ss 10 rfl rfl) (fg_in_ix g11) ?_
    obtain ⟨v13, k12, h⟩ := fg_bdE h
    refine fg_callV dX12_isSame_100 qX12_347 (wX12_between HM hR k12) rfl (HM.s 0 rfl rfl rfl) rfl (Nat.le_of_ble_eq_true rfl) (fg_cr (by first | decide | omega) (by decide)) (fun hR => ?_)
    refine bs_aload_n dX12_isSame_103 rfl ?_
    refine bs_iload dX12_isSame_104 rfl ?_
    refine bs_iload dX12_isSame_106 rfl ?_
    refine bs_iload dX12_isSame_108 rfl ?_
    refine bs_aload_n dX12_isSame_110 rfl ?_
    refine fg_getR (b := (m + 10)) dX12_isSame_111 fX12_37 (HM.s 0 rfl rfl rfl) hR (HM.r 0 15 rfl rfl rfl) ?_
    refine bs_iload dX12_isSame_114 rfl ?_
    obtain ⟨g14, h⟩ := fg_gdE h
    refine bs_iald dX12_isSame_116 (HM.ss 10 rfl rfl) (fg_in_ix g14) ?_
    obtain ⟨v16, k15, h⟩ := fg_bdE h
    refine fg_callV dX12_isSame_117 qX12_347 (wX12_between HM hR k15) rfl (HM.s 0 rfl rfl rfl) rfl (Nat.le_of_ble_eq_true rfl) (fg_cr (by first | decide | omega) (by decide)) (fun hR => ?_)
    refine bs_icmp_eq (tgt := 125) dX12_isSame_120 (by decide) (fun c => ?_) (fun c => ?_)
    · replace h := fg_ip c h
      refine fg_iinc (m := (nI 1)) dX12_isSame_125 rfl rfl (by decide) ?_
      refine bs_goto (tgt := 71) dX12_isSame_128 (by decide) ?_
      cases h
      refine bs_W.mk [(0, .ref m), (1, .int l1), (2, .int l2), (3, .int l3), (4, .int l4), (5, .int l5), (6, .int l6), (7, .int (s + (nI 1)))] (by intro q hq; simp only [List.mem_cons, List.not_mem_nil, or_false] at hq; rcases hq with rfl | rfl | rfl | rfl | rfl | rfl | rfl | rfl <;> rfl) (ka _ rfl)
    · replace h := fg_iN c h
      refine bs_iconst (v := (nI 0)) dX12_isSame_123 (by decide) ?_
      cases h
      exact bs_zret dX12_isSame_124 rfl (Or.inl rfl) (Nat.zero_le _) (Nat.zero_le _) (kr _ rfl hR)
theorem wFX12_isSame_l71 {nx : Nat} {sh : bs_Sh} {R : Nat → Nat → Option Nat} {m : Nat} (HM : fg_S (bs_tM m) R m sh) {mu : bs_Mm} {l1 : Int32} {l2 : Int32} {l3 : Int32} {l4 : Int32} {l5 : Int32} {l6 : Int32} {Ph : bs_Po} {t : (Unit) ⊕ (Int32)} : ∀ n (y0 : Int32), fg_lp (FX12_isSame_b71 m mu l1 l2 l3 l4 l5 l6) n y0 = some t → fg_R R mu → (ke : ∀ s, t = .inl s → bs_W Ph mX12_isSame (bs_rm 1 0 0) 131 (bs_mk [(0, .ref m), (1, .int l1), (2, .int l2), (3, .int l3), (4, .int l4), (5, .int l5), (6, .int l6)]) [] 0 0 nx sh mu) → (kr : ∀ q, t = .inr q → fg_R R mu → Ph (some (.int q)) nx sh mu) → bs_W Ph mX12_isSame (bs_rm 1 0 0) 71 (bs_mk [(0, .ref m), (1, .int l1), (2, .int l2), (3, .int l3), (4, .int l4), (5, .int l5), (6, .int l6), (7, .int y0)]) [] 0 0 nx sh mu := by
  intro n
  induction n with
  | zero => intro y0 h; exact absurd h (fun z => fg_lp0 z)
  | succ n ih =>
    intro y0 h hR ke kr
    obtain ⟨r, hb, h1, h2⟩ := fg_lpE h
    exact wFX12_isSame_b71 (s := y0) HM (fun s' e => ih s' (h1 s' e) hR ke kr) (fun s' e => ke s' (h2 _ e).symm) (fun q e => kr q (h2 _ e).symm) hR hb
noncomputable def FX12_isSame (m : Nat) (mu : bs_Mm) (p1 : Int32) (p2 : Int32) (p3 : Int32) (p4 : Int32) (p5 : Int32) (p6 : Int32) : Option (Int32) :=
  fg_l3 (fg_lp (FX12_isSame_b6 m mu p1 p2 p3 p4 p5 p6) fg_fu ((nI 24) * p1)) (fun t8 => 
    fg_l3 (fg_lp (FX12_isSame_b71 m mu p1 p2 p3 p4 p5 p6) fg_fu ((nI 24) * p4)) (fun t17 => 
      some ((nI 1))
    ) (fun q19 => some q19)
  ) (fun q20 => some q20)
set_option maxHeartbeats 4000000 in
theorem wX12_isSame {nx : Nat} {sh : bs_Sh} {R : Nat → Nat → Option Nat} {m : Nat} (HM : fg_S (bs_tM m) R m sh) {mu : bs_Mm} (hR : fg_R R mu) {p1 : Int32} {p2 : Int32} {p3 : Int32} {p4 : Int32} {p5 : Int32} {p6 : Int32} {r : Int32} (h : FX12_isSame m mu p1 p2 p3 p4 p5 p6 = some r) : bs_C mX12_isSame (bs_rm 1 0 0) [.ref m, .int p1, .int p2, .int p3, .int p4, .int p5, .int p6] nx sh mu (fg_po R nx sh (some (.int r)) mu) := by
  refine bs_ct (by decide +kernel) (Nat.le_of_ble_eq_true rfl) ?_
  have kr : ∀ q, r = q → fg_R R mu → (fg_po R nx sh (some (.int r)) mu) (some (.int q)) nx sh mu := fun q e hq => by subst e; exact ⟨rfl, rfl, rfl, rfl, hq⟩
  unfold FX12_isSame at h
  refine bs_bipush (v := (nI 24)) dX12_isSame_0 (by decide) ?_
  refine bs_iload_n dX12_isSame_2 rfl ?_
  refine bs_imul dX12_isSame_3 ?_
  refine bs_istore dX12_isSame_4 rfl (by decide) ?_
  obtain ⟨t80, k9, h1, h2⟩ := fg_l3E h
  refine bs_W.mk [(0, .ref m), (1, .int p1), (2, .int p2), (3, .int p3), (4, .int p4), (5, .int p5), (6, .int p6), (7, .int ((nI 24) * p1))] (by intro q hq; simp only [List.mem_cons, List.not_mem_nil, or_false] at hq; rcases hq with rfl | rfl | rfl | rfl | rfl | rfl | rfl | rfl <;> rfl) ?_
  refine wFX12_isSame_l6 HM _ _ k9 hR ?_ ?_
  · intro t8 e
    replace h := h1 t8 e
    refine bs_bipush (v := (nI 24)) dX12_isSame_64 (by decide) ?_
    refine bs_iload dX12_isSame_66 rfl ?_
    refine bs_imul dX12_isSame_68 ?_
    refine bs_istore dX12_isSame_69 rfl (by decide) ?_
    obtain ⟨t170, k18, h1, h2⟩ := fg_l3E h
    refine bs_W.mk [(0, .ref m), (1, .int p1), (2, .int p2), (3, .int p3), (4, .int p4), (5, .int p5), (6, .int p6), (7, .int ((nI 24) * p4))] (by intro q hq; simp only [List.mem_cons, List.not_mem_nil, or_false] at hq; rcases hq with rfl | rfl | rfl | rfl | rfl | rfl | rfl | rfl <;> rfl) ?_
    refine wFX12_isSame_l71 HM _ _ k18 hR ?_ ?_
    · intro t17 e
      replace h := h1 t17 e
      refine bs_iconst (v := (nI 1)) dX12_isSame_131 (by decide) ?_
      cases h
      exact bs_zret dX12_isSame_132 rfl (Or.inr rfl) (Nat.zero_le _) (Nat.zero_le _) (kr _ rfl hR)
    · intro q19 e hR
      replace h := h2 q19 e
      cases h
      exact kr _ rfl hR
  · intro q20 e hR
    replace h := h2 q20 e
    cases h
    exact kr _ rfl hR
noncomputable def FX12_pairs_b54_L15 (m : Nat) (rP : bs_Mm → Int32 → Int32 → Int32 → Int32 → Option (Int32 × bs_Mm)) (mu : bs_Mm) (l1 : Int32) (l2 : Int32) (l3 : Int32) (l4 : Int32) (l5 : Int32) (s : Int32 × Int32) : Option ((Int32 × Int32) ⊕ (Int32)) :=
  if l3 < s.2 then (
    some (.inr s.1)
  ) else (
    if s.1 = 0 then (
      some (.inr s.1)
    ) else (
      fg_gd (fg_in s.2 8) (
      fg_bd (FX12_isSame m mu l1 l3 s.2 l2 l5 (bs_iv (mu (m + 23) s.2.toNatClampNeg))) (fun v7 => 
      some (.inl (v7, (s.2 + (nI 1))))))
    )
  )
set_option maxHeartbeats 4000000 in
theorem wFX12_pairs_b54_L15 {nx : Nat} {sh : bs_Sh} {R : Nat → Nat → Option Nat} {m : Nat} (HM : fg_S (bs_tM m) R m sh) {rP : bs_Mm → Int32 → Int32 → Int32 → Int32 → Option (Int32 × bs_Mm)} {d_rP : Nat} (h_rP : ∀ {mu : bs_Mm} {a0 : Int32} {a1 : Int32} {a2 : Int32} {a3 : Int32} {q : Int32 × bs_Mm}, fg_R R mu → rP mu a0 a1 a2 a3 = some q → bs_C mX12_pairs (bs_rm d_rP 0 0) [.ref m, .int a0, .int a1, .int a2, .int a3] nx sh mu (fg_po R nx sh (some (.int q.1)) q.2)) {mu : bs_Mm} {l1 : Int32} {l2 : Int32} {l3 : Int32} {l4 : Int32} {l5 : Int32} {Ph : bs_Po} {s : Int32 × Int32} {r : (Int32 × Int32) ⊕ (Int32)} (ka : ∀ s, r = .inl s → bs_W Ph mX12_pairs (bs_rm (d_rP + 2) 0 0) 54 (bs_mk [(0, .ref m), (1, .int l1), (2, .int l2), (3, .int l3), (4, .int l4), (5, .int l5), (6, .int s.1), (7, .int s.2)]) [] 0 0 nx sh mu) (ke : ∀ s, r = .inr s → bs_W Ph mX12_pairs (bs_rm (d_rP + 2) 0 0) 91 (bs_mk [(0, .ref m), (1, .int l1), (2, .int l2), (3, .int l3), (4, .int l4), (5, .int l5), (6, .int s)]) [] 0 0 nx sh mu) (hR : fg_R R mu) (h : FX12_pairs_b54_L15 m rP mu l1 l2 l3 l4 l5 s = some r) : bs_W Ph mX12_pairs (bs_rm (d_rP + 2) 0 0) 54 (bs_mk [(0, .ref m), (1, .int l1), (2, .int l2), (3, .int l3), (4, .int l4), (5, .int l5), (6, .int s.1), (7, .int s.2)]) [] 0 0 nx sh mu := by
  unfold FX12_pairs_b54_L15 at h
  refine bs_iload dX12_pairs_54 rfl ?_
  refine bs_iload_n dX12_pairs_56 rfl ?_
  refine bs_icmp_gt (tgt := 91) dX12_pairs_57 (by decide) (fun c => ?_) (fun c => ?_)
  · replace h := fg_ip c h
    cases h
    refine bs_W.mk [(0, .ref m), (1, .int l1), (2, .int l2), (3, .int l3), (4, .int l4), (5, .int l5), (6, .int s.1)] (by intro q hq; simp only [List.mem_cons, List.not_mem_nil, or_false] at hq; rcases hq with rfl | rfl | rfl | rfl | rfl | rfl | rfl <;> rfl) (ke _ rfl)
  · replace h := fg_iN c h
    refine bs_iload dX12_pairs_60 rfl ?_
    refine bs_if_eq (tgt := 91) dX12_pairs_62 (by decide) (fun c => ?_) (fun c => ?_)
    · replace h := fg_ip c h
      cases h
      refine bs_W.mk [(0, .ref m), (1, .int l1), (2, .int l2), (3, .int l3), (4, .int l4), (5, .int l5), (6, .int s.1)] (by intro q hq; simp only [List.mem_cons, List.not_mem_nil, or_false] at hq; rcases hq with rfl | rfl | rfl | rfl | rfl | rfl | rfl <;> rfl) (ke _ rfl)
    · replace h := fg_iN c h
      refine bs_aload_n dX12_pairs_65 rfl ?_
      refine bs_iload_n dX12_pairs_66 rfl ?_
      refine bs_iload_n dX12_pairs_67 rfl ?_
      refine bs_iload dX12_pairs_68 rfl ?_
      refine bs_iload_n dX12_pairs_70 rfl ?_
      refine bs_iload dX12_pairs_71 rfl ?_
      refine bs_aload_n dX12_pairs_73 rfl ?_
      refine fg_getR (b := (m + 23)) dX12_pairs_74 fX12_77 (HM.s 0 rfl rfl rfl) hR (HM.r 0 35 rfl rfl rfl) ?_
      refine bs_iload dX12_pairs_77 rfl ?_
      obtain ⟨g5, h⟩ := fg_gdE h
      refine bs_iald dX12_pairs_79 (HM.ss 23 rfl rfl) (fg_in_ix g5) ?_
      obtain ⟨v7, k6, h⟩ := fg_bdE h
      refine fg_callV dX12_pairs_80 qX12_351 (wX12_isSame HM hR k6) rfl (HM.s 0 rfl rfl rfl) rfl (Nat.le_of_ble_eq_true rfl) (fg_cr (by first | decide | omega) (by decide)) (fun hR => ?_)
      refine bs_istore dX12_pairs_83 rfl (by decide) ?_
      refine fg_iinc (m := (nI 1)) dX12_pairs_85 rfl rfl (by decide) ?_
      refine bs_goto (tgt := 54) dX12_pairs_88 (by decide) ?_
      cases h
      refine bs_W.mk [(0, .ref m), (1, .int l1), (2, .int l2), (3, .int l3), (4, .int l4), (5, .int l5), (6, .int v7), (7, .int (s.2 + (nI 1)))] (by intro q hq; simp only [List.mem_cons, List.not_mem_nil, or_false] at hq; rcases hq with rfl | rfl | rfl | rfl | rfl | rfl | rfl | rfl <;> rfl) (by have k := ka _ rfl; dsimp only at k; exact k)
theorem wFX12_pairs_l54_L15 {nx : Nat} {sh : bs_Sh} {R : Nat → Nat → Option Nat} {m : Nat} (HM : fg_S (bs_tM m) R m sh) {rP : bs_Mm → Int32 → Int32 → Int32 → Int32 → Option (Int32 × bs_Mm)} {d_rP : Nat} (h_rP : ∀ {mu : bs_Mm} {a0 : Int32} {a1 : Int32} {a2 : Int32} {a3 : Int32} {q : Int32 × bs_Mm}, fg_R R mu → rP mu a0 a1 a2 a3 = some q → bs_C mX12_pairs (bs_rm d_rP 0 0) [.ref m, .int a0, .int a1, .int a2, .int a3] nx sh mu (fg_po R nx sh (some (.int q.1)) q.2)) {mu : bs_Mm} {l1 : Int32} {l2 : Int32} {l3 : Int32} {l4 : Int32} {l5 : Int32} {Ph : bs_Po} {t : Int32} : ∀ n (y0 : Int32) (y1 : Int32), fg_lp (FX12_pairs_b54_L15 m rP mu l1 l2 l3 l4 l5) n (y0, y1) = some t → fg_R R mu → (ke : ∀ s, t = s → bs_W Ph mX12_pairs (bs_rm (d_rP + 2) 0 0) 91 (bs_mk [(0, .ref m), (1, .int l1), (2, .int l2), (3, .int l3), (4, .int l4), (5, .int l5), (6, .int s)]) [] 0 0 nx sh mu) → bs_W Ph mX12_pairs (bs_rm (d_rP + 2) 0 0) 54 (bs_mk [(0, .ref m), (1, .int l1), (2, .int l2), (3, .int l3), (4, .int l4), (5, .int l5), (6, .int y0), (7, .int y1)]) [] 0 0 nx sh mu := by
  intro n
  induction n with
  | zero => intro y0 y1 h; exact absurd h (fun z => fg_lp0 z)
  | succ n ih =>
    intro y0 y1 h hR ke
    obtain ⟨r, hb, h1, h2⟩ := fg_lpE h
    exact wFX12_pairs_b54_L15 (s := (y0, y1)) HM h_rP (fun s' e => ih s'.1 s'.2 (h1 s' e) hR ke) (fun s' e => ke s' (h2 _ e).symm) hR hb
noncomputable def FX12_pairs_j91_L15 (m : Nat) (rP : bs_Mm → Int32 → Int32 → Int32 → Int32 → Option (Int32 × bs_Mm)) (mu : bs_Mm) (l1 : Int32) (l2 : Int32) (l3 : Int32) (l4 : Int32) (l5 : Int32) (l6 : Int32) : Option ((Int32 × bs_Mm) ⊕ ((bs_Mm) ⊕ (Int32 × bs_Mm))) :=
  if l6 = 0 then (
    some (.inl ((l5 + (nI 1)), mu))
  ) else (
    fg_b2 (rP mu l1 l2 (l3 + (nI 1)) (l4 ||| ((nI 1) <<< (l5 &&& 31)))) (fun v12 mu11 => 
    if v12 = 0 then (
      some (.inl ((l5 + (nI 1)), mu11))
    ) else (
      some (.inr (.inr ((nI 1), mu11)))
    ))
  )
set_option maxHeartbeats 4000000 in
theorem wFX12_pairs_j91_L15 {nx : Nat} {sh : bs_Sh} {R : Nat → Nat → Option Nat} {m : Nat} (HM : fg_S (bs_tM m) R m sh) {rP : bs_Mm → Int32 → Int32 → Int32 → Int32 → Option (Int32 × bs_Mm)} {d_rP : Nat} (h_rP : ∀ {mu : bs_Mm} {a0 : Int32} {a1 : Int32} {a2 : Int32} {a3 : Int32} {q : Int32 × bs_Mm}, fg_R R mu → rP mu a0 a1 a2 a3 = some q → bs_C mX12_pairs (bs_rm d_rP 0 0) [.ref m, .int a0, .int a1, .int a2, .int a3] nx sh mu (fg_po R nx sh (some (.int q.1)) q.2)) {mu : bs_Mm} {l1 : Int32} {l2 : Int32} {l3 : Int32} {l4 : Int32} {l5 : Int32} {l6 : Int32} {Ph : bs_Po} {r : (Int32 × bs_Mm) ⊕ ((bs_Mm) ⊕ (Int32 × bs_Mm))} (ka : ∀ s, r = .inl s → fg_R R s.2 → bs_W Ph mX12_pairs (bs_rm (d_rP + 2) 0 0) 15 (bs_mk [(0, .ref m), (1, .int l1), (2, .int l2), (3, .int l3), (4, .int l4), (5, .int s.1)]) [] 0 0 nx sh s.2) (ke : ∀ s, r = .inr (.inl s) → fg_R R s → bs_W Ph mX12_pairs (bs_rm (d_rP + 2) 0 0) 123 (bs_mk [(0, .ref m), (1, .int l1), (2, .int l2), (3, .int l3), (4, .int l4)]) [] 0 0 nx sh s) (kr : ∀ q, r = .inr (.inr q) → fg_R R q.2 → Ph (some (.int q.1)) nx sh q.2) (hR : fg_R R mu) (h : FX12_pairs_j91_L15 m rP mu l1 l2 l3 l4 l5 l6 = some r) : bs_W Ph mX12_pairs (bs_rm (d_rP + 2) 0 0) 91 (bs_mk [(0, .ref m), (1, .int l1), (2, .int l2), (3, .int l3), (4, .int l4), (5, .int l5), (6, .int l6)]) [] 0 0 nx sh mu := by
  unfold FX12_pairs_j91_L15 at h
  refine bs_iload dX12_pairs_91 rfl ?_
  refine bs_if_eq (tgt := 117) dX12_pairs_93 (by decide) (fun c => ?_) (fun c => ?_)
  · replace h := fg_ip c h
    refine fg_iinc (m := (nI 1)) dX12_pairs_117 rfl rfl (by decide) ?_
    refine bs_goto (tgt := 15) dX12_pairs_120 (by decide) ?_
    cases h
    refine bs_W.mk [(0, .ref m), (1, .int l1), (2, .int l2), (3, .int l3), (4, .int l4), (5, .int (l5 + (nI 1)))] (by intro q hq; simp only [List.mem_cons, List.not_mem_nil, or_false] at hq; rcases hq with rfl | rfl | rfl | rfl | rfl | rfl <;> rfl) (by have k := ka _ rfl hR; dsimp only at k; exact k)
  · replace h := fg_iN c h
    refine bs_aload_n dX12_pairs_96 rfl ?_
    refine bs_iload_n dX12_pairs_97 rfl ?_
    refine bs_iload_n dX12_pairs_98 rfl ?_
    refine bs_iload_n dX12_pairs_99 rfl ?_
    refine bs_iconst (v := (nI 1)) dX12_pairs_100 (by decide) ?_
    refine bs_iadd dX12_pairs_101 ?_
    refine bs_iload dX12_pairs_102 rfl ?_
    refine bs_iconst (v := (nI 1)) dX12_pairs_104 (by decide) ?_
    refine bs_iload dX12_pairs_105 rfl ?_
    refine bs_ishl dX12_pairs_107 ?_
    refine bs_ior dX12_pairs_108 ?_
    obtain ⟨v12, mu11, k10, h⟩ := fg_b2E h
    refine fg_callV dX12_pairs_109 qX12_355 (h_rP hR k10) rfl (HM.s 0 rfl rfl rfl) rfl (Nat.le_of_ble_eq_true rfl) (fg_cr (by first | decide | omega) (by decide)) (fun hR => ?_)
    refine bs_if_eq (tgt := 117) dX12_pairs_112 (by decide) (fun c => ?_) (fun c => ?_)
    · replace h := fg_ip c h
      refine fg_iinc (m := (nI 1)) dX12_pairs_117 rfl rfl (by decide) ?_
      refine bs_goto (tgt := 15) dX12_pairs_120 (by decide) ?_
      cases h
      refine bs_W.mk [(0, .ref m), (1, .int l1), (2, .int l2), (3, .int l3), (4, .int l4), (5, .int (l5 + (nI 1)))] (by intro q hq; simp only [List.mem_cons, List.not_mem_nil, or_false] at hq; rcases hq with rfl | rfl | rfl | rfl | rfl | rfl <;> rfl) (by have k := ka _ rfl hR; dsimp only at k; exact k)
    · replace h := fg_iN c h
      refine bs_iconst (v := (nI 1)) dX12_pairs_115 (by decide) ?_
      cases h
      exact bs_zret dX12_pairs_116 rfl (Or.inr rfl) (Nat.zero_le _) (Nat.zero_le _) (kr _ rfl hR)
noncomputable def FX12_pairs_b15 (m : Nat) (rP : bs_Mm → Int32 → Int32 → Int32 → Int32 → Option (Int32 × bs_Mm))  (l1 : Int32) (l2 : Int32) (l3 : Int32) (l4 : Int32) (s : Int32 × bs_Mm) : Option ((Int32 × bs_Mm) ⊕ ((bs_Mm) ⊕ (Int32 × bs_Mm))) :=
  fg_gd (fg_in l2 13) (
  if (bs_iv (s.2 (m + 9) l2.toNatClampNeg)) ≤ s.1 then (
    some (.inr (.inl s.2))
  ) else (
    if ((l4 >>> (s.1 &&& 31)) &&& (nI 1)) = (nI 1) then (
      some (.inl ((s.1 + (nI 1)), s.2))
    ) else (
      fg_gd (fg_in l3 8) (
      fg_wr s.2 (m + 23) l3.toNatClampNeg (.int s.1) (fun mu4 => 
      fg_bd (fg_lp (FX12_pairs_b54_L15 m rP mu4 l1 l2 l3 l4 s.1) fg_fu ((nI 1), (nI 0))) (fun t8 => 
        FX12_pairs_j91_L15 m rP mu4 l1 l2 l3 l4 s.1 t8
      )))
    )
  ))
set_option maxHeartbeats 4000000 in
theorem wFX12_pairs_b15 {nx : Nat} {sh : bs_Sh} {R : Nat → Nat → Option Nat} {m : Nat} (HM : fg_S (bs_tM m) R m sh) {rP : bs_Mm → Int32 → Int32 → Int32 → Int32 → Option (Int32 × bs_Mm)} {d_rP : Nat} (h_rP : ∀ {mu : bs_Mm} {a0 : Int32} {a1 : Int32} {a2 : Int32} {a3 : Int32} {q : Int32 × bs_Mm}, fg_R R mu → rP mu a0 a1 a2 a3 = some q → bs_C mX12_pairs (bs_rm d_rP 0 0) [.ref m, .int a0, .int a1, .int a2, .int a3] nx sh mu (fg_po R nx sh (some (.int q.1)) q.2)) {l1 : Int32} {l2 : Int32} {l3 : Int32} {l4 : Int32} {Ph : bs_Po} {s : Int32 × bs_Mm} {r : (Int32 × bs_Mm) ⊕ ((bs_Mm) ⊕ (Int32 × bs_Mm))} (ka : ∀ s, r = .inl s → fg_R R s.2 → bs_W Ph mX12_pairs (bs_rm (d_rP + 2) 0 0) 15 (bs_mk [(0, .ref m), (1, .int l1), (2, .int l2), (3, .int l3), (4, .int l4), (5, .int s.1)]) [] 0 0 nx sh s.2) (ke : ∀ s, r = .inr (.inl s) → fg_R R s → bs_W Ph mX12_pairs (bs_rm (d_rP + 2) 0 0) 123 (bs_mk [(0, .ref m), (1, .int l1), (2, .int l2), (3, .int l3), (4, .int l4)]) [] 0 0 nx sh s) (kr : ∀ q, r = .inr (.inr q) → fg_R R q.2 → Ph (some (.int q.1)) nx sh q.2) (hR : fg_R R s.2) (h : FX12_pairs_b15 m rP l1 l2 l3 l4 s = some r) : bs_W Ph mX12_pairs (bs_rm (d_rP + 2) 0 0) 15 (bs_mk [(0, .ref m), (1, .int l1), (2, .int l2), (3, .int l3), (4, .int l4), (5, .int s.1)]) [] 0 0 nx sh s.2 := by
  unfold FX12_pairs_b15 at h
  refine bs_iload dX12_pairs_15 rfl ?_
  refine bs_aload_n dX12_pairs_17 rfl ?_
  refine fg_getR (b := (m + 9)) dX12_pairs_18 fX12_34 (HM.s 0 rfl rfl rfl) hR (HM.r 0 14 rfl rfl rfl) ?_
  refine bs_iload_n dX12_pairs_21 rfl ?_
  obtain ⟨g2, h⟩ := fg_gdE h
  refine bs_iald dX12_pairs_22 (HM.ss 9 rfl rfl) (fg_in_ix g2) ?_
  refine bs_icmp_ge (tgt := 123) dX12_pairs_23 (by decide) (fun c => ?_) (fun c => ?_)
  · replace h := fg_ip c h
    cases h
    refine bs_W.mk [(0, .ref m), (1, .int l1), (2, .int l2), (3, .int l3), (4, .int l4)] (by intro q hq; simp only [List.mem_cons, List.not_mem_nil, or_false] at hq; rcases hq with rfl | rfl | rfl | rfl | rfl <;> rfl) (ke _ rfl hR)
  · replace h := fg_iN c h
    refine bs_iload dX12_pairs_26 rfl ?_
    refine bs_iload dX12_pairs_28 rfl ?_
    refine bs_ishr dX12_pairs_30 ?_
    refine bs_iconst (v := (nI 1)) dX12_pairs_31 (by decide) ?_
    refine bs_iand dX12_pairs_32 ?_
    refine bs_iconst (v := (nI 1)) dX12_pairs_33 (by decide) ?_
    refine bs_icmp_ne (tgt := 40) dX12_pairs_34 (by decide) (fun c => ?_) (fun c => ?_)
    · replace h := fg_iN c h
      refine bs_aload_n dX12_pairs_40 rfl ?_
      refine fg_getR (b := (m + 23)) dX12_pairs_41 fX12_77 (HM.s 0 rfl rfl rfl) hR (HM.r 0 35 rfl rfl rfl) ?_
      refine bs_iload_n dX12_pairs_44 rfl ?_
      refine bs_iload dX12_pairs_45 rfl ?_
      obtain ⟨g3, h⟩ := fg_gdE h
      refine fg_iast dX12_pairs_47 (HM.ss 23 rfl rfl) (fun j => HM.n 23 j rfl rfl rfl) g3 hR h (fun mu4 hR h => ?_)
      refine bs_iconst (v := (nI 1)) dX12_pairs_48 (by decide) ?_
      refine bs_istore dX12_pairs_49 rfl (by decide) ?_
      refine bs_iconst (v := (nI 0)) dX12_pairs_51 (by decide) ?_
      refine bs_istore dX12_pairs_52 rfl (by decide) ?_
      obtain ⟨t8, k9, h⟩ := fg_bdE h
      refine bs_W.mk [(0, .ref m), (1, .int l1), (2, .int l2), (3, .int l3), (4, .int l4), (5, .int s.1), (6, .int (nI 1)), (7, .int (nI 0))] (by intro q hq; simp only [List.mem_cons, List.not_mem_nil, or_false] at hq; rcases hq with rfl | rfl | rfl | rfl | rfl | rfl | rfl | rfl <;> rfl) ?_
      refine wFX12_pairs_l54_L15 HM h_rP _ _ _ k9 hR ?_
      intro s e
      subst e
      refine bs_W.mk [(0, .ref m), (1, .int l1), (2, .int l2), (3, .int l3), (4, .int l4), (5, .int s.1), (6, .int t8)] (by intro q hq; simp only [List.mem_cons, List.not_mem_nil, or_false] at hq; rcases hq with rfl | rfl | rfl | rfl | rfl | rfl | rfl <;> rfl) ?_
      exact wFX12_pairs_j91_L15 HM h_rP ka ke kr hR h
    · replace h := fg_ip c h
      refine bs_goto (tgt := 117) dX12_pairs_37 (by decide) ?_
      refine fg_iinc (m := (nI 1)) dX12_pairs_117 rfl rfl (by decide) ?_
      refine bs_goto (tgt := 15) dX12_pairs_120 (by decide) ?_
      cases h
      refine bs_W.mk [(0, .ref m), (1, .int l1), (2, .int l2), (3, .int l3), (4, .int l4), (5, .int (s.1 + (nI 1)))] (by intro q hq; simp only [List.mem_cons, List.not_mem_nil, or_false] at hq; rcases hq with rfl | rfl | rfl | rfl | rfl | rfl <;> rfl) (by have k := ka _ rfl hR; dsimp only at k; exact k)
theorem wFX12_pairs_l15 {nx : Nat} {sh : bs_Sh} {R : Nat → Nat → Option Nat} {m : Nat} (HM : fg_S (bs_tM m) R m sh) {rP : bs_Mm → Int32 → Int32 → Int32 → Int32 → Option (Int32 × bs_Mm)} {d_rP : Nat} (h_rP : ∀ {mu : bs_Mm} {a0 : Int32} {a1 : Int32} {a2 : Int32} {a3 : Int32} {q : Int32 × bs_Mm}, fg_R R mu → rP mu a0 a1 a2 a3 = some q → bs_C mX12_pairs (bs_rm d_rP 0 0) [.ref m, .int a0, .int a1, .int a2, .int a3] nx sh mu (fg_po R nx sh (some (.int q.1)) q.2)) {l1 : Int32} {l2 : Int32} {l3 : Int32} {l4 : Int32} {Ph : bs_Po} {t : (bs_Mm) ⊕ (Int32 × bs_Mm)} : ∀ n (y0 : Int32) (mu1 : bs_Mm), fg_lp (FX12_pairs_b15 m rP l1 l2 l3 l4) n (y0, mu1) = some t → fg_R R mu1 → (ke : ∀ s, t = .inl s → fg_R R s → bs_W Ph mX12_pairs (bs_rm (d_rP + 2) 0 0) 123 (bs_mk [(0, .ref m), (1, .int l1), (2, .int l2), (3, .int l3), (4, .int l4)]) [] 0 0 nx sh s) → (kr : ∀ q, t = .inr q → fg_R R q.2 → Ph (some (.int q.1)) nx sh q.2) → bs_W Ph mX12_pairs (bs_rm (d_rP + 2) 0 0) 15 (bs_mk [(0, .ref m), (1, .int l1), (2, .int l2), (3, .int l3), (4, .int l4), (5, .int y0)]) [] 0 0 nx sh mu1 := by
  intro n
  induction n with
  | zero => intro y0 mu1 h; exact absurd h (fun z => fg_lp0 z)
  | succ n ih =>
    intro y0 mu1 h hR ke kr
    obtain ⟨r, hb, h1, h2⟩ := fg_lpE h
    exact wFX12_pairs_b15 (s := (y0, mu1)) HM h_rP (fun s' e hR' => ih s'.1 s'.2 (h1 s' e) hR' ke kr) (fun s' e => ke s' (h2 _ e).symm) (fun q e => kr q (h2 _ e).symm) hR hb
noncomputable def FX12_pairs (m : Nat) (rP : bs_Mm → Int32 → Int32 → Int32 → Int32 → Option (Int32 × bs_Mm)) (mu : bs_Mm) (p1 : Int32) (p2 : Int32) (p3 : Int32) (p4 : Int32) : Option (Int32 × bs_Mm) :=
  fg_gd (fg_in p1 13) (
  if p3 = (bs_iv (mu (m + 9) p1.toNatClampNeg)) then (
    some ((nI 1), mu)
  ) else (
    fg_l3 (fg_lp (FX12_pairs_b15 m rP p1 p2 p3 p4) fg_fu ((nI 0), mu)) (fun t13 => 
      some ((nI 0), t13)
    ) (fun q15 => some q15)
  ))
set_option maxHeartbeats 4000000 in
theorem wX12_pairs {nx : Nat} {sh : bs_Sh} {R : Nat → Nat → Option Nat} {m : Nat} (HM : fg_S (bs_tM m) R m sh) {rP : bs_Mm → Int32 → Int32 → Int32 → Int32 → Option (Int32 × bs_Mm)} {d_rP : Nat} (h_rP : ∀ {mu : bs_Mm} {a0 : Int32} {a1 : Int32} {a2 : Int32} {a3 : Int32} {q : Int32 × bs_Mm}, fg_R R mu → rP mu a0 a1 a2 a3 = some q → bs_C mX12_pairs (bs_rm d_rP 0 0) [.ref m, .int a0, .int a1, .int a2, .int a3] nx sh mu (fg_po R nx sh (some (.int q.1)) q.2)) {mu : bs_Mm} (hR : fg_R R mu) {p1 : Int32} {p2 : Int32} {p3 : Int32} {p4 : Int32} {r : Int32 × bs_Mm} (h : FX12_pairs m rP mu p1 p2 p3 p4 = some r) : bs_C mX12_pairs (bs_rm (d_rP + 2) 0 0) [.ref m, .int p1, .int p2, .int p3, .int p4] nx sh mu (fg_po R nx sh (some (.int r.1)) r.2) := by
  refine bs_ct (by decide +kernel) (Nat.le_of_ble_eq_true rfl) ?_
  have kr : ∀ q, r = q → fg_R R q.2 → (fg_po R nx sh (some (.int r.1)) r.2) (some (.int q.1)) nx sh q.2 := fun q e hq => by subst e; exact ⟨rfl, rfl, rfl, rfl, hq⟩
  unfold FX12_pairs at h
  refine bs_iload_n dX12_pairs_0 rfl ?_
  refine bs_aload_n dX12_pairs_1 rfl ?_
  refine fg_getR (b := (m + 9)) dX12_pairs_2 fX12_34 (HM.s 0 rfl rfl rfl) hR (HM.r 0 14 rfl rfl rfl) ?_
  refine bs_iload_n dX12_pairs_5 rfl ?_
  obtain ⟨g1, h⟩ := fg_gdE h
  refine bs_iald dX12_pairs_6 (HM.ss 9 rfl rfl) (fg_in_ix g1) ?_
  refine bs_icmp_ne (tgt := 12) dX12_pairs_7 (by decide) (fun c => ?_) (fun c => ?_)
  · replace h := fg_iN c h
    refine bs_iconst (v := (nI 0)) dX12_pairs_12 (by decide) ?_
    refine bs_istore dX12_pairs_13 rfl (by decide) ?_
    obtain ⟨t130, k14, h1, h2⟩ := fg_l3E h
    refine bs_W.mk [(0, .ref m), (1, .int p1), (2, .int p2), (3, .int p3), (4, .int p4), (5, .int (nI 0))] (by intro q hq; simp only [List.mem_cons, List.not_mem_nil, or_false] at hq; rcases hq with rfl | rfl | rfl | rfl | rfl | rfl <;> rfl) ?_
    refine wFX12_pairs_l15 HM h_rP _ _ _ k14 hR ?_ ?_
    · intro t13 e hR
      replace h := h1 t13 e
      refine bs_iconst (v := (nI 0)) dX12_pairs_123 (by decide) ?_
      cases h
      exact bs_zret dX12_pairs_124 rfl (Or.inl rfl) (Nat.zero_le _) (Nat.zero_le _) (kr _ rfl hR)
    · intro q15 e hR
      replace h := h2 q15 e
      cases h
      exact kr _ rfl hR
  · replace h := fg_ip c h
    refine bs_iconst (v := (nI 1)) dX12_pairs_10 (by decide) ?_
    cases h
    exact bs_zret dX12_pairs_11 rfl (Or.inr rfl) (Nat.zero_le _) (Nat.zero_le _) (kr _ rfl hR)
noncomputable def fg_rP (m : Nat) : Nat → bs_Mm → Int32 → Int32 → Int32 → Int32 → Option (Int32 × bs_Mm)
  | 0 => fun _ _ _ _ _ => none
  | n + 1 => FX12_pairs m (fg_rP m n)
theorem wfg_rP {nx : Nat} {sh : bs_Sh} {R : Nat → Nat → Option Nat} {m : Nat} (HM : fg_S (bs_tM m) R m sh) : ∀ (n : Nat) {mu : bs_Mm} {a0 : Int32} {a1 : Int32} {a2 : Int32} {a3 : Int32} {q : Int32 × bs_Mm}, fg_R R mu → fg_rP m n mu a0 a1 a2 a3 = some q → bs_C mX12_pairs (bs_rm (2 * n) 0 0) [.ref m, .int a0, .int a1, .int a2, .int a3] nx sh mu (fg_po R nx sh (some (.int q.1)) q.2) := by
  intro n
  induction n with
  | zero => intro mu a0 a1 a2 a3 q hR h; cases h
  | succ n ih =>
    intro mu a0 a1 a2 a3 q hR h
    exact wX12_pairs HM ih hR h
noncomputable def FX12_areAlike (m : Nat) (mu : bs_Mm) (p1 : Int32) (p2 : Int32) : Option (Int32 × bs_Mm) :=
  fg_gd (fg_in p1 13) (
  fg_gd (fg_in p2 13) (
  if (bs_iv (mu (m + 9) p1.toNatClampNeg)) = (bs_iv (mu (m + 9) p2.toNatClampNeg)) then (
    fg_gd (fg_in p1 13) (
    fg_gd (fg_in p2 13) (
    if (bs_iv (mu (m + 8) p1.toNatClampNeg)) = (bs_iv (mu (m + 8) p2.toNatClampNeg)) then (
      fg_b2 (FX12_pairs m (fg_rP m 10) mu p1 p2 (nI 0) (nI 0)) (fun v7 mu6 => 
      if v7 = 0 then (
        some ((nI 0), mu6)
      ) else (
        some ((nI 1), mu6)
      ))
    ) else (
      some ((nI 0), mu)
    )))
  ) else (
    some ((nI 0), mu)
  )))
set_option maxHeartbeats 4000000 in
theorem wX12_areAlike {nx : Nat} {sh : bs_Sh} {R : Nat → Nat → Option Nat} {m : Nat} (HM : fg_S (bs_tM m) R m sh) {mu : bs_Mm} (hR : fg_R R mu) {p1 : Int32} {p2 : Int32} {r : Int32 × bs_Mm} (h : FX12_areAlike m mu p1 p2 = some r) : bs_C mX12_areAlike (bs_rm 23 0 0) [.ref m, .int p1, .int p2] nx sh mu (fg_po R nx sh (some (.int r.1)) r.2) := by
  refine bs_ct (by decide +kernel) (Nat.le_of_ble_eq_true rfl) ?_
  have kr : ∀ q, r = q → fg_R R q.2 → (fg_po R nx sh (some (.int r.1)) r.2) (some (.int q.1)) nx sh q.2 := fun q e hq => by subst e; exact ⟨rfl, rfl, rfl, rfl, hq⟩
  unfold FX12_areAlike at h
  refine bs_aload_n dX12_areAlike_0 rfl ?_
  refine fg_getR (b := (m + 9)) dX12_areAlike_1 fX12_34 (HM.s 0 rfl rfl rfl) hR (HM.r 0 14 rfl rfl rfl) ?_
  refine bs_iload_n dX12_areAlike_4 rfl ?_
  obtain ⟨g1, h⟩ := fg_gdE h
  refine bs_iald dX12_areAlike_5 (HM.ss 9 rfl rfl) (fg_in_ix g1) ?_
  refine bs_aload_n dX12_areAlike_6 rfl ?_
  refine fg_getR (b := (m + 9)) dX12_areAlike_7 fX12_34 (HM.s 0 rfl rfl rfl) hR (HM.r 0 14 rfl rfl rfl) ?_
  refine bs_iload_n dX12_areAlike_10 rfl ?_
  obtain ⟨g2, h⟩ := fg_gdE h
  refine bs_iald dX12_areAlike_11 (HM.ss 9 rfl rfl) (fg_in_ix g2) ?_
  refine bs_icmp_ne (tgt := 45) dX12_areAlike_12 (by decide) (fun c => ?_) (fun c => ?_)
  · replace h := fg_iN c h
    refine bs_iconst (v := (nI 0)) dX12_areAlike_45 (by decide) ?_
    cases h
    exact bs_zret dX12_areAlike_46 rfl (Or.inl rfl) (Nat.zero_le _) (Nat.zero_le _) (kr _ rfl hR)
  · replace h := fg_ip c h
    refine bs_aload_n dX12_areAlike_15 rfl ?_
    refine fg_getR (b := (m + 8)) dX12_areAlike_16 fX12_31 (HM.s 0 rfl rfl rfl) hR (HM.r 0 13 rfl rfl rfl) ?_
    refine bs_iload_n dX12_areAlike_19 rfl ?_
    obtain ⟨g3, h⟩ := fg_gdE h
    refine bs_iald dX12_areAlike_20 (HM.ss 8 rfl rfl) (fg_in_ix g3) ?_
    refine bs_aload_n dX12_areAlike_21 rfl ?_
    refine fg_getR (b := (m + 8)) dX12_areAlike_22 fX12_31 (HM.s 0 rfl rfl rfl) hR (HM.r 0 13 rfl rfl rfl) ?_
    refine bs_iload_n dX12_areAlike_25 rfl ?_
    obtain ⟨g4, h⟩ := fg_gdE h
    refine bs_iald dX12_areAlike_26 (HM.ss 8 rfl rfl) (fg_in_ix g4) ?_
    refine bs_icmp_ne (tgt := 45) dX12_areAlike_27 (by decide) (fun c => ?_) (fun c => ?_)
    · replace h := fg_iN c h
      refine bs_iconst (v := (nI 0)) dX12_areAlike_45 (by decide) ?_
      cases h
      exact bs_zret dX12_areAlike_46 rfl (Or.inl rfl) (Nat.zero_le _) (Nat.zero_le _) (kr _ rfl hR)
    · replace h := fg_ip c h
      refine bs_aload_n dX12_areAlike_30 rfl ?_
      refine bs_iload_n dX12_areAlike_31 rfl ?_
      refine bs_iload_n dX12_areAlike_32 rfl ?_
      refine bs_iconst (v := (nI 0)) dX12_areAlike_33 (by decide) ?_
      refine bs_iconst (v := (nI 0)) dX12_areAlike_34 (by decide) ?_
      obtain ⟨v7, mu6, k5, h⟩ := fg_b2E h
      refine fg_callV dX12_areAlike_35 qX12_355 (wX12_pairs HM (wfg_rP HM 10) hR k5) rfl (HM.s 0 rfl rfl rfl) rfl (Nat.le_of_ble_eq_true rfl) (fg_cr (by first | decide | omega) (by decide)) (fun hR => ?_)
      refine bs_if_eq (tgt := 45) dX12_areAlike_38 (by decide) (fun c => ?_) (fun c => ?_)
      · replace h := fg_ip c h
        refine bs_iconst (v := (nI 0)) dX12_areAlike_45 (by decide) ?_
        cases h
        exact bs_zret dX12_areAlike_46 rfl (Or.inl rfl) (Nat.zero_le _) (Nat.zero_le _) (kr _ rfl hR)
      · replace h := fg_iN c h
        refine bs_iconst (v := (nI 1)) dX12_areAlike_41 (by decide) ?_
        refine bs_goto (tgt := 46) dX12_areAlike_42 (by decide) ?_
        cases h
        exact bs_zret dX12_areAlike_46 rfl (Or.inr rfl) (Nat.zero_le _) (Nat.zero_le _) (kr _ rfl hR)
noncomputable def FX12_alike (m : Nat) (mu : bs_Mm) (p1 : Int32) (p2 : Int32) : Option (Int32 × bs_Mm) :=
  fg_bd (FX12_mayMatch m mu p1 p2) (fun v2 => 
  if v2 = 0 then (
    some ((-1), mu)
  ) else (
    fg_b2 (FX12_areAlike m mu p1 p2) (fun v5 mu4 => 
    if v5 = 0 then (
      some ((nI 0), mu4)
    ) else (
      some ((nI 1), mu4)
    ))
  ))
set_option maxHeartbeats 4000000 in
theorem wX12_alike {nx : Nat} {sh : bs_Sh} {R : Nat → Nat → Option Nat} {m : Nat} (HM : fg_S (bs_tM m) R m sh) {mu : bs_Mm} (hR : fg_R R mu) {p1 : Int32} {p2 : Int32} {r : Int32 × bs_Mm} (h : FX12_alike m mu p1 p2 = some r) : bs_C mX12_alike (bs_rm 24 0 0) [.ref m, .int p1, .int p2] nx sh mu (fg_po R nx sh (some (.int r.1)) r.2) := by
  refine bs_ct (by decide +kernel) (Nat.le_of_ble_eq_true rfl) ?_
  have kr : ∀ q, r = q → fg_R R q.2 → (fg_po R nx sh (some (.int r.1)) r.2) (some (.int q.1)) nx sh q.2 := fun q e hq => by subst e; exact ⟨rfl, rfl, rfl, rfl, hq⟩
  unfold FX12_alike at h
  refine bs_aload_n dX12_alike_0 rfl ?_
  refine bs_iload_n dX12_alike_1 rfl ?_
  refine bs_iload_n dX12_alike_2 rfl ?_
  obtain ⟨v2, k1, h⟩ := fg_bdE h
  refine fg_callV dX12_alike_3 qX12_359 (wX12_mayMatch HM hR k1) rfl (HM.s 0 rfl rfl rfl) rfl (Nat.le_of_ble_eq_true rfl) (fg_cr (by first | decide | omega) (by decide)) (fun hR => ?_)
  refine bs_if_eq (tgt := 26) dX12_alike_6 (by decide) (fun c => ?_) (fun c => ?_)
  · replace h := fg_ip c h
    refine bs_iconst (v := (-1)) dX12_alike_26 (by decide) ?_
    cases h
    exact bs_iret dX12_alike_27 rfl (Nat.zero_le _) (Nat.zero_le _) (kr _ rfl hR)
  · replace h := fg_iN c h
    refine bs_aload_n dX12_alike_9 rfl ?_
    refine bs_iload_n dX12_alike_10 rfl ?_
    refine bs_iload_n dX12_alike_11 rfl ?_
    obtain ⟨v5, mu4, k3, h⟩ := fg_b2E h
    refine fg_callV dX12_alike_12 qX12_362 (wX12_areAlike HM hR k3) rfl (HM.s 0 rfl rfl rfl) rfl (Nat.le_of_ble_eq_true rfl) (fg_cr (by first | decide | omega) (by decide)) (fun hR => ?_)
    refine bs_if_eq (tgt := 22) dX12_alike_15 (by decide) (fun c => ?_) (fun c => ?_)
    · replace h := fg_ip c h
      refine bs_iconst (v := (nI 0)) dX12_alike_22 (by decide) ?_
      refine bs_goto (tgt := 27) dX12_alike_23 (by decide) ?_
      cases h
      exact bs_iret dX12_alike_27 rfl (Nat.zero_le _) (Nat.zero_le _) (kr _ rfl hR)
    · replace h := fg_iN c h
      refine bs_iconst (v := (nI 1)) dX12_alike_18 (by decide) ?_
      refine bs_goto (tgt := 27) dX12_alike_19 (by decide) ?_
      cases h
      exact bs_iret dX12_alike_27 rfl (Nat.zero_le _) (Nat.zero_le _) (kr _ rfl hR)
noncomputable def FX12_here (m : Nat) (mu : bs_Mm) : Option (Int32) :=
  if (bs_iv (mu m 7)) ≤ (bs_iv (mu m 8)) then (
    some ((-1))
  ) else (
    fg_gd (fg_in (bs_iv (mu m 8)) 200) (
    some ((bs_iv (mu (m + 5) (bs_iv (mu m 8)).toNatClampNeg))))
  )
set_option maxHeartbeats 4000000 in
theorem wX12_here {nx : Nat} {sh : bs_Sh} {R : Nat → Nat → Option Nat} {m : Nat} (HM : fg_S (bs_tM m) R m sh) {mu : bs_Mm} (hR : fg_R R mu) {r : Int32} (h : FX12_here m mu = some r) : bs_C mX12_here (bs_rm 0 0 0) [.ref m] nx sh mu (fg_po R nx sh (some (.int r)) mu) := by
  refine bs_ct (by decide +kernel) (Nat.le_of_ble_eq_true rfl) ?_
  have kr : ∀ q, r = q → fg_R R mu → (fg_po R nx sh (some (.int r)) mu) (some (.int q)) nx sh mu := fun q e hq => by subst e; exact ⟨rfl, rfl, rfl, rfl, hq⟩
  unfold FX12_here at h
  refine bs_aload_n dX12_here_0 rfl ?_
  refine bs_getI dX12_here_1 fX12_135 (HM.s 0 rfl rfl rfl) ?_
  refine bs_aload_n dX12_here_4 rfl ?_
  refine bs_getI dX12_here_5 fX12_132 (HM.s 0 rfl rfl rfl) ?_
  refine bs_icmp_ge (tgt := 23) dX12_here_8 (by decide) (fun c => ?_) (fun c => ?_)
  · replace h := fg_ip c h
    refine bs_iconst (v := (-1)) dX12_here_23 (by decide) ?_
    cases h
    exact bs_iret dX12_here_24 rfl (Nat.zero_le _) (Nat.zero_le _) (kr _ rfl hR)
  · replace h := fg_iN c h
    refine bs_aload_n dX12_here_11 rfl ?_
    refine fg_getR (b := (m + 5)) dX12_here_12 fX12_22 (HM.s 0 rfl rfl rfl) hR (HM.r 0 6 rfl rfl rfl) ?_
    refine bs_aload_n dX12_here_15 rfl ?_
    refine bs_getI dX12_here_16 fX12_135 (HM.s 0 rfl rfl rfl) ?_
    obtain ⟨g1, h⟩ := fg_gdE h
    refine bs_iald dX12_here_19 (HM.ss 5 rfl rfl) (fg_in_ix g1) ?_
    refine bs_goto (tgt := 24) dX12_here_20 (by decide) ?_
    cases h
    exact bs_iret dX12_here_24 rfl (Nat.zero_le _) (Nat.zero_le _) (kr _ rfl hR)
noncomputable def FX12_look_b0 (m : Nat)  (s : bs_Mm) : Option ((bs_Mm) ⊕ (bs_Mm)) :=
  fg_bd (FX12_here m s) (fun v2 => 
  if v2 = (nI 32) then (
    fg_wr s m 8 (.int ((bs_iv (s m 8)) + (nI 1))) (fun mu3 => 
    some (.inl mu3))
  ) else (
    some (.inr s)
  ))
set_option maxHeartbeats 4000000 in
theorem wFX12_look_b0 {nx : Nat} {sh : bs_Sh} {R : Nat → Nat → Option Nat} {m : Nat} (HM : fg_S (bs_tM m) R m sh) {Ph : bs_Po} {s : bs_Mm} {r : (bs_Mm) ⊕ (bs_Mm)} (ka : ∀ s, r = .inl s → fg_R R s → bs_W Ph mX12_look (bs_rm 1 0 0) 0 (bs_mk [(0, .ref m)]) [] 0 0 nx sh s) (ke : ∀ s, r = .inr s → fg_R R s → bs_W Ph mX12_look (bs_rm 1 0 0) 22 (bs_mk [(0, .ref m)]) [] 0 0 nx sh s) (hR : fg_R R s) (h : FX12_look_b0 m s = some r) : bs_W Ph mX12_look (bs_rm 1 0 0) 0 (bs_mk [(0, .ref m)]) [] 0 0 nx sh s := by
  unfold FX12_look_b0 at h
  refine bs_aload_n dX12_look_0 rfl ?_
  obtain ⟨v2, k1, h⟩ := fg_bdE h
  refine fg_callV dX12_look_1 qX12_138 (wX12_here HM hR k1) rfl (HM.s 0 rfl rfl rfl) rfl (Nat.le_of_ble_eq_true rfl) (fg_cr (by first | decide | omega) (by decide)) (fun hR => ?_)
  refine bs_bipush (v := (nI 32)) dX12_look_4 (by decide) ?_
  refine bs_icmp_ne (tgt := 22) dX12_look_6 (by decide) (fun c => ?_) (fun c => ?_)
  · replace h := fg_iN c h
    cases h
    refine bs_W.mk [(0, .ref m)] (by intro q hq; simp only [List.mem_cons, List.not_mem_nil, or_false] at hq; rcases hq with rfl; rfl) (ke _ rfl hR)
  · replace h := fg_ip c h
    refine bs_aload_n dX12_look_9 rfl ?_
    refine bs_dup dX12_look_10 rfl ?_
    refine bs_getI dX12_look_11 fX12_135 (HM.s 0 rfl rfl rfl) ?_
    refine bs_iconst (v := (nI 1)) dX12_look_14 (by decide) ?_
    refine bs_iadd dX12_look_15 ?_
    refine fg_putI dX12_look_16 pX12_135 (HM.s 0 rfl rfl rfl) (HM.n 0 8 rfl rfl rfl) hR h (fun mu3 hR h => ?_)
    refine bs_goto (tgt := 0) dX12_look_19 (by decide) ?_
    cases h
    refine bs_W.mk [(0, .ref m)] (by intro q hq; simp only [List.mem_cons, List.not_mem_nil, or_false] at hq; rcases hq with rfl; rfl) (ka _ rfl hR)
theorem wFX12_look_l0 {nx : Nat} {sh : bs_Sh} {R : Nat → Nat → Option Nat} {m : Nat} (HM : fg_S (bs_tM m) R m sh) {Ph : bs_Po} {t : bs_Mm} : ∀ n (mu1 : bs_Mm), fg_lp (FX12_look_b0 m) n mu1 = some t → fg_R R mu1 → (ke : ∀ s, t = s → fg_R R s → bs_W Ph mX12_look (bs_rm 1 0 0) 22 (bs_mk [(0, .ref m)]) [] 0 0 nx sh s) → bs_W Ph mX12_look (bs_rm 1 0 0) 0 (bs_mk [(0, .ref m)]) [] 0 0 nx sh mu1 := by
  intro n
  induction n with
  | zero => intro mu1 h; exact absurd h (fun z => fg_lp0 z)
  | succ n ih =>
    intro mu1 h hR ke
    obtain ⟨r, hb, h1, h2⟩ := fg_lpE h
    exact wFX12_look_b0 (s := mu1) HM (fun s' e hR' => ih s' (h1 s' e) hR' ke) (fun s' e => ke s' (h2 _ e).symm) hR hb
noncomputable def FX12_look (m : Nat) (mu : bs_Mm) : Option (Int32 × bs_Mm) :=
  fg_bd (fg_lp (FX12_look_b0 m) fg_fu mu) (fun t4 => 
    fg_bd (FX12_here m t4) (fun v7 => 
    some (v7, t4))
  )
set_option maxHeartbeats 4000000 in
theorem wX12_look {nx : Nat} {sh : bs_Sh} {R : Nat → Nat → Option Nat} {m : Nat} (HM : fg_S (bs_tM m) R m sh) {mu : bs_Mm} (hR : fg_R R mu) {r : Int32 × bs_Mm} (h : FX12_look m mu = some r) : bs_C mX12_look (bs_rm 1 0 0) [.ref m] nx sh mu (fg_po R nx sh (some (.int r.1)) r.2) := by
  refine bs_ct (by decide +kernel) (Nat.le_of_ble_eq_true rfl) ?_
  have kr : ∀ q, r = q → fg_R R q.2 → (fg_po R nx sh (some (.int r.1)) r.2) (some (.int q.1)) nx sh q.2 := fun q e hq => by subst e; exact ⟨rfl, rfl, rfl, rfl, hq⟩
  unfold FX12_look at h
  obtain ⟨t4, k5, h⟩ := fg_bdE h
  refine bs_W.mk [(0, .ref m)] (by intro q hq; simp only [List.mem_cons, List.not_mem_nil, or_false] at hq; rcases hq with rfl; rfl) ?_
  refine wFX12_look_l0 HM _ _ k5 hR ?_
  intro s e hR
  subst e
  refine bs_aload_n dX12_look_22 rfl ?_
  obtain ⟨v7, k6, h⟩ := fg_bdE h
  refine fg_callV dX12_look_23 qX12_138 (wX12_here HM hR k6) rfl (HM.s 0 rfl rfl rfl) rfl (Nat.le_of_ble_eq_true rfl) (fg_cr (by first | decide | omega) (by decide)) (fun hR => ?_)
  cases h
  exact bs_iret dX12_look_26 rfl (Nat.zero_le _) (Nat.zero_le _) (kr _ rfl hR)
noncomputable def FX12_isDigit (m : Nat) (mu : bs_Mm) (p0 : Int32) : Option (Int32) :=
  if p0 < (nI 48) then (
    some ((nI 0))
  ) else (
    if (nI 57) < p0 then (
      some ((nI 0))
    ) else (
      some ((nI 1))
    )
  )
set_option maxHeartbeats 4000000 in
theorem wX12_isDigit {nx : Nat} {sh : bs_Sh} {R : Nat → Nat → Option Nat} {m : Nat} (HM : fg_S (bs_tM m) R m sh) {mu : bs_Mm} (hR : fg_R R mu) {p0 : Int32} {r : Int32} (h : FX12_isDigit m mu p0 = some r) : bs_C mX12_isDigit (bs_rm 0 0 0) [.int p0] nx sh mu (fg_po R nx sh (some (.int r)) mu) := by
  refine bs_ct (by decide +kernel) (Nat.le_of_ble_eq_true rfl) ?_
  have kr : ∀ q, r = q → fg_R R mu → (fg_po R nx sh (some (.int r)) mu) (some (.int q)) nx sh mu := fun q e hq => by subst e; exact ⟨rfl, rfl, rfl, rfl, hq⟩
  unfold FX12_isDigit at h
  refine bs_iload_n dX12_isDigit_0 rfl ?_
  refine bs_bipush (v := (nI 48)) dX12_isDigit_1 (by decide) ?_
  refine bs_icmp_lt (tgt := 16) dX12_isDigit_3 (by decide) (fun c => ?_) (fun c => ?_)
  · replace h := fg_ip c h
    refine bs_iconst (v := (nI 0)) dX12_isDigit_16 (by decide) ?_
    cases h
    exact bs_zret dX12_isDigit_17 rfl (Or.inl rfl) (Nat.zero_le _) (Nat.zero_le _) (kr _ rfl hR)
  · replace h := fg_iN c h
    refine bs_iload_n dX12_isDigit_6 rfl ?_
    refine bs_bipush (v := (nI 57)) dX12_isDigit_7 (by decide) ?_
    refine bs_icmp_gt (tgt := 16) dX12_isDigit_9 (by decide) (fun c => ?_) (fun c => ?_)
    · replace h := fg_ip c h
      refine bs_iconst (v := (nI 0)) dX12_isDigit_16 (by decide) ?_
      cases h
      exact bs_zret dX12_isDigit_17 rfl (Or.inl rfl) (Nat.zero_le _) (Nat.zero_le _) (kr _ rfl hR)
    · replace h := fg_iN c h
      refine bs_iconst (v := (nI 1)) dX12_isDigit_12 (by decide) ?_
      refine bs_goto (tgt := 17) dX12_isDigit_13 (by decide) ?_
      cases h
      exact bs_zret dX12_isDigit_17 rfl (Or.inr rfl) (Nat.zero_le _) (Nat.zero_le _) (kr _ rfl hR)
noncomputable def FX12_bad (m : Nat) (mu : bs_Mm) : Option (bs_Mm) :=
  if (bs_iv (mu m 9)) = (-1) then (
    fg_wr mu m 9 (.int (bs_iv (mu m 8))) (fun mu2 => 
    some mu2)
  ) else (
    fg_wr mu m 9 (.int (bs_iv (mu m 9))) (fun mu1 => 
    some mu1)
  )
set_option maxHeartbeats 4000000 in
theorem wX12_bad {nx : Nat} {sh : bs_Sh} {R : Nat → Nat → Option Nat} {m : Nat} (HM : fg_S (bs_tM m) R m sh) {mu : bs_Mm} (hR : fg_R R mu) {r : bs_Mm} (h : FX12_bad m mu = some r) : bs_C mX12_bad (bs_rm 0 0 0) [.ref m] nx sh mu (fg_po R nx sh none r) := by
  refine bs_ct (by decide +kernel) (Nat.le_of_ble_eq_true rfl) ?_
  have kr : ∀ q, r = q → fg_R R q → (fg_po R nx sh none r) none nx sh q := fun q e hq => by subst e; exact ⟨rfl, rfl, rfl, rfl, hq⟩
  unfold FX12_bad at h
  refine bs_aload_n dX12_bad_0 rfl ?_
  refine bs_aload_n dX12_bad_1 rfl ?_
  refine bs_getI dX12_bad_2 fX12_142 (HM.s 0 rfl rfl rfl) ?_
  refine bs_iconst (v := (-1)) dX12_bad_5 (by decide) ?_
  refine bs_icmp_ne (tgt := 16) dX12_bad_6 (by decide) (fun c => ?_) (fun c => ?_)
  · replace h := fg_iN c h
    refine bs_aload_n dX12_bad_16 rfl ?_
    refine bs_getI dX12_bad_17 fX12_142 (HM.s 0 rfl rfl rfl) ?_
    refine fg_putI dX12_bad_20 pX12_142 (HM.s 0 rfl rfl rfl) (HM.n 0 9 rfl rfl rfl) hR h (fun mu1 hR h => ?_)
    cases h
    exact bs_vret dX12_bad_23 rfl (Nat.zero_le _) (Nat.zero_le _) (kr _ rfl hR)
  · replace h := fg_ip c h
    refine bs_aload_n dX12_bad_9 rfl ?_
    refine bs_getI dX12_bad_10 fX12_135 (HM.s 0 rfl rfl rfl) ?_
    refine bs_goto (tgt := 20) dX12_bad_13 (by decide) ?_
    refine fg_putI dX12_bad_20 pX12_142 (HM.s 0 rfl rfl rfl) (HM.n 0 9 rfl rfl rfl) hR h (fun mu2 hR h => ?_)
    cases h
    exact bs_vret dX12_bad_23 rfl (Nat.zero_le _) (Nat.zero_le _) (kr _ rfl hR)
noncomputable def FX12_say (m : Nat) (mu : bs_Mm) (p1 : Int32) : Option (bs_Mm) :=
  fg_gd (fg_in (((nI 400) * (bs_iv (mu m 32))) + (bs_iv (mu m 33))) 2800) (
  fg_wr mu (m + 18) (((nI 400) * (bs_iv (mu m 32))) + (bs_iv (mu m 33))).toNatClampNeg (.int p1) (fun mu2 => 
  fg_wr mu2 m 33 (.int ((bs_iv (mu2 m 33)) + (nI 1))) (fun mu3 => 
  some mu3)))
set_option maxHeartbeats 4000000 in
theorem wX12_say {nx : Nat} {sh : bs_Sh} {R : Nat → Nat → Option Nat} {m : Nat} (HM : fg_S (bs_tM m) R m sh) {mu : bs_Mm} (hR : fg_R R mu) {p1 : Int32} {r : bs_Mm} (h : FX12_say m mu p1 = some r) : bs_C mX12_say (bs_rm 0 0 0) [.ref m, .int p1] nx sh mu (fg_po R nx sh none r) := by
  refine bs_ct (by decide +kernel) (Nat.le_of_ble_eq_true rfl) ?_
  have kr : ∀ q, r = q → fg_R R q → (fg_po R nx sh none r) none nx sh q := fun q e hq => by subst e; exact ⟨rfl, rfl, rfl, rfl, hq⟩
  unfold FX12_say at h
  refine bs_aload_n dX12_say_0 rfl ?_
  refine fg_getR (b := (m + 18)) dX12_say_1 fX12_61 (HM.s 0 rfl rfl rfl) hR (HM.r 0 27 rfl rfl rfl) ?_
  refine bs_sipush (v := (nI 400)) dX12_say_4 (by decide) ?_
  refine bs_aload_n dX12_say_7 rfl ?_
  refine bs_getI dX12_say_8 fX12_205 (HM.s 0 rfl rfl rfl) ?_
  refine bs_imul dX12_say_11 ?_
  refine bs_aload_n dX12_say_12 rfl ?_
  refine bs_getI dX12_say_13 fX12_208 (HM.s 0 rfl rfl rfl) ?_
  refine bs_iadd dX12_say_16 ?_
  refine bs_iload_n dX12_say_17 rfl ?_
  obtain ⟨g1, h⟩ := fg_gdE h
  refine fg_iast dX12_say_18 (HM.ss 18 rfl rfl) (fun j => HM.n 18 j rfl rfl rfl) g1 hR h (fun mu2 hR h => ?_)
  refine bs_aload_n dX12_say_19 rfl ?_
  refine bs_dup dX12_say_20 rfl ?_
  refine bs_getI dX12_say_21 fX12_208 (HM.s 0 rfl rfl rfl) ?_
  refine bs_iconst (v := (nI 1)) dX12_say_24 (by decide) ?_
  refine bs_iadd dX12_say_25 ?_
  refine fg_putI dX12_say_26 pX12_208 (HM.s 0 rfl rfl rfl) (HM.n 0 33 rfl rfl rfl) hR h (fun mu3 hR h => ?_)
  cases h
  exact bs_vret dX12_say_29 rfl (Nat.zero_le _) (Nat.zero_le _) (kr _ rfl hR)
noncomputable def FX12_isLetter (m : Nat) (mu : bs_Mm) (p0 : Int32) : Option (Int32) :=
  if p0 = (nI 108) then (
    some ((nI 1))
  ) else (
    if p0 = (nI 104) then (
      some ((nI 1))
    ) else (
      if p0 = (nI 107) then (
        some ((nI 1))
      ) else (
        if p0 = (nI 115) then (
          some ((nI 1))
        ) else (
          if p0 = (nI 97) then (
            some ((nI 1))
          ) else (
            some ((nI 0))
          )
        )
      )
    )
  )
set_option maxHeartbeats 4000000 in
theorem wX12_isLetter {nx : Nat} {sh : bs_Sh} {R : Nat → Nat → Option Nat} {m : Nat} (HM : fg_S (bs_tM m) R m sh) {mu : bs_Mm} (hR : fg_R R mu) {p0 : Int32} {r : Int32} (h : FX12_isLetter m mu p0 = some r) : bs_C mX12_isLetter (bs_rm 0 0 0) [.int p0] nx sh mu (fg_po R nx sh (some (.int r)) mu) := by
  refine bs_ct (by decide +kernel) (Nat.le_of_ble_eq_true rfl) ?_
  have kr : ∀ q, r = q → fg_R R mu → (fg_po R nx sh (some (.int r)) mu) (some (.int q)) nx sh mu := fun q e hq => by subst e; exact ⟨rfl, rfl, rfl, rfl, hq⟩
  unfold FX12_isLetter at h
  refine bs_iload_n dX12_isLetter_0 rfl ?_
  refine bs_bipush (v := (nI 108)) dX12_isLetter_1 (by decide) ?_
  refine bs_icmp_eq (tgt := 30) dX12_isLetter_3 (by decide) (fun c => ?_) (fun c => ?_)
  · replace h := fg_ip c h
    refine bs_iconst (v := (nI 1)) dX12_isLetter_30 (by decide) ?_
    refine bs_goto (tgt := 35) dX12_isLetter_31 (by decide) ?_
    cases h
    exact bs_zret dX12_isLetter_35 rfl (Or.inr rfl) (Nat.zero_le _) (Nat.zero_le _) (kr _ rfl hR)
  · replace h := fg_iN c h
    refine bs_iload_n dX12_isLetter_6 rfl ?_
    refine bs_bipush (v := (nI 104)) dX12_isLetter_7 (by decide) ?_
    refine bs_icmp_eq (tgt := 30) dX12_isLetter_9 (by decide) (fun c => ?_) (fun c => ?_)
    · replace h := fg_ip c h
      refine bs_iconst (v := (nI 1)) dX12_isLetter_30 (by decide) ?_
      refine bs_goto (tgt := 35) dX12_isLetter_31 (by decide) ?_
      cases h
      exact bs_zret dX12_isLetter_35 rfl (Or.inr rfl) (Nat.zero_le _) (Nat.zero_le _) (kr _ rfl hR)
    · replace h := fg_iN c h
      refine bs_iload_n dX12_isLetter_12 rfl ?_
      refine bs_bipush (v := (nI 107)) dX12_isLetter_13 (by decide) ?_
      refine bs_icmp_eq (tgt := 30) dX12_isLetter_15 (by decide) (fun c => ?_) (fun c => ?_)
      · replace h := fg_ip c h
        refine bs_iconst (v := (nI 1)) dX12_isLetter_30 (by decide) ?_
        refine bs_goto (tgt := 35) dX12_isLetter_31 (by decide) ?_
        cases h
        exact bs_zret dX12_isLetter_35 rfl (Or.inr rfl) (Nat.zero_le _) (Nat.zero_le _) (kr _ rfl hR)
      · replace h := fg_iN c h
        refine bs_iload_n dX12_isLetter_18 rfl ?_
        refine bs_bipush (v := (nI 115)) dX12_isLetter_19 (by decide) ?_
        refine bs_icmp_eq (tgt := 30) dX12_isLetter_21 (by decide) (fun c => ?_) (fun c => ?_)
        · replace h := fg_ip c h
          refine bs_iconst (v := (nI 1)) dX12_isLetter_30 (by decide) ?_
          refine bs_goto (tgt := 35) dX12_isLetter_31 (by decide) ?_
          cases h
          exact bs_zret dX12_isLetter_35 rfl (Or.inr rfl) (Nat.zero_le _) (Nat.zero_le _) (kr _ rfl hR)
        · replace h := fg_iN c h
          refine bs_iload_n dX12_isLetter_24 rfl ?_
          refine bs_bipush (v := (nI 97)) dX12_isLetter_25 (by decide) ?_
          refine bs_icmp_ne (tgt := 34) dX12_isLetter_27 (by decide) (fun c => ?_) (fun c => ?_)
          · replace h := fg_iN c h
            refine bs_iconst (v := (nI 0)) dX12_isLetter_34 (by decide) ?_
            cases h
            exact bs_zret dX12_isLetter_35 rfl (Or.inl rfl) (Nat.zero_le _) (Nat.zero_le _) (kr _ rfl hR)
          · replace h := fg_ip c h
            refine bs_iconst (v := (nI 1)) dX12_isLetter_30 (by decide) ?_
            refine bs_goto (tgt := 35) dX12_isLetter_31 (by decide) ?_
            cases h
            exact bs_zret dX12_isLetter_35 rfl (Or.inr rfl) (Nat.zero_le _) (Nat.zero_le _) (kr _ rfl hR)
