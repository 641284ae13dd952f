noncomputable def FX12_opens (m : Nat) (mu : bs_Mm) : Option (bs_Mm) :=
  if (bs_iv (mu m 10)) = (nI 6) then (
    fg_bd (FX12_bad m mu) (fun mu4 => 
    some mu4)
  ) else (
    fg_wr mu m 10 (.int ((bs_iv (mu m 10)) + (nI 1))) (fun mu1 => 
    fg_wr mu1 m 8 (.int ((bs_iv (mu1 m 8)) + (nI 1))) (fun mu2 => 
    some mu2))
  )
set_option maxHeartbeats 4000000 in
theorem wX12_opens {nx : Nat} {sh : bs_Sh} {R : Nat → Nat → Option Nat} {m : Nat} (HM : fg_S (bs_tM m) R m sh) {mu : bs_Mm} (hR : fg_R R mu) {r : bs_Mm} (h : FX12_opens m mu = some r) : bs_C mX12_opens (bs_rm 1 0 0) [.ref m] nx sh mu (fg_po R nx sh none r) := by
  refine bs_ct (by decide +kernel) (Nat.le_of_ble_eq_true rfl) ?_
  have kr : ∀ q, r = q → fg_R R q → (fg_po R nx sh none r) none nx sh q := fun q e hq => by subst e; exact ⟨rfl, rfl, rfl, rfl, hq⟩
  unfold FX12_opens at h
  refine bs_aload_n dX12_opens_0 rfl ?_
  refine bs_getI dX12_opens_1 fX12_193 (HM.s 0 rfl rfl rfl) ?_
  refine bs_bipush (v := (nI 6)) dX12_opens_4 (by decide) ?_
  refine bs_icmp_ne (tgt := 14) dX12_opens_6 (by decide) (fun c => ?_) (fun c => ?_)
  · replace h := fg_iN c h
    refine bs_aload_n dX12_opens_14 rfl ?_
    refine bs_dup dX12_opens_15 rfl ?_
    refine bs_getI dX12_opens_16 fX12_193 (HM.s 0 rfl rfl rfl) ?_
    refine bs_iconst (v := (nI 1)) dX12_opens_19 (by decide) ?_
    refine bs_iadd dX12_opens_20 ?_
    refine fg_putI dX12_opens_21 pX12_193 (HM.s 0 rfl rfl rfl) (HM.n 0 10 rfl rfl rfl) hR h (fun mu1 hR h => ?_)
    refine bs_aload_n dX12_opens_24 rfl ?_
    refine bs_dup dX12_opens_25 rfl ?_
    refine bs_getI dX12_opens_26 fX12_135 (HM.s 0 rfl rfl rfl) ?_
    refine bs_iconst (v := (nI 1)) dX12_opens_29 (by decide) ?_
    refine bs_iadd dX12_opens_30 ?_
    refine fg_putI dX12_opens_31 pX12_135 (HM.s 0 rfl rfl rfl) (HM.n 0 8 rfl rfl rfl) hR h (fun mu2 hR h => ?_)
    cases h
    exact bs_vret dX12_opens_34 rfl (Nat.zero_le _) (Nat.zero_le _) (kr _ rfl hR)
  · replace h := fg_ip c h
    refine bs_aload_n dX12_opens_9 rfl ?_
    obtain ⟨mu4, k3, h⟩ := fg_bdE h
    refine fg_callVv dX12_opens_10 qX12_164 (wX12_bad HM hR k3) rfl (HM.s 0 rfl rfl rfl) rfl (Nat.le_of_ble_eq_true rfl) (fg_cr (by first | decide | omega) (by decide)) (fun hR => ?_)
    cases h
    exact bs_vret dX12_opens_13 rfl (Nat.zero_le _) (Nat.zero_le _) (kr _ rfl hR)
noncomputable def FX12_sign_j20 (m : Nat) (mu : bs_Mm) : Option (bs_Mm) :=
  fg_wr mu m 8 (.int ((bs_iv (mu m 8)) + (nI 1))) (fun mu1 => 
  fg_wr mu1 m 10 (.int ((bs_iv (mu1 m 10)) - (nI 1))) (fun mu2 => 
  some mu2))
set_option maxHeartbeats 4000000 in
theorem wFX12_sign_j20 {nx : Nat} {sh : bs_Sh} {R : Nat → Nat → Option Nat} {m : Nat} (HM : fg_S (bs_tM m) R m sh) {mu : bs_Mm} {Ph : bs_Po} {r : bs_Mm} (kr : ∀ q, r = q → fg_R R q → Ph none nx sh q) (hR : fg_R R mu) (h : FX12_sign_j20 m mu = some r) : bs_W Ph mX12_sign (bs_rm 2 0 0) 20 (bs_mk [(0, .ref m)]) [] 0 0 nx sh mu := by
  unfold FX12_sign_j20 at h
  refine bs_aload_n dX12_sign_20 rfl ?_
  refine bs_dup dX12_sign_21 rfl ?_
  refine bs_getI dX12_sign_22 fX12_135 (HM.s 0 rfl rfl rfl) ?_
  refine bs_iconst (v := (nI 1)) dX12_sign_25 (by decide) ?_
  refine bs_iadd dX12_sign_26 ?_
  refine fg_putI dX12_sign_27 pX12_135 (HM.s 0 rfl rfl rfl) (HM.n 0 8 rfl rfl rfl) hR h (fun mu1 hR h => ?_)
  refine bs_aload_n dX12_sign_30 rfl ?_
  refine bs_dup dX12_sign_31 rfl ?_
  refine bs_getI dX12_sign_32 fX12_193 (HM.s 0 rfl rfl rfl) ?_
  refine bs_iconst (v := (nI 1)) dX12_sign_35 (by decide) ?_
  refine bs_isub dX12_sign_36 ?_
  refine fg_putI dX12_sign_37 pX12_193 (HM.s 0 rfl rfl rfl) (HM.n 0 10 rfl rfl rfl) hR h (fun mu2 hR h => ?_)
  cases h
  exact bs_vret dX12_sign_40 rfl (Nat.zero_le _) (Nat.zero_le _) (kr _ rfl hR)
noncomputable def FX12_sign (m : Nat) (mu : bs_Mm) (p1 : Int32) : Option (bs_Mm) :=
  if (bs_iv (mu m 9)) = (-1) then (
    fg_b2 (FX12_look m mu) (fun v5 mu4 => 
    if v5 = p1 then (
      FX12_sign_j20 m mu4
    ) else (
      fg_bd (FX12_bad m mu4) (fun mu7 => 
      FX12_sign_j20 m mu7)
    ))
  ) else (
    FX12_sign_j20 m mu
  )
set_option maxHeartbeats 4000000 in
theorem wX12_sign {nx : Nat} {sh : bs_Sh} {R : Nat → Nat → Option Nat} {m : Nat} (HM : fg_S (bs_tM m) R m sh) {mu : bs_Mm} (hR : fg_R R mu) {p1 : Int32} {r : bs_Mm} (h : FX12_sign m mu p1 = some r) : bs_C mX12_sign (bs_rm 2 0 0) [.ref m, .int p1] nx sh mu (fg_po R nx sh none r) := by
  refine bs_ct (by decide +kernel) (Nat.le_of_ble_eq_true rfl) ?_
  have kr : ∀ q, r = q → fg_R R q → (fg_po R nx sh none r) none nx sh q := fun q e hq => by subst e; exact ⟨rfl, rfl, rfl, rfl, hq⟩
  unfold FX12_sign at h
  refine bs_aload_n dX12_sign_0 rfl ?_
  refine bs_getI dX12_sign_1 fX12_142 (HM.s 0 rfl rfl rfl) ?_
  refine bs_iconst (v := (-1)) dX12_sign_4 (by decide) ?_
  refine bs_icmp_ne (tgt := 20) dX12_sign_5 (by decide) (fun c => ?_) (fun c => ?_)
  · replace h := fg_iN c h
    refine bs_W.mk [(0, .ref m)] (by intro q hq; simp only [List.mem_cons, List.not_mem_nil, or_false] at hq; rcases hq with rfl; rfl) ?_
    exact wFX12_sign_j20 HM kr hR h
  · replace h := fg_ip c h
    refine bs_aload_n dX12_sign_8 rfl ?_
    obtain ⟨v5, mu4, k3, h⟩ := fg_b2E h
    refine fg_callV dX12_sign_9 qX12_180 (wX12_look HM hR k3) rfl (HM.s 0 rfl rfl rfl) rfl (Nat.le_of_ble_eq_true rfl) (fg_cr (by first | decide | omega) (by decide)) (fun hR => ?_)
    refine bs_iload_n dX12_sign_12 rfl ?_
    refine bs_icmp_eq (tgt := 20) dX12_sign_13 (by decide) (fun c => ?_) (fun c => ?_)
    · replace h := fg_ip c h
      refine bs_W.mk [(0, .ref m)] (by intro q hq; simp only [List.mem_cons, List.not_mem_nil, or_false] at hq; rcases hq with rfl; rfl) ?_
      exact wFX12_sign_j20 HM kr hR h
    · replace h := fg_iN c h
      refine bs_aload_n dX12_sign_16 rfl ?_
      obtain ⟨mu7, k6, h⟩ := fg_bdE h
      refine fg_callVv dX12_sign_17 qX12_164 (wX12_bad HM hR k6) rfl (HM.s 0 rfl rfl rfl) rfl (Nat.le_of_ble_eq_true rfl) (fg_cr (by first | decide | omega) (by decide)) (fun hR => ?_)
      refine bs_W.mk [(0, .ref m)] (by intro q hq; simp only [List.mem_cons, List.not_mem_nil, or_false] at hq; rcases hq with rfl; rfl) ?_
      exact wFX12_sign_j20 HM kr hR h
noncomputable def FX12_atom_b28 (m : Nat) (rS : bs_Mm → Option (bs_Mm))  (l1 : Int32) (s : Int32 × Int32 × bs_Mm) : Option ((Int32 × Int32 × bs_Mm) ⊕ ((Int32 × bs_Mm) ⊕ (bs_Mm))) :=
  fg_bd (FX12_here m s.2.2) (fun v19 => 
  fg_bd (FX12_isDigit m s.2.2 v19) (fun v21 => 
  if v21 = 0 then (
    some (.inr (.inl (s.1, s.2.2)))
  ) else (
    if s.2.1 = (nI 4) then (
      fg_bd (FX12_bad m s.2.2) (fun mu26 => 
      some (.inr (.inr mu26)))
    ) else (
      fg_bd (FX12_here m s.2.2) (fun v23 => 
      fg_wr s.2.2 m 8 (.int ((bs_iv (s.2.2 m 8)) + (nI 1))) (fun mu24 => 
      some (.inl (((((nI 10) * s.1) + v23) - (nI 48)), (s.2.1 + (nI 1)), mu24))))
    )
  )))
set_option maxHeartbeats 4000000 in
theorem wFX12_atom_b28 {nx : Nat} {sh : bs_Sh} {R : Nat → Nat → Option Nat} {m : Nat} (HM : fg_S (bs_tM m) R m sh) {rS : bs_Mm → Option (bs_Mm)} {d_rS : Nat} (h_rS : ∀ {mu : bs_Mm} {q : bs_Mm}, fg_R R mu → rS mu = some q → bs_C mX12_sum (bs_rm d_rS 0 0) [.ref m] nx sh mu (fg_po R nx sh none q)) {l1 : Int32} {Ph : bs_Po} {s : Int32 × Int32 × bs_Mm} {r : (Int32 × Int32 × bs_Mm) ⊕ ((Int32 × bs_Mm) ⊕ (bs_Mm))} (ka : ∀ s, r = .inl s → fg_R R s.2.2 → bs_W Ph mX12_atom (bs_rm (d_rS + 3) 0 0) 28 (bs_mk [(0, .ref m), (1, .int l1), (2, .int s.1), (3, .int s.2.1)]) [] 0 0 nx sh s.2.2) (ke : ∀ s, r = .inr (.inl s) → fg_R R s.2 → bs_W Ph mX12_atom (bs_rm (d_rS + 3) 0 0) 77 (bs_mk [(0, .ref m), (1, .int l1), (2, .int s.1)]) [] 0 0 nx sh s.2) (kr : ∀ q, r = .inr (.inr q) → fg_R R q → Ph none nx sh q) (hR : fg_R R s.2.2) (h : FX12_atom_b28 m rS l1 s = some r) : bs_W Ph mX12_atom (bs_rm (d_rS + 3) 0 0) 28 (bs_mk [(0, .ref m), (1, .int l1), (2, .int s.1), (3, .int s.2.1)]) [] 0 0 nx sh s.2.2 := by
  unfold FX12_atom_b28 at h
  refine bs_aload_n dX12_atom_28 rfl ?_
  obtain ⟨v19, k18, h⟩ := fg_bdE h
  refine fg_callV dX12_atom_29 qX12_138 (wX12_here HM hR k18) rfl (HM.s 0 rfl rfl rfl) rfl (Nat.le_of_ble_eq_true rfl) (fg_cr (by first | decide | omega) (by decide)) (fun hR => ?_)
  obtain ⟨v21, k20, h⟩ := fg_bdE h
  refine fg_callS dX12_atom_32 qX12_167 (wX12_isDigit HM hR k20) rfl rfl (Nat.le_of_ble_eq_true rfl) (fg_cr (by first | decide | omega) (by decide)) (fun hR => ?_)
  refine bs_if_eq (tgt := 77) dX12_atom_35 (by decide) (fun c => ?_) (fun c => ?_)
  · replace h := fg_ip c h
    cases h
    refine bs_W.mk [(0, .ref m), (1, .int l1), (2, .int s.1)] (by intro q hq; simp only [List.mem_cons, List.not_mem_nil, or_false] at hq; rcases hq with rfl | rfl | rfl <;> rfl) (ke _ rfl hR)
  · replace h := fg_iN c h
    refine bs_iload_n dX12_atom_38 rfl ?_
    refine bs_iconst (v := (nI 4)) dX12_atom_39 (by decide) ?_
    refine bs_icmp_ne (tgt := 48) dX12_atom_40 (by decide) (fun c => ?_) (fun c => ?_)
    · replace h := fg_iN c h
      refine bs_bipush (v := (nI 10)) dX12_atom_48 (by decide) ?_
      refine bs_iload_n dX12_atom_50 rfl ?_
      refine bs_imul dX12_atom_51 ?_
      refine bs_aload_n dX12_atom_52 rfl ?_
      obtain ⟨v23, k22, h⟩ := fg_bdE h
      refine fg_callV dX12_atom_53 qX12_138 (wX12_here HM hR k22) rfl (HM.s 0 rfl rfl rfl) rfl (Nat.le_of_ble_eq_true rfl) (fg_cr (by first | decide | omega) (by decide)) (fun hR => ?_)
      refine bs_iadd dX12_atom_56 ?_
      refine bs_bipush (v := (nI 48)) dX12_atom_57 (by decide) ?_
      refine bs_isub dX12_atom_59 ?_
      refine bs_istore_n dX12_atom_60 rfl (by decide) ?_
      refine fg_iinc (m := (nI 1)) dX12_atom_61 rfl rfl (by decide) ?_
      refine bs_aload_n dX12_atom_64 rfl ?_
      refine bs_dup dX12_atom_65 rfl ?_
      refine bs_getI dX12_atom_66 fX12_135 (HM.s 0 rfl rfl rfl) ?_
      refine bs_iconst (v := (nI 1)) dX12_atom_69 (by decide) ?_
      refine bs_iadd dX12_atom_70 ?_
      refine fg_putI dX12_atom_71 pX12_135 (HM.s 0 rfl rfl rfl) (HM.n 0 8 rfl rfl rfl) hR h (fun mu24 hR h => ?_)
      refine bs_goto (tgt := 28) dX12_atom_74 (by decide) ?_
      cases h
      refine bs_W.mk [(0, .ref m), (1, .int l1), (2, .int ((((nI 10) * s.1) + v23) - (nI 48))), (3, .int (s.2.1 + (nI 1)))] (by intro q hq; simp only [List.mem_cons, List.not_mem_nil, or_false] at hq; rcases hq with rfl | rfl | rfl | rfl <;> rfl) (by have k := ka _ rfl hR; dsimp only at k; exact k)
    · replace h := fg_ip c h
      refine bs_aload_n dX12_atom_43 rfl ?_
      obtain ⟨mu26, k25, h⟩ := fg_bdE h
      refine fg_callVv dX12_atom_44 qX12_164 (wX12_bad HM hR k25) rfl (HM.s 0 rfl rfl rfl) rfl (Nat.le_of_ble_eq_true rfl) (fg_cr (by first | decide | omega) (by decide)) (fun hR => ?_)
      cases h
      exact bs_vret dX12_atom_47 rfl (Nat.zero_le _) (Nat.zero_le _) (kr _ rfl hR)
theorem wFX12_atom_l28 {nx : Nat} {sh : bs_Sh} {R : Nat → Nat → Option Nat} {m : Nat} (HM : fg_S (bs_tM m) R m sh) {rS : bs_Mm → Option (bs_Mm)} {d_rS : Nat} (h_rS : ∀ {mu : bs_Mm} {q : bs_Mm}, fg_R R mu → rS mu = some q → bs_C mX12_sum (bs_rm d_rS 0 0) [.ref m] nx sh mu (fg_po R nx sh none q)) {l1 : Int32} {Ph : bs_Po} {t : (Int32 × bs_Mm) ⊕ (bs_Mm)} : ∀ n (y0 : Int32) (y1 : Int32) (mu1 : bs_Mm), fg_lp (FX12_atom_b28 m rS l1) n (y0, y1, mu1) = some t → fg_R R mu1 → (ke : ∀ s, t = .inl s → fg_R R s.2 → bs_W Ph mX12_atom (bs_rm (d_rS + 3) 0 0) 77 (bs_mk [(0, .ref m), (1, .int l1), (2, .int s.1)]) [] 0 0 nx sh s.2) → (kr : ∀ q, t = .inr q → fg_R R q → Ph none nx sh q) → bs_W Ph mX12_atom (bs_rm (d_rS + 3) 0 0) 28 (bs_mk [(0, .ref m), (1, .int l1), (2, .int y0), (3, .int y1)]) [] 0 0 nx sh mu1 := by
  intro n
  induction n with
  | zero => intro y0 y1 mu1 h; exact absurd h (fun z => fg_lp0 z)
  | succ n ih =>
    intro y0 y1 mu1 h hR ke kr
    obtain ⟨r, hb, h1, h2⟩ := fg_lpE h
    exact wFX12_atom_b28 (s := (y0, y1, mu1)) HM h_rS (fun s' e hR' => ih s'.1 s'.2.1 s'.2.2 (h1 s' e) hR' ke kr) (fun s' e => ke s' (h2 _ e).symm) (fun q e => kr q (h2 _ e).symm) hR hb
noncomputable def FX12_atom_j16 (m : Nat) (rS : bs_Mm → Option (bs_Mm)) (mu : bs_Mm) (t0 : Int32) : Option (bs_Mm) :=
  fg_bd (FX12_isDigit m mu t0) (fun v2 => 
  if v2 = 0 then (
    fg_bd (FX12_isLetter m mu t0) (fun v4 => 
    if v4 = 0 then (
      if t0 = (nI 91) then (
        fg_bd (FX12_opens m mu) (fun mu8 => 
        if (bs_iv (mu8 m 9)) = (-1) then (
          fg_bd (rS mu8) (fun mu10 => 
          fg_bd (FX12_sign m mu10 (nI 93)) (fun mu12 => 
          some mu12))
        ) else (
          some mu8
        ))
      ) else (
        fg_bd (FX12_bad m mu) (fun mu6 => 
        some mu6)
      )
    ) else (
      fg_wr mu m 8 (.int ((bs_iv (mu m 8)) + (nI 1))) (fun mu13 => 
      fg_bd (FX12_say m mu13 (nI 1)) (fun mu15 => 
      fg_bd (FX12_say m mu15 t0) (fun mu17 => 
      some mu17)))
    ))
  ) else (
    fg_l3 (fg_lp (FX12_atom_b28 m rS t0) fg_fu ((nI 0), (nI 0), mu)) (fun t27 => 
      fg_bd (FX12_say m t27.2 (nI 0)) (fun mu30 => 
      fg_bd (FX12_say m mu30 t27.1) (fun mu32 => 
      some mu32))
    ) (fun q33 => some q33)
  ))
set_option maxHeartbeats 4000000 in
theorem wFX12_atom_j16 {nx : Nat} {sh : bs_Sh} {R : Nat → Nat → Option Nat} {m : Nat} (HM : fg_S (bs_tM m) R m sh) {rS : bs_Mm → Option (bs_Mm)} {d_rS : Nat} (h_rS : ∀ {mu : bs_Mm} {q : bs_Mm}, fg_R R mu → rS mu = some q → bs_C mX12_sum (bs_rm d_rS 0 0) [.ref m] nx sh mu (fg_po R nx sh none q)) {mu : bs_Mm} {t0 : Int32} {Ph : bs_Po} {r : bs_Mm} (kr : ∀ q, r = q → fg_R R q → Ph none nx sh q) (hR : fg_R R mu) (h : FX12_atom_j16 m rS mu t0 = some r) : bs_W Ph mX12_atom (bs_rm (d_rS + 3) 0 0) 16 (bs_mk [(0, .ref m)]) [.int t0] 0 0 nx sh mu := by
  unfold FX12_atom_j16 at h
  refine bs_istore_n dX12_atom_16 rfl (by decide) ?_
  refine bs_iload_n dX12_atom_17 rfl ?_
  obtain ⟨v2, k1, h⟩ := fg_bdE h
  refine fg_callS dX12_atom_18 qX12_167 (wX12_isDigit HM hR k1) rfl rfl (Nat.le_of_ble_eq_true rfl) (fg_cr (by first | decide | omega) (by decide)) (fun hR => ?_)
  refine bs_if_eq (tgt := 90) dX12_atom_21 (by decide) (fun c => ?_) (fun c => ?_)
  · replace h := fg_ip c h
    refine bs_iload_n dX12_atom_90 rfl ?_
    obtain ⟨v4, k3, h⟩ := fg_bdE h
    refine fg_callS dX12_atom_91 qX12_215 (wX12_isLetter HM hR k3) rfl rfl (Nat.le_of_ble_eq_true rfl) (fg_cr (by first | decide | omega) (by decide)) (fun hR => ?_)
    refine bs_if_eq (tgt := 120) dX12_atom_94 (by decide) (fun c => ?_) (fun c => ?_)
    · replace h := fg_ip c h
      refine bs_iload_n dX12_atom_120 rfl ?_
      refine bs_bipush (v := (nI 91)) dX12_atom_121 (by decide) ?_
      refine bs_icmp_ne (tgt := 151) dX12_atom_123 (by decide) (fun c => ?_) (fun c => ?_)
      · replace h := fg_iN c h
        refine bs_aload_n dX12_atom_151 rfl ?_
        obtain ⟨mu6, k5, h⟩ := fg_bdE h
        refine fg_callVv dX12_atom_152 qX12_164 (wX12_bad HM hR k5) rfl (HM.s 0 rfl rfl rfl) rfl (Nat.le_of_ble_eq_true rfl) (fg_cr (by first | decide | omega) (by decide)) (fun hR => ?_)
        cases h
        exact bs_vret dX12_atom_155 rfl (Nat.zero_le _) (Nat.zero_le _) (kr _ rfl hR)
      · replace h := fg_ip c h
        refine bs_aload_n dX12_atom_126 rfl ?_
        obtain ⟨mu8, k7, h⟩ := fg_bdE h
        refine fg_callVv dX12_atom_127 qX12_218 (wX12_opens HM hR k7) rfl (HM.s 0 rfl rfl rfl) rfl (Nat.le_of_ble_eq_true rfl) (fg_cr (by first | decide | omega) (by decide)) (fun hR => ?_)
        refine bs_aload_n dX12_atom_130 rfl ?_
        refine bs_getI dX12_atom_131 fX12_142 (HM.s 0 rfl rfl rfl) ?_
        refine bs_iconst (v := (-1)) dX12_atom_134 (by decide) ?_
        refine bs_icmp_ne (tgt := 155) dX12_atom_135 (by decide) (fun c => ?_) (fun c => ?_)
        · replace h := fg_iN c h
          cases h
          exact bs_vret dX12_atom_155 rfl (Nat.zero_le _) (Nat.zero_le _) (kr _ rfl hR)
        · replace h := fg_ip c h
          refine bs_aload_n dX12_atom_138 rfl ?_
          obtain ⟨mu10, k9, h⟩ := fg_bdE h
          refine fg_callVv dX12_atom_139 qX12_221 (h_rS hR k9) rfl (HM.s 0 rfl rfl rfl) rfl (Nat.le_of_ble_eq_true rfl) (fg_cr (by first | decide | omega) (by decide)) (fun hR => ?_)
          refine bs_aload_n dX12_atom_142 rfl ?_
          refine bs_bipush (v := (nI 93)) dX12_atom_143 (by decide) ?_
          obtain ⟨mu12, k11, h⟩ := fg_bdE h
          refine fg_callVv dX12_atom_145 qX12_224 (wX12_sign HM hR k11) rfl (HM.s 0 rfl rfl rfl) rfl (Nat.le_of_ble_eq_true rfl) (fg_cr (by first | decide | omega) (by decide)) (fun hR => ?_)
          refine bs_goto (tgt := 155) dX12_atom_148 (by decide) ?_
          cases h
          exact bs_vret dX12_atom_155 rfl (Nat.zero_le _) (Nat.zero_le _) (kr _ rfl hR)
    · replace h := fg_iN c h
      refine bs_aload_n dX12_atom_97 rfl ?_
      refine bs_dup dX12_atom_98 rfl ?_
      refine bs_getI dX12_atom_99 fX12_135 (HM.s 0 rfl rfl rfl) ?_
      refine bs_iconst (v := (nI 1)) dX12_atom_102 (by decide) ?_
      refine bs_iadd dX12_atom_103 ?_
      refine fg_putI dX12_atom_104 pX12_135 (HM.s 0 rfl rfl rfl) (HM.n 0 8 rfl rfl rfl) hR h (fun mu13 hR h => ?_)
      refine bs_aload_n dX12_atom_107 rfl ?_
      refine bs_iconst (v := (nI 1)) dX12_atom_108 (by decide) ?_
      obtain ⟨mu15, k14, h⟩ := fg_bdE h
      refine fg_callVv dX12_atom_109 qX12_211 (wX12_say HM hR k14) rfl (HM.s 0 rfl rfl rfl) rfl (Nat.le_of_ble_eq_true rfl) (fg_cr (by first | decide | omega) (by decide)) (fun hR => ?_)
      refine bs_aload_n dX12_atom_112 rfl ?_
      refine bs_iload_n dX12_atom_113 rfl ?_
      obtain ⟨mu17, k16, h⟩ := fg_bdE h
      refine fg_callVv dX12_atom_114 qX12_211 (wX12_say HM hR k16) rfl (HM.s 0 rfl rfl rfl) rfl (Nat.le_of_ble_eq_true rfl) (fg_cr (by first | decide | omega) (by decide)) (fun hR => ?_)
      refine bs_goto (tgt := 155) dX12_atom_117 (by decide) ?_
      cases h
      exact bs_vret dX12_atom_155 rfl (Nat.zero_le _) (Nat.zero_le _) (kr _ rfl hR)
  · replace h := fg_iN c h
    refine bs_iconst (v := (nI 0)) dX12_atom_24 (by decide) ?_
    refine bs_istore_n dX12_atom_25 rfl (by decide) ?_
    refine bs_iconst (v := (nI 0)) dX12_atom_26 (by decide) ?_
    refine bs_istore_n dX12_atom_27 rfl (by decide) ?_
    obtain ⟨t270, k28, h1, h2⟩ := fg_l3E h
    refine bs_W.mk [(0, .ref m), (1, .int t0), (2, .int (nI 0)), (3, .int (nI 0))] (by intro q hq; simp only [List.mem_cons, List.not_mem_nil, or_false] at hq; rcases hq with rfl | rfl | rfl | rfl <;> rfl) ?_
    refine wFX12_atom_l28 HM h_rS _ _ _ _ k28 hR ?_ ?_
    · intro t27 e hR
      replace h := h1 t27 e
      refine bs_aload_n dX12_atom_77 rfl ?_
      refine bs_iconst (v := (nI 0)) dX12_atom_78 (by decide) ?_
      obtain ⟨mu30, k29, h⟩ := fg_bdE h
      refine fg_callVv dX12_atom_79 qX12_211 (wX12_say HM hR k29) rfl (HM.s 0 rfl rfl rfl) rfl (Nat.le_of_ble_eq_true rfl) (fg_cr (by first | decide | omega) (by decide)) (fun hR => ?_)
      refine bs_aload_n dX12_atom_82 rfl ?_
      refine bs_iload_n dX12_atom_83 rfl ?_
      obtain ⟨mu32, k31, h⟩ := fg_bdE h
      refine fg_callVv dX12_atom_84 qX12_211 (wX12_say HM hR k31) rfl (HM.s 0 rfl rfl rfl) rfl (Nat.le_of_ble_eq_true rfl) (fg_cr (by first | decide | omega) (by decide)) (fun hR => ?_)
      refine bs_goto (tgt := 155) dX12_atom_87 (by decide) ?_
      cases h
      exact bs_vret dX12_atom_155 rfl (Nat.zero_le _) (Nat.zero_le _) (kr _ rfl hR)
    · intro q33 e hR
      replace h := h2 q33 e
      cases h
      exact kr _ rfl hR
noncomputable def FX12_atom (m : Nat) (rS : bs_Mm → Option (bs_Mm)) (mu : bs_Mm) : Option (bs_Mm) :=
  if (bs_iv (mu m 9)) = (-1) then (
    fg_b2 (FX12_look m mu) (fun v36 mu35 => 
    FX12_atom_j16 m rS mu35 v36)
  ) else (
    FX12_atom_j16 m rS mu (-1)
  )
set_option maxHeartbeats 4000000 in
theorem wX12_atom {nx : Nat} {sh : bs_Sh} {R : Nat → Nat → Option Nat} {m : Nat} (HM : fg_S (bs_tM m) R m sh) {rS : bs_Mm → Option (bs_Mm)} {d_rS : Nat} (h_rS : ∀ {mu : bs_Mm} {q : bs_Mm}, fg_R R mu → rS mu = some q → bs_C mX12_sum (bs_rm d_rS 0 0) [.ref m] nx sh mu (fg_po R nx sh none q)) {mu : bs_Mm} (hR : fg_R R mu) {r : bs_Mm} (h : FX12_atom m rS mu = some r) : bs_C mX12_atom (bs_rm (d_rS + 3) 0 0) [.ref m] nx sh mu (fg_po R nx sh none r) := by
  refine bs_ct (by decide +kernel) (Nat.le_of_ble_eq_true rfl) ?_
  have kr : ∀ q, r = q → fg_R R q → (fg_po R nx sh none r) none nx sh q := fun q e hq => by subst e; exact ⟨rfl, rfl, rfl, rfl, hq⟩
  unfold FX12_atom at h
  refine bs_aload_n dX12_atom_0 rfl ?_
  refine bs_getI dX12_atom_1 fX12_142 (HM.s 0 rfl rfl rfl) ?_
  refine bs_iconst (v := (-1)) dX12_atom_4 (by decide) ?_
  refine bs_icmp_ne (tgt := 15) dX12_atom_5 (by decide) (fun c => ?_) (fun c => ?_)
  · replace h := fg_iN c h
    refine bs_iconst (v := (-1)) dX12_atom_15 (by decide) ?_
    refine bs_W.mk [(0, .ref m)] (by intro q hq; simp only [List.mem_cons, List.not_mem_nil, or_false] at hq; rcases hq with rfl; rfl) ?_
    exact wFX12_atom_j16 HM h_rS kr hR h
  · replace h := fg_ip c h
    refine bs_aload_n dX12_atom_8 rfl ?_
    obtain ⟨v36, mu35, k34, h⟩ := fg_b2E h
    refine fg_callV dX12_atom_9 qX12_180 (wX12_look HM hR k34) rfl (HM.s 0 rfl rfl rfl) rfl (Nat.le_of_ble_eq_true rfl) (fg_cr (by first | decide | omega) (by decide)) (fun hR => ?_)
    refine bs_goto (tgt := 16) dX12_atom_12 (by decide) ?_
    refine bs_W.mk [(0, .ref m)] (by intro q hq; simp only [List.mem_cons, List.not_mem_nil, or_false] at hq; rcases hq with rfl; rfl) ?_
    exact wFX12_atom_j16 HM h_rS kr hR h
noncomputable def FX12_newPoint (m : Nat) (mu : bs_Mm) : Option (Int32 × bs_Mm) :=
  fg_gd (fg_in (bs_iv (mu m 23)) 60) (
  fg_wr mu (m + 15) (bs_iv (mu m 23)).toNatClampNeg (.int (bs_iv (mu m 23))) (fun mu2 => 
  fg_wr mu2 m 23 (.int ((bs_iv (mu2 m 23)) + (nI 1))) (fun mu3 => 
  some (((bs_iv (mu3 m 23)) - (nI 1)), mu3))))
set_option maxHeartbeats 4000000 in
theorem wX12_newPoint {nx : Nat} {sh : bs_Sh} {R : Nat → Nat → Option Nat} {m : Nat} (HM : fg_S (bs_tM m) R m sh) {mu : bs_Mm} (hR : fg_R R mu) {r : Int32 × bs_Mm} (h : FX12_newPoint m mu = some r) : bs_C mX12_newPoint (bs_rm 0 0 0) [.ref m] nx sh mu (fg_po R nx sh (some (.int r.1)) r.2) := by
  refine bs_ct (by decide +kernel) (Nat.le_of_ble_eq_true rfl) ?_
  have kr : ∀ q, r = q → fg_R R q.2 → (fg_po R nx sh (some (.int r.1)) r.2) (some (.int q.1)) nx sh q.2 := fun q e hq => by subst e; exact ⟨rfl, rfl, rfl, rfl, hq⟩
  unfold FX12_newPoint at h
  refine bs_aload_n dX12_newPoint_0 rfl ?_
  refine fg_getR (b := (m + 15)) dX12_newPoint_1 fX12_52 (HM.s 0 rfl rfl rfl) hR (HM.r 0 21 rfl rfl rfl) ?_
  refine bs_aload_n dX12_newPoint_4 rfl ?_
  refine bs_getI dX12_newPoint_5 fX12_158 (HM.s 0 rfl rfl rfl) ?_
  refine bs_aload_n dX12_newPoint_8 rfl ?_
  refine bs_getI dX12_newPoint_9 fX12_158 (HM.s 0 rfl rfl rfl) ?_
  obtain ⟨g1, h⟩ := fg_gdE h
  refine fg_iast dX12_newPoint_12 (HM.ss 15 rfl rfl) (fun j => HM.n 15 j rfl rfl rfl) g1 hR h (fun mu2 hR h => ?_)
  refine bs_aload_n dX12_newPoint_13 rfl ?_
  refine bs_dup dX12_newPoint_14 rfl ?_
  refine bs_getI dX12_newPoint_15 fX12_158 (HM.s 0 rfl rfl rfl) ?_
  refine bs_iconst (v := (nI 1)) dX12_newPoint_18 (by decide) ?_
  refine bs_iadd dX12_newPoint_19 ?_
  refine fg_putI dX12_newPoint_20 pX12_158 (HM.s 0 rfl rfl rfl) (HM.n 0 23 rfl rfl rfl) hR h (fun mu3 hR h => ?_)
  refine bs_aload_n dX12_newPoint_23 rfl ?_
  refine bs_getI dX12_newPoint_24 fX12_158 (HM.s 0 rfl rfl rfl) ?_
  refine bs_iconst (v := (nI 1)) dX12_newPoint_27 (by decide) ?_
  refine bs_isub dX12_newPoint_28 ?_
  cases h
  exact bs_iret dX12_newPoint_29 rfl (Nat.zero_le _) (Nat.zero_le _) (kr _ rfl hR)
noncomputable def FX12_held_j108_L55_L4 (m : Nat) (mu : bs_Mm) (l1 : Int32) (l2 : Int32) (l3 : Int32) (l5 : Int32) (t0 : Int32) (t1 : Int32) : Option ((Int32 × Int32) ⊕ (Int32)) :=
  fg_gd (fg_in (((nI 24) * (bs_iv (mu m 25))) + l5) 312) (
  fg_bd (FX12_find m mu (bs_iv (mu (m + 12) (((nI 24) * (bs_iv (mu m 25))) + l5).toNatClampNeg))) (fun v13 => 
  fg_gd (fg_in l3 312) (
  fg_bd (FX12_find m mu (bs_iv (mu (m + 12) l3.toNatClampNeg))) (fun v16 => 
  if v13 = v16 then (
    some (.inl (((t0 + t1) + (nI 1)), (l5 + (nI 1))))
  ) else (
    some (.inl (((t0 + t1) + (nI 0)), (l5 + (nI 1))))
  )))))
set_option maxHeartbeats 4000000 in
theorem wFX12_held_j108_L55_L4 {nx : Nat} {sh : bs_Sh} {R : Nat → Nat → Option Nat} {m : Nat} (HM : fg_S (bs_tM m) R m sh) {mu : bs_Mm} {l1 : Int32} {l2 : Int32} {l3 : Int32} {l5 : Int32} {t0 : Int32} {t1 : Int32} {Ph : bs_Po} {r : (Int32 × Int32) ⊕ (Int32)} (ka : ∀ s, r = .inl s → bs_W Ph mX12_held (bs_rm 1 0 0) 55 (bs_mk [(0, .ref m), (1, .int l1), (2, .int l2), (3, .int l3), (4, .int s.1), (5, .int s.2)]) [] 0 0 nx sh mu) (ke : ∀ s, r = .inr s → bs_W Ph mX12_held (bs_rm 1 0 0) 159 (bs_mk [(0, .ref m), (1, .int l1), (2, .int l2), (3, .int l3), (4, .int s)]) [] 0 0 nx sh mu) (hR : fg_R R mu) (h : FX12_held_j108_L55_L4 m mu l1 l2 l3 l5 t0 t1 = some r) : bs_W Ph mX12_held (bs_rm 1 0 0) 108 (bs_mk [(0, .ref m), (1, .int l1), (2, .int l2), (3, .int l3), (5, .int l5)]) [.int t1, .int t0] 0 0 nx sh mu := by
  unfold FX12_held_j108_L55_L4 at h
  refine bs_iadd dX12_held_108 ?_
  refine bs_istore dX12_held_109 rfl (by decide) ?_
  refine bs_iload dX12_held_111 rfl ?_
  refine bs_aload_n dX12_held_113 rfl ?_
  refine bs_aload_n dX12_held_114 rfl ?_
  refine fg_getR (b := (m + 12)) dX12_held_115 fX12_43 (HM.s 0 rfl rfl rfl) hR (HM.r 0 17 rfl rfl rfl) ?_
  refine bs_bipush (v := (nI 24)) dX12_held_118 (by decide) ?_
  refine bs_aload_n dX12_held_120 rfl ?_
  refine bs_getI dX12_held_121 fX12_161 (HM.s 0 rfl rfl rfl) ?_
  refine bs_imul dX12_held_124 ?_
  refine bs_iload dX12_held_125 rfl ?_
  refine bs_iadd dX12_held_127 ?_
  obtain ⟨g11, h⟩ := fg_gdE h
  refine bs_iald dX12_held_128 (HM.ss 12 rfl rfl) (fg_in_ix g11) ?_
  obtain ⟨v13, k12, h⟩ := fg_bdE h
  refine fg_callV dX12_held_129 qX12_145 (wX12_find HM hR k12) rfl (HM.s 0 rfl rfl rfl) rfl (Nat.le_of_ble_eq_true rfl) (fg_cr (by first | decide | omega) (by decide)) (fun hR => ?_)
  refine bs_aload_n dX12_held_132 rfl ?_
  refine bs_aload_n dX12_held_133 rfl ?_
  refine fg_getR (b := (m + 12)) dX12_held_134 fX12_43 (HM.s 0 rfl rfl rfl) hR (HM.r 0 17 rfl rfl rfl) ?_
  refine bs_iload_n dX12_held_137 rfl ?_
  obtain ⟨g14, h⟩ := fg_gdE h
  refine bs_iald dX12_held_138 (HM.ss 12 rfl rfl) (fg_in_ix g14) ?_
  obtain ⟨v16, k15, h⟩ := fg_bdE h
  refine fg_callV dX12_held_139 qX12_145 (wX12_find HM hR k15) rfl (HM.s 0 rfl rfl rfl) rfl (Nat.le_of_ble_eq_true rfl) (fg_cr (by first | decide | omega) (by decide)) (fun hR => ?_)
  refine bs_icmp_ne (tgt := 149) dX12_held_142 (by decide) (fun c => ?_) (fun c => ?_)
  · replace h := fg_iN c h
    refine bs_iconst (v := (nI 0)) dX12_held_149 (by decide) ?_
    refine bs_iadd dX12_held_150 ?_
    refine bs_istore dX12_held_151 rfl (by decide) ?_
    refine fg_iinc (m := (nI 1)) dX12_held_153 rfl rfl (by decide) ?_
    refine bs_goto (tgt := 55) dX12_held_156 (by decide) ?_
    cases h
    refine bs_W.mk [(0, .ref m), (1, .int l1), (2, .int l2), (3, .int l3), (4, .int ((t0 + t1) + (nI 0))), (5, .int (l5 + (nI 1)))] (by intro q hq; simp only [List.mem_cons, List.not_mem_nil, or_false] at hq; rcases hq with rfl | rfl | rfl | rfl | rfl | rfl <;> rfl) (by have k := ka _ rfl; dsimp only at k; exact k)
  · replace h := fg_ip c h
    refine bs_iconst (v := (nI 1)) dX12_held_145 (by decide) ?_
    refine bs_goto (tgt := 150) dX12_held_146 (by decide) ?_
    refine bs_iadd dX12_held_150 ?_
    refine bs_istore dX12_held_151 rfl (by decide) ?_
    refine fg_iinc (m := (nI 1)) dX12_held_153 rfl rfl (by decide) ?_
    refine bs_goto (tgt := 55) dX12_held_156 (by decide) ?_
    cases h
    refine bs_W.mk [(0, .ref m), (1, .int l1), (2, .int l2), (3, .int l3), (4, .int ((t0 + t1) + (nI 1))), (5, .int (l5 + (nI 1)))] (by intro q hq; simp only [List.mem_cons, List.not_mem_nil, or_false] at hq; rcases hq with rfl | rfl | rfl | rfl | rfl | rfl <;> rfl) (by have k := ka _ rfl; dsimp only at k; exact k)
noncomputable def FX12_held_b55_L4 (m : Nat) (mu : bs_Mm) (l1 : Int32) (l2 : Int32) (l3 : Int32) (s : Int32 × Int32) : Option ((Int32 × Int32) ⊕ (Int32)) :=
  fg_gd (fg_in (bs_iv (mu m 25)) 13) (
  if (bs_iv (mu (m + 8) (bs_iv (mu m 25)).toNatClampNeg)) ≤ s.2 then (
    some (.inr s.1)
  ) else (
    fg_gd (fg_in (((nI 24) * (bs_iv (mu m 25))) + s.2) 312) (
    fg_bd (FX12_find m mu (bs_iv (mu (m + 11) (((nI 24) * (bs_iv (mu m 25))) + s.2).toNatClampNeg))) (fun v7 => 
    fg_gd (fg_in l3 312) (
    fg_bd (FX12_find m mu (bs_iv (mu (m + 12) l3.toNatClampNeg))) (fun v10 => 
    if v7 = v10 then (
      FX12_held_j108_L55_L4 m mu l1 l2 l3 s.2 s.1 (nI 1)
    ) else (
      FX12_held_j108_L55_L4 m mu l1 l2 l3 s.2 s.1 (nI 0)
    )))))
  ))
set_option maxHeartbeats 4000000 in
theorem wFX12_held_b55_L4 {nx : Nat} {sh : bs_Sh} {R : Nat → Nat → Option Nat} {m : Nat} (HM : fg_S (bs_tM m) R m sh) {mu : bs_Mm} {l1 : Int32} {l2 : Int32} {l3 : Int32} {Ph : bs_Po} {s : Int32 × Int32} {r : (Int32 × Int32) ⊕ (Int32)} (ka : ∀ s, r = .inl s → bs_W Ph mX12_held (bs_rm 1 0 0) 55 (bs_mk [(0, .ref m), (1, .int l1), (2, .int l2), (3, .int l3), (4, .int s.1), (5, .int s.2)]) [] 0 0 nx sh mu) (ke : ∀ s, r = .inr s → bs_W Ph mX12_held (bs_rm 1 0 0) 159 (bs_mk [(0, .ref m), (1, .int l1), (2, .int l2), (3, .int l3), (4, .int s)]) [] 0 0 nx sh mu) (hR : fg_R R mu) (h : FX12_held_b55_L4 m mu l1 l2 l3 s = some r) : bs_W Ph mX12_held (bs_rm 1 0 0) 55 (bs_mk [(0, .ref m), (1, .int l1), (2, .int l2), (3, .int l3), (4, .int s.1), (5, .int s.2)]) [] 0 0 nx sh mu := by
  unfold FX12_held_b55_L4 at h
  refine bs_iload dX12_held_55 rfl ?_
  refine bs_aload_n dX12_held_57 rfl ?_
  refine fg_getR (b := (m + 8)) dX12_held_58 fX12_31 (HM.s 0 rfl rfl rfl) hR (HM.r 0 13 rfl rfl rfl) ?_
  refine bs_aload_n dX12_held_61 rfl ?_
  refine bs_getI dX12_held_62 fX12_161 (HM.s 0 rfl rfl rfl) ?_
  obtain ⟨g4, h⟩ := fg_gdE h
  refine bs_iald dX12_held_65 (HM.ss 8 rfl rfl) (fg_in_ix g4) ?_
  refine bs_icmp_ge (tgt := 159) dX12_held_66 (by decide) (fun c => ?_) (fun c => ?_)
  · replace h := fg_ip c h
    cases h
    refine bs_W.mk [(0, .ref m), (1, .int l1), (2, .int l2), (3, .int l3), (4, .int s.1)] (by intro q hq; simp only [List.mem_cons, List.not_mem_nil, or_false] at hq; rcases hq with rfl | rfl | rfl | rfl | rfl <;> rfl) (ke _ rfl)
  · replace h := fg_iN c h
    refine bs_iload dX12_held_69 rfl ?_
    refine bs_aload_n dX12_held_71 rfl ?_
    refine bs_aload_n dX12_held_72 rfl ?_
    refine fg_getR (b := (m + 11)) dX12_held_73 fX12_40 (HM.s 0 rfl rfl rfl) hR (HM.r 0 16 rfl rfl rfl) ?_
    refine bs_bipush (v := (nI 24)) dX12_held_76 (by decide) ?_
    refine bs_aload_n dX12_held_78 rfl ?_
    refine bs_getI dX12_held_79 fX12_161 (HM.s 0 rfl rfl rfl) ?_
    refine bs_imul dX12_held_82 ?_
    refine bs_iload dX12_held_83 rfl ?_
    refine bs_iadd dX12_held_85 ?_
    obtain ⟨g5, h⟩ := fg_gdE h
    refine bs_iald dX12_held_86 (HM.ss 11 rfl rfl) (fg_in_ix g5) ?_
    obtain ⟨v7, k6, h⟩ := fg_bdE h
    refine fg_callV dX12_held_87 qX12_145 (wX12_find HM hR k6) rfl (HM.s 0 rfl rfl rfl) rfl (Nat.le_of_ble_eq_true rfl) (fg_cr (by first | decide | omega) (by decide)) (fun hR => ?_)
    refine bs_aload_n dX12_held_90 rfl ?_
    refine bs_aload_n dX12_held_91 rfl ?_
    refine fg_getR (b := (m + 12)) dX12_held_92 fX12_43 (HM.s 0 rfl rfl rfl) hR (HM.r 0 17 rfl rfl rfl) ?_
    refine bs_iload_n dX12_held_95 rfl ?_
    obtain ⟨g8, h⟩ := fg_gdE h
    refine bs_iald dX12_held_96 (HM.ss 12 rfl rfl) (fg_in_ix g8) ?_
    obtain ⟨v10, k9, h⟩ := fg_bdE h
    refine fg_callV dX12_held_97 qX12_145 (wX12_find HM hR k9) rfl (HM.s 0 rfl rfl rfl) rfl (Nat.le_of_ble_eq_true rfl) (fg_cr (by first | decide | omega) (by decide)) (fun hR => ?_)
    refine bs_icmp_ne (tgt := 107) dX12_held_100 (by decide) (fun c => ?_) (fun c => ?_)
    · replace h := fg_iN c h
      refine bs_iconst (v := (nI 0)) dX12_held_107 (by decide) ?_
      refine bs_W.mk [(0, .ref m), (1, .int l1), (2, .int l2), (3, .int l3), (5, .int s.2)] (by intro q hq; simp only [List.mem_cons, List.not_mem_nil, or_false] at hq; rcases hq with rfl | rfl | rfl | rfl | rfl <;> rfl) ?_
      exact wFX12_held_j108_L55_L4 HM ka ke hR h
    · replace h := fg_ip c h
      refine bs_iconst (v := (nI 1)) dX12_held_103 (by decide) ?_
      refine bs_goto (tgt := 108) dX12_held_104 (by decide) ?_
      refine bs_W.mk [(0, .ref m), (1, .int l1), (2, .int l2), (3, .int l3), (5, .int s.2)] (by intro q hq; simp only [List.mem_cons, List.not_mem_nil, or_false] at hq; rcases hq with rfl | rfl | rfl | rfl | rfl <;> rfl) ?_
      exact wFX12_held_j108_L55_L4 HM ka ke hR h
theorem wFX12_held_l55_L4 {nx : Nat} {sh : bs_Sh} {R : Nat → Nat → Option Nat} {m : Nat} (HM : fg_S (bs_tM m) R m sh) {mu : bs_Mm} {l1 : Int32} {l2 : Int32} {l3 : Int32} {Ph : bs_Po} {t : Int32} : ∀ n (y0 : Int32) (y1 : Int32), fg_lp (FX12_held_b55_L4 m mu l1 l2 l3) n (y0, y1) = some t → fg_R R mu → (ke : ∀ s, t = s → bs_W Ph mX12_held (bs_rm 1 0 0) 159 (bs_mk [(0, .ref m), (1, .int l1), (2, .int l2), (3, .int l3), (4, .int s)]) [] 0 0 nx sh mu) → bs_W Ph mX12_held (bs_rm 1 0 0) 55 (bs_mk [(0, .ref m), (1, .int l1), (2, .int l2), (3, .int l3), (4, .int y0), (5, .int y1)]) [] 0 0 nx sh mu := by
  intro n
  induction n with
  | zero => intro y0 y1 h; exact absurd h (fun z => fg_lp0 z)
  | succ n ih =>
    intro y0 y1 h hR ke
    obtain ⟨r, hb, h1, h2⟩ := fg_lpE h
    exact wFX12_held_b55_L4 (s := (y0, y1)) HM (fun s' e => ih s'.1 s'.2 (h1 s' e) hR ke) (fun s' e => ke s' (h2 _ e).symm) hR hb
noncomputable def FX12_held_b4 (m : Nat) (mu : bs_Mm) (s : Int32 × Int32) : Option ((Int32 × Int32) ⊕ (Int32)) :=
  fg_gd (fg_in (bs_iv (mu m 25)) 13) (
  if (bs_iv (mu (m + 8) (bs_iv (mu m 25)).toNatClampNeg)) ≤ (s.2 + (nI 1)) then (
    some (.inr s.1)
  ) else (
    fg_gd (fg_in (((nI 24) * (bs_iv (mu m 25))) + s.2) 312) (
    fg_gd (fg_in ((((nI 24) * (bs_iv (mu m 25))) + s.2) + (nI 1)) 312) (
    if (bs_iv (mu (m + 13) (((nI 24) * (bs_iv (mu m 25))) + s.2).toNatClampNeg)) = (bs_iv (mu (m + 13) ((((nI 24) * (bs_iv (mu m 25))) + s.2) + (nI 1)).toNatClampNeg)) then (
      fg_bd (fg_lp (FX12_held_b55_L4 m mu s.1 s.2 (((nI 24) * (bs_iv (mu m 25))) + s.2)) fg_fu ((nI 0), (nI 0))) (fun t17 => 
        if (nI 3) ≤ t17 then (
          some (.inl ((s.1 + (nI 0)), (s.2 + (nI 1))))
        ) else (
          some (.inl ((s.1 + (nI 1)), (s.2 + (nI 1))))
        )
      )
    ) else (
      some (.inl (s.1, (s.2 + (nI 1))))
    )))
  ))
set_option maxHeartbeats 4000000 in
theorem wFX12_held_b4 {nx : Nat} {sh : bs_Sh} {R : Nat → Nat → Option Nat} {m : Nat} (HM : fg_S (bs_tM m) R m sh) {mu : bs_Mm} {Ph : bs_Po} {s : Int32 × Int32} {r : (Int32 × Int32) ⊕ (Int32)} (ka : ∀ s, r = .inl s → bs_W Ph mX12_held (bs_rm 1 0 0) 4 (bs_mk [(0, .ref m), (1, .int s.1), (2, .int s.2)]) [] 0 0 nx sh mu) (ke : ∀ s, r = .inr s → bs_W Ph mX12_held (bs_rm 1 0 0) 179 (bs_mk [(0, .ref m), (1, .int s)]) [] 0 0 nx sh mu) (hR : fg_R R mu) (h : FX12_held_b4 m mu s = some r) : bs_W Ph mX12_held (bs_rm 1 0 0) 4 (bs_mk [(0, .ref m), (1, .int s.1), (2, .int s.2)]) [] 0 0 nx sh mu := by
  unfold FX12_held_b4 at h
  refine bs_iload_n dX12_held_4 rfl ?_
  refine bs_iconst (v := (nI 1)) dX12_held_5 (by decide) ?_
  refine bs_iadd dX12_held_6 ?_
  refine bs_aload_n dX12_held_7 rfl ?_
  refine fg_getR (b := (m + 8)) dX12_held_8 fX12_31 (HM.s 0 rfl rfl rfl) hR (HM.r 0 13 rfl rfl rfl) ?_
  refine bs_aload_n dX12_held_11 rfl ?_
  refine bs_getI dX12_held_12 fX12_161 (HM.s 0 rfl rfl rfl) ?_
  obtain ⟨g1, h⟩ := fg_gdE h
  refine bs_iald dX12_held_15 (HM.ss 8 rfl rfl) (fg_in_ix g1) ?_
  refine bs_icmp_ge (tgt := 179) dX12_held_16 (by decide) (fun c => ?_) (fun c => ?_)
  · replace h := fg_ip c h
    cases h
    refine bs_W.mk [(0, .ref m), (1, .int s.1)] (by intro q hq; simp only [List.mem_cons, List.not_mem_nil, or_false] at hq; rcases hq with rfl | rfl <;> rfl) (ke _ rfl)
  · replace h := fg_iN c h
    refine bs_bipush (v := (nI 24)) dX12_held_19 (by decide) ?_
    refine bs_aload_n dX12_held_21 rfl ?_
    refine bs_getI dX12_held_22 fX12_161 (HM.s 0 rfl rfl rfl) ?_
    refine bs_imul dX12_held_25 ?_
    refine bs_iload_n dX12_held_26 rfl ?_
    refine bs_iadd dX12_held_27 ?_
    refine bs_istore_n dX12_held_28 rfl (by decide) ?_
    refine bs_aload_n dX12_held_29 rfl ?_
    refine fg_getR (b := (m + 13)) dX12_held_30 fX12_46 (HM.s 0 rfl rfl rfl) hR (HM.r 0 18 rfl rfl rfl) ?_
    refine bs_iload_n dX12_held_33 rfl ?_
    obtain ⟨g2, h⟩ := fg_gdE h
    refine bs_iald dX12_held_34 (HM.ss 13 rfl rfl) (fg_in_ix g2) ?_
    refine bs_aload_n dX12_held_35 rfl ?_
    refine fg_getR (b := (m + 13)) dX12_held_36 fX12_46 (HM.s 0 rfl rfl rfl) hR (HM.r 0 18 rfl rfl rfl) ?_
    refine bs_iload_n dX12_held_39 rfl ?_
    refine bs_iconst (v := (nI 1)) dX12_held_40 (by decide) ?_
    refine bs_iadd dX12_held_41 ?_
    obtain ⟨g3, h⟩ := fg_gdE h
    refine bs_iald dX12_held_42 (HM.ss 13 rfl rfl) (fg_in_ix g3) ?_
    refine bs_icmp_eq (tgt := 49) dX12_held_43 (by decide) (fun c => ?_) (fun c => ?_)
    · replace h := fg_ip c h
      refine bs_iconst (v := (nI 0)) dX12_held_49 (by decide) ?_
      refine bs_istore dX12_held_50 rfl (by decide) ?_
      refine bs_iconst (v := (nI 0)) dX12_held_52 (by decide) ?_
      refine bs_istore dX12_held_53 rfl (by decide) ?_
      obtain ⟨t17, k18, h⟩ := fg_bdE h
      refine bs_W.mk [(0, .ref m), (1, .int s.1), (2, .int s.2), (3, .int (((nI 24) * (bs_iv (mu m 25))) + s.2)), (4, .int (nI 0)), (5, .int (nI 0))] (by intro q hq; simp only [List.mem_cons, List.not_mem_nil, or_false] at hq; rcases hq with rfl | rfl | rfl | rfl | rfl | rfl <;> rfl) ?_
      refine wFX12_held_l55_L4 HM _ _ _ k18 hR ?_
      intro s e
      subst e
      refine bs_iload_n dX12_held_159 rfl ?_
      refine bs_iload dX12_held_160 rfl ?_
      refine bs_iconst (v := (nI 3)) dX12_held_162 (by decide) ?_
      refine bs_icmp_ge (tgt := 170) dX12_held_163 (by decide) (fun c => ?_) (fun c => ?_)
      · replace h := fg_ip c h
        refine bs_iconst (v := (nI 0)) dX12_held_170 (by decide) ?_
        refine bs_iadd dX12_held_171 ?_
        refine bs_istore_n dX12_held_172 rfl (by decide) ?_
        refine fg_iinc (m := (nI 1)) dX12_held_173 rfl rfl (by decide) ?_
        refine bs_goto (tgt := 4) dX12_held_176 (by decide) ?_
        cases h
        refine bs_W.mk [(0, .ref m), (1, .int (s.1 + (nI 0))), (2, .int (s.2 + (nI 1)))] (by intro q hq; simp only [List.mem_cons, List.not_mem_nil, or_false] at hq; rcases hq with rfl | rfl | rfl <;> rfl) (by have k := ka _ rfl; dsimp only at k; exact k)
      · replace h := fg_iN c h
        refine bs_iconst (v := (nI 1)) dX12_held_166 (by decide) ?_
        refine bs_goto (tgt := 171) dX12_held_167 (by decide) ?_
        refine bs_iadd dX12_held_171 ?_
        refine bs_istore_n dX12_held_172 rfl (by decide) ?_
        refine fg_iinc (m := (nI 1)) dX12_held_173 rfl rfl (by decide) ?_
        refine bs_goto (tgt := 4) dX12_held_176 (by decide) ?_
        cases h
        refine bs_W.mk [(0, .ref m), (1, .int (s.1 + (nI 1))), (2, .int (s.2 + (nI 1)))] (by intro q hq; simp only [List.mem_cons, List.not_mem_nil, or_false] at hq; rcases hq with rfl | rfl | rfl <;> rfl) (by have k := ka _ rfl; dsimp only at k; exact k)
    · replace h := fg_iN c h
      refine bs_goto (tgt := 173) dX12_held_46 (by decide) ?_
      refine fg_iinc (m := (nI 1)) dX12_held_173 rfl rfl (by decide) ?_
      refine bs_goto (tgt := 4) dX12_held_176 (by decide) ?_
      cases h
      refine bs_W.mk [(0, .ref m), (1, .int s.1), (2, .int (s.2 + (nI 1)))] (by intro q hq; simp only [List.mem_cons, List.not_mem_nil, or_false] at hq; rcases hq with rfl | rfl | rfl <;> rfl) (by have k := ka _ rfl; dsimp only at k; exact k)
theorem wFX12_held_l4 {nx : Nat} {sh : bs_Sh} {R : Nat → Nat → Option Nat} {m : Nat} (HM : fg_S (bs_tM m) R m sh) {mu : bs_Mm} {Ph : bs_Po} {t : Int32} : ∀ n (y0 : Int32) (y1 : Int32), fg_lp (FX12_held_b4 m mu) n (y0, y1) = some t → fg_R R mu → (ke : ∀ s, t = s → bs_W Ph mX12_held (bs_rm 1 0 0) 179 (bs_mk [(0, .ref m), (1, .int s)]) [] 0 0 nx sh mu) → bs_W Ph mX12_held (bs_rm 1 0 0) 4 (bs_mk [(0, .ref m), (1, .int y0), (2, .int y1)]) [] 0 0 nx sh mu := by
  intro n
  induction n with
  | zero => intro y0 y1 h; exact absurd h (fun z => fg_lp0 z)
  | succ n ih =>
    intro y0 y1 h hR ke
    obtain ⟨r, hb, h1, h2⟩ := fg_lpE h
    exact wFX12_held_b4 (s := (y0, y1)) HM (fun s' e => ih s'.1 s'.2 (h1 s' e) hR ke) (fun s' e => ke s' (h2 _ e).symm) hR hb
noncomputable def FX12_held (m : Nat) (mu : bs_Mm) : Option (Int32) :=
  fg_bd (fg_lp (FX12_held_b4 m mu) fg_fu ((nI 0), (nI 0))) (fun t19 => 
    some (t19)
  )
set_option maxHeartbeats 4000000 in
theorem wX12_held {nx : Nat} {sh : bs_Sh} {R : Nat → Nat → Option Nat} {m : Nat} (HM : fg_S (bs_tM m) R m sh) {mu : bs_Mm} (hR : fg_R R mu) {r : Int32} (h : FX12_held m mu = some r) : bs_C mX12_held (bs_rm 1 0 0) [.ref m] nx sh mu (fg_po R nx sh (some (.int r)) mu) := by
  refine bs_ct (by decide +kernel) (Nat.le_of_ble_eq_true rfl) ?_
  have kr : ∀ q, r = q → fg_R R mu → (fg_po R nx sh (some (.int r)) mu) (some (.int q)) nx sh mu := fun q e hq => by subst e; exact ⟨rfl, rfl, rfl, rfl, hq⟩
  unfold FX12_held at h
  refine bs_iconst (v := (nI 0)) dX12_held_0 (by decide) ?_
  refine bs_istore_n dX12_held_1 rfl (by decide) ?_
  refine bs_iconst (v := (nI 0)) dX12_held_2 (by decide) ?_
  refine bs_istore_n dX12_held_3 rfl (by decide) ?_
  obtain ⟨t19, k20, h⟩ := fg_bdE h
  refine bs_W.mk [(0, .ref m), (1, .int (nI 0)), (2, .int (nI 0))] (by intro q hq; simp only [List.mem_cons, List.not_mem_nil, or_false] at hq; rcases hq with rfl | rfl | rfl <;> rfl) ?_
  refine wFX12_held_l4 HM _ _ _ k20 hR ?_
  intro s e
  subst e
  refine bs_iload_n dX12_held_179 rfl ?_
  cases h
  exact bs_iret dX12_held_180 rfl (Nat.zero_le _) (Nat.zero_le _) (kr _ rfl hR)
noncomputable def FX12_bubble_j70 (m : Nat) (mu : bs_Mm) (l1 : Int32) : Option (bs_Mm) :=
  fg_bd (FX12_in m mu l1 (nI 1) (nI 30)) (fun v10 => 
  if v10 = 0 then (
    fg_wr mu m 8 (.int ((bs_iv (mu m 8)) - (nI 1))) (fun mu39 => 
    fg_bd (FX12_bad m mu39) (fun mu41 => 
    some mu41))
  ) else (
    fg_bd (FX12_here m mu) (fun v12 => 
    fg_bd (FX12_isDigit m mu v12) (fun v14 => 
    if v14 = 0 then (
      fg_gd (fg_in (bs_iv (mu m 25)) 13) (
      fg_gd (fg_in (((nI 24) * (bs_iv (mu m 25))) + (bs_iv (mu (m + 8) (bs_iv (mu m 25)).toNatClampNeg))) 312) (
      fg_wr mu (m + 10) (((nI 24) * (bs_iv (mu m 25))) + (bs_iv (mu (m + 8) (bs_iv (mu m 25)).toNatClampNeg))).toNatClampNeg (.int l1) (fun mu17 => 
      fg_gd (fg_in (bs_iv (mu17 m 25)) 13) (
      fg_gd (fg_in (((nI 24) * (bs_iv (mu m 25))) + (bs_iv (mu (m + 8) (bs_iv (mu m 25)).toNatClampNeg))) 312) (
      fg_wr mu17 (m + 13) (((nI 24) * (bs_iv (mu m 25))) + (bs_iv (mu (m + 8) (bs_iv (mu m 25)).toNatClampNeg))).toNatClampNeg (.int ((bs_iv (mu17 (m + 6) (bs_iv (mu17 m 25)).toNatClampNeg)) - (nI 1))) (fun mu20 => 
      fg_gd (fg_in (((nI 24) * (bs_iv (mu m 25))) + (bs_iv (mu (m + 8) (bs_iv (mu m 25)).toNatClampNeg))) 312) (
      fg_wr mu20 (m + 11) (((nI 24) * (bs_iv (mu m 25))) + (bs_iv (mu (m + 8) (bs_iv (mu m 25)).toNatClampNeg))).toNatClampNeg (.int (bs_iv (mu20 m 24))) (fun mu22 => 
      fg_b2 (FX12_newPoint m mu22) (fun v25 mu24 => 
      fg_wr mu24 m 24 (.int v25) (fun mu26 => 
      fg_gd (fg_in (((nI 24) * (bs_iv (mu m 25))) + (bs_iv (mu (m + 8) (bs_iv (mu m 25)).toNatClampNeg))) 312) (
      fg_wr mu26 (m + 12) (((nI 24) * (bs_iv (mu m 25))) + (bs_iv (mu (m + 8) (bs_iv (mu m 25)).toNatClampNeg))).toNatClampNeg (.int (bs_iv (mu26 m 24))) (fun mu28 => 
      fg_gd (fg_in (bs_iv (mu28 m 25)) 13) (
      fg_gd (fg_in (bs_iv (mu28 m 25)) 13) (
      fg_wr mu28 (m + 8) (bs_iv (mu28 m 25)).toNatClampNeg (.int ((bs_iv (mu28 (m + 8) (bs_iv (mu28 m 25)).toNatClampNeg)) + (nI 1))) (fun mu31 => 
      fg_gd (fg_in (bs_iv (mu31 m 25)) 13) (
      fg_bd (FX12_held m mu31) (fun v34 => 
      fg_gd (fg_in (bs_iv (mu31 m 25)) 13) (
      fg_wr mu31 (m + 14) (bs_iv (mu31 m 25)).toNatClampNeg (.int (if (bs_iv (mu31 (m + 14) (bs_iv (mu31 m 25)).toNatClampNeg)) < v34 then v34 else (bs_iv (mu31 (m + 14) (bs_iv (mu31 m 25)).toNatClampNeg)))) (fun mu36 => 
      some mu36)))))))))))))))))))
    ) else (
      fg_bd (FX12_bad m mu) (fun mu38 => 
      some mu38)
    )))
  ))
set_option maxHeartbeats 4000000 in
theorem wFX12_bubble_j70 {nx : Nat} {sh : bs_Sh} {R : Nat → Nat → Option Nat} {m : Nat} (HM : fg_S (bs_tM m) R m sh) {mu : bs_Mm} {l1 : Int32} {Ph : bs_Po} {r : bs_Mm} (kr : ∀ q, r = q → fg_R R q → Ph none nx sh q) (hR : fg_R R mu) (h : FX12_bubble_j70 m mu l1 = some r) : bs_W Ph mX12_bubble (bs_rm 2 0 0) 70 (bs_mk [(0, .ref m), (1, .int l1)]) [] 0 0 nx sh mu := by
  unfold FX12_bubble_j70 at h
  refine bs_iload_n dX12_bubble_70 rfl ?_
  refine bs_iconst (v := (nI 1)) dX12_bubble_71 (by decide) ?_
  refine bs_bipush (v := (nI 30)) dX12_bubble_72 (by decide) ?_
  obtain ⟨v10, k9, h⟩ := fg_bdE h
  refine fg_callS dX12_bubble_74 qX12_121 (wX12_in HM hR k9) rfl rfl (Nat.le_of_ble_eq_true rfl) (fg_cr (by first | decide | omega) (by decide)) (fun hR => ?_)
  refine bs_if_ne (tgt := 95) dX12_bubble_77 (by decide) (fun c => ?_) (fun c => ?_)
  · replace h := fg_iN c h
    refine bs_aload_n dX12_bubble_95 rfl ?_
    obtain ⟨v12, k11, h⟩ := fg_bdE h
    refine fg_callV dX12_bubble_96 qX12_138 (wX12_here HM hR k11) rfl (HM.s 0 rfl rfl rfl) rfl (Nat.le_of_ble_eq_true rfl) (fg_cr (by first | decide | omega) (by decide)) (fun hR => ?_)
    obtain ⟨v14, k13, h⟩ := fg_bdE h
    refine fg_callS dX12_bubble_99 qX12_167 (wX12_isDigit HM hR k13) rfl rfl (Nat.le_of_ble_eq_true rfl) (fg_cr (by first | decide | omega) (by decide)) (fun hR => ?_)
    refine bs_if_eq (tgt := 110) dX12_bubble_102 (by decide) (fun c => ?_) (fun c => ?_)
    · replace h := fg_ip c h
      refine bs_bipush (v := (nI 24)) dX12_bubble_110 (by decide) ?_
      refine bs_aload_n dX12_bubble_112 rfl ?_
      refine bs_getI dX12_bubble_113 fX12_161 (HM.s 0 rfl rfl rfl) ?_
      refine bs_imul dX12_bubble_116 ?_
      refine bs_aload_n dX12_bubble_117 rfl ?_
      refine fg_getR (b := (m + 8)) dX12_bubble_118 fX12_31 (HM.s 0 rfl rfl rfl) hR (HM.r 0 13 rfl rfl rfl) ?_
      refine bs_aload_n dX12_bubble_121 rfl ?_
      refine bs_getI dX12_bubble_122 fX12_161 (HM.s 0 rfl rfl rfl) ?_
      obtain ⟨g15, h⟩ := fg_gdE h
      refine bs_iald dX12_bubble_125 (HM.ss 8 rfl rfl) (fg_in_ix g15) ?_
      refine bs_iadd dX12_bubble_126 ?_
      refine bs_istore_n dX12_bubble_127 rfl (by decide) ?_
      refine bs_aload_n dX12_bubble_128 rfl ?_
      refine fg_getR (b := (m + 10)) dX12_bubble_129 fX12_37 (HM.s 0 rfl rfl rfl) hR (HM.r 0 15 rfl rfl rfl) ?_
      refine bs_iload_n dX12_bubble_132 rfl ?_
      refine bs_iload_n dX12_bubble_133 rfl ?_
      obtain ⟨g16, h⟩ := fg_gdE h
      refine fg_iast dX12_bubble_134 (HM.ss 10 rfl rfl) (fun j => HM.n 10 j rfl rfl rfl) g16 hR h (fun mu17 hR h => ?_)
      refine bs_aload_n dX12_bubble_135 rfl ?_
      refine fg_getR (b := (m + 13)) dX12_bubble_136 fX12_46 (HM.s 0 rfl rfl rfl) hR (HM.r 0 18 rfl rfl rfl) ?_
      refine bs_iload_n dX12_bubble_139 rfl ?_
      refine bs_aload_n dX12_bubble_140 rfl ?_
      refine fg_getR (b := (m + 6)) dX12_bubble_141 fX12_25 (HM.s 0 rfl rfl rfl) hR (HM.r 0 11 rfl rfl rfl) ?_
      refine bs_aload_n dX12_bubble_144 rfl ?_
      refine bs_getI dX12_bubble_145 fX12_161 (HM.s 0 rfl rfl rfl) ?_
      obtain ⟨g18, h⟩ := fg_gdE h
      refine bs_iald dX12_bubble_148 (HM.ss 6 rfl rfl) (fg_in_ix g18) ?_
      refine bs_iconst (v := (nI 1)) dX12_bubble_149 (by decide) ?_
      refine bs_isub dX12_bubble_150 ?_
      obtain ⟨g19, h⟩ := fg_gdE h
      refine fg_iast dX12_bubble_151 (HM.ss 13 rfl rfl) (fun j => HM.n 13 j rfl rfl rfl) g19 hR h (fun mu20 hR h => ?_)
      refine bs_aload_n dX12_bubble_152 rfl ?_
      refine fg_getR (b := (m + 11)) dX12_bubble_153 fX12_40 (HM.s 0 rfl rfl rfl) hR (HM.r 0 16 rfl rfl rfl) ?_
      refine bs_iload_n dX12_bubble_156 rfl ?_
      refine bs_aload_n dX12_bubble_157 rfl ?_
      refine bs_getI dX12_bubble_158 fX12_171 (HM.s 0 rfl rfl rfl) ?_
      obtain ⟨g21, h⟩ := fg_gdE h
      refine fg_iast dX12_bubble_161 (HM.ss 11 rfl rfl) (fun j => HM.n 11 j rfl rfl rfl) g21 hR h (fun mu22 hR h => ?_)
      refine bs_aload_n dX12_bubble_162 rfl ?_
      refine bs_aload_n dX12_bubble_163 rfl ?_
      obtain ⟨v25, mu24, k23, h⟩ := fg_b2E h
      refine fg_callV dX12_bubble_164 qX12_174 (wX12_newPoint HM hR k23) rfl (HM.s 0 rfl rfl rfl) rfl (Nat.le_of_ble_eq_true rfl) (fg_cr (by first | decide | omega) (by decide)) (fun hR => ?_)
      refine fg_putI dX12_bubble_167 pX12_171 (HM.s 0 rfl rfl rfl) (HM.n 0 24 rfl rfl rfl) hR h (fun mu26 hR h => ?_)
      refine bs_aload_n dX12_bubble_170 rfl ?_
      refine fg_getR (b := (m + 12)) dX12_bubble_171 fX12_43 (HM.s 0 rfl rfl rfl) hR (HM.r 0 17 rfl rfl rfl) ?_
      refine bs_iload_n dX12_bubble_174 rfl ?_
      refine bs_aload_n dX12_bubble_175 rfl ?_
      refine bs_getI dX12_bubble_176 fX12_171 (HM.s 0 rfl rfl rfl) ?_
      obtain ⟨g27, h⟩ := fg_gdE h
      refine fg_iast dX12_bubble_179 (HM.ss 12 rfl rfl) (fun j => HM.n 12 j rfl rfl rfl) g27 hR h (fun mu28 hR h => ?_)
      refine bs_aload_n dX12_bubble_180 rfl ?_
      refine fg_getR (b := (m + 8)) dX12_bubble_181 fX12_31 (HM.s 0 rfl rfl rfl) hR (HM.r 0 13 rfl rfl rfl) ?_
      refine bs_aload_n dX12_bubble_184 rfl ?_
      refine bs_getI dX12_bubble_185 fX12_161 (HM.s 0 rfl rfl rfl) ?_
      refine bs_dup2 dX12_bubble_188 rfl rfl ?_
      obtain ⟨g29, h⟩ := fg_gdE h
      refine bs_iald dX12_bubble_189 (HM.ss 8 rfl rfl) (fg_in_ix g29) ?_
      refine bs_iconst (v := (nI 1)) dX12_bubble_190 (by decide) ?_
      refine bs_iadd dX12_bubble_191 ?_
      obtain ⟨g30, h⟩ := fg_gdE h
      refine fg_iast dX12_bubble_192 (HM.ss 8 rfl rfl) (fun j => HM.n 8 j rfl rfl rfl) g30 hR h (fun mu31 hR h => ?_)
      refine bs_aload_n dX12_bubble_193 rfl ?_
      refine fg_getR (b := (m + 14)) dX12_bubble_194 fX12_49 (HM.s 0 rfl rfl rfl) hR (HM.r 0 19 rfl rfl rfl) ?_
      refine bs_aload_n dX12_bubble_197 rfl ?_
      refine bs_getI dX12_bubble_198 fX12_161 (HM.s 0 rfl rfl rfl) ?_
      refine bs_aload_n dX12_bubble_201 rfl ?_
      refine fg_getR (b := (m + 14)) dX12_bubble_202 fX12_49 (HM.s 0 rfl rfl rfl) hR (HM.r 0 19 rfl rfl rfl) ?_
      refine bs_aload_n dX12_bubble_205 rfl ?_
      refine bs_getI dX12_bubble_206 fX12_161 (HM.s 0 rfl rfl rfl) ?_
      obtain ⟨g32, h⟩ := fg_gdE h
      refine bs_iald dX12_bubble_209 (HM.ss 14 rfl rfl) (fg_in_ix g32) ?_
      refine bs_aload_n dX12_bubble_210 rfl ?_
      obtain ⟨v34, k33, h⟩ := fg_bdE h
      refine fg_callV dX12_bubble_211 qX12_177 (wX12_held HM hR k33) rfl (HM.s 0 rfl rfl rfl) rfl (Nat.le_of_ble_eq_true rfl) (fg_cr (by first | decide | omega) (by decide)) (fun hR => ?_)
      refine bs_mmax dX12_bubble_214 xX12_149 (by first | decide | (simp only [bs_rm]; omega)) (by first | exact Nat.le_of_ble_eq_true rfl | (simp only [bs_rm, List.map, List.sum_cons, List.sum_nil, Value.category]; omega)) (Nat.zero_le _) (Nat.zero_le _) ?_
      obtain ⟨g35, h⟩ := fg_gdE h
      refine fg_iast dX12_bubble_217 (HM.ss 14 rfl rfl) (fun j => HM.n 14 j rfl rfl rfl) g35 hR h (fun mu36 hR h => ?_)
      cases h
      exact bs_vret dX12_bubble_218 rfl (Nat.zero_le _) (Nat.zero_le _) (kr _ rfl hR)
    · replace h := fg_iN c h
      refine bs_aload_n dX12_bubble_105 rfl ?_
      obtain ⟨mu38, k37, h⟩ := fg_bdE h
      refine fg_callVv dX12_bubble_106 qX12_164 (wX12_bad HM hR k37) rfl (HM.s 0 rfl rfl rfl) rfl (Nat.le_of_ble_eq_true rfl) (fg_cr (by first | decide | omega) (by decide)) (fun hR => ?_)
      cases h
      exact bs_vret dX12_bubble_109 rfl (Nat.zero_le _) (Nat.zero_le _) (kr _ rfl hR)
  · replace h := fg_ip c h
    refine bs_aload_n dX12_bubble_80 rfl ?_
    refine bs_dup dX12_bubble_81 rfl ?_
    refine bs_getI dX12_bubble_82 fX12_135 (HM.s 0 rfl rfl rfl) ?_
    refine bs_iconst (v := (nI 1)) dX12_bubble_85 (by decide) ?_
    refine bs_isub dX12_bubble_86 ?_
    refine fg_putI dX12_bubble_87 pX12_135 (HM.s 0 rfl rfl rfl) (HM.n 0 8 rfl rfl rfl) hR h (fun mu39 hR h => ?_)
    refine bs_aload_n dX12_bubble_90 rfl ?_
    obtain ⟨mu41, k40, h⟩ := fg_bdE h
    refine fg_callVv dX12_bubble_91 qX12_164 (wX12_bad HM hR k40) rfl (HM.s 0 rfl rfl rfl) rfl (Nat.le_of_ble_eq_true rfl) (fg_cr (by first | decide | omega) (by decide)) (fun hR => ?_)
    cases h
    exact bs_vret dX12_bubble_94 rfl (Nat.zero_le _) (Nat.zero_le _) (kr _ rfl hR)
noncomputable def FX12_bubble (m : Nat) (mu : bs_Mm) : Option (bs_Mm) :=
  fg_gd (fg_in (bs_iv (mu m 25)) 13) (
  if (bs_iv (mu (m + 8) (bs_iv (mu m 25)).toNatClampNeg)) = (nI 24) then (
    fg_bd (FX12_bad m mu) (fun mu46 => 
    some mu46)
  ) else (
    fg_bd (FX12_here m mu) (fun v3 => 
    fg_wr mu m 8 (.int ((bs_iv (mu m 8)) + (nI 1))) (fun mu4 => 
    fg_bd (FX12_here m mu4) (fun v6 => 
    fg_bd (FX12_isDigit m mu4 v6) (fun v8 => 
    if v8 = 0 then (
      FX12_bubble_j70 m mu4 (v3 - (nI 48))
    ) else (
      fg_bd (FX12_here m mu4) (fun v43 => 
      fg_wr mu4 m 8 (.int ((bs_iv (mu4 m 8)) + (nI 1))) (fun mu44 => 
      FX12_bubble_j70 m mu44 ((((nI 10) * (v3 - (nI 48))) + v43) - (nI 48))))
    )))))
  ))
set_option maxHeartbeats 4000000 in
theorem wX12_bubble {nx : Nat} {sh : bs_Sh} {R : Nat → Nat → Option Nat} {m : Nat} (HM : fg_S (bs_tM m) R m sh) {mu : bs_Mm} (hR : fg_R R mu) {r : bs_Mm} (h : FX12_bubble m mu = some r) : bs_C mX12_bubble (bs_rm 2 0 0) [.ref m] nx sh mu (fg_po R nx sh none r) := by
  refine bs_ct (by decide +kernel) (Nat.le_of_ble_eq_true rfl) ?_
  have kr : ∀ q, r = q → fg_R R q → (fg_po R nx sh none r) none nx sh q := fun q e hq => by subst e; exact ⟨rfl, rfl, rfl, rfl, hq⟩
  unfold FX12_bubble at h
  refine bs_aload_n dX12_bubble_0 rfl ?_
  refine fg_getR (b := (m + 8)) dX12_bubble_1 fX12_31 (HM.s 0 rfl rfl rfl) hR (HM.r 0 13 rfl rfl rfl) ?_
  refine bs_aload_n dX12_bubble_4 rfl ?_
  refine bs_getI dX12_bubble_5 fX12_161 (HM.s 0 rfl rfl rfl) ?_
  obtain ⟨g1, h⟩ := fg_gdE h
  refine bs_iald dX12_bubble_8 (HM.ss 8 rfl rfl) (fg_in_ix g1) ?_
  refine bs_bipush (v := (nI 24)) dX12_bubble_9 (by decide) ?_
  refine bs_icmp_ne (tgt := 19) dX12_bubble_11 (by decide) (fun c => ?_) (fun c => ?_)
  · replace h := fg_iN c h
    refine bs_aload_n dX12_bubble_19 rfl ?_
    obtain ⟨v3, k2, h⟩ := fg_bdE h
    refine fg_callV dX12_bubble_20 qX12_138 (wX12_here HM hR k2) rfl (HM.s 0 rfl rfl rfl) rfl (Nat.le_of_ble_eq_true rfl) (fg_cr (by first | decide | omega) (by decide)) (fun hR => ?_)
    refine bs_bipush (v := (nI 48)) dX12_bubble_23 (by decide) ?_
    refine bs_isub dX12_bubble_25 ?_
    refine bs_istore_n dX12_bubble_26 rfl (by decide) ?_
    refine bs_aload_n dX12_bubble_27 rfl ?_
    refine bs_dup dX12_bubble_28 rfl ?_
    refine bs_getI dX12_bubble_29 fX12_135 (HM.s 0 rfl rfl rfl) ?_
    refine bs_iconst (v := (nI 1)) dX12_bubble_32 (by decide) ?_
    refine bs_iadd dX12_bubble_33 ?_
    refine fg_putI dX12_bubble_34 pX12_135 (HM.s 0 rfl rfl rfl) (HM.n 0 8 rfl rfl rfl) hR h (fun mu4 hR h => ?_)
    refine bs_aload_n dX12_bubble_37 rfl ?_
    obtain ⟨v6, k5, h⟩ := fg_bdE h
    refine fg_callV dX12_bubble_38 qX12_138 (wX12_here HM hR k5) rfl (HM.s 0 rfl rfl rfl) rfl (Nat.le_of_ble_eq_true rfl) (fg_cr (by first | decide | omega) (by decide)) (fun hR => ?_)
    obtain ⟨v8, k7, h⟩ := fg_bdE h
    refine fg_callS dX12_bubble_41 qX12_167 (wX12_isDigit HM hR k7) rfl rfl (Nat.le_of_ble_eq_true rfl) (fg_cr (by first | decide | omega) (by decide)) (fun hR => ?_)
    refine bs_if_eq (tgt := 70) dX12_bubble_44 (by decide) (fun c => ?_) (fun c => ?_)
    · replace h := fg_ip c h
      refine bs_W.mk [(0, .ref m), (1, .int (v3 - (nI 48)))] (by intro q hq; simp only [List.mem_cons, List.not_mem_nil, or_false] at hq; rcases hq with rfl | rfl <;> rfl) ?_
      exact wFX12_bubble_j70 HM kr hR h
    · replace h := fg_iN c h
      refine bs_bipush (v := (nI 10)) dX12_bubble_47 (by decide) ?_
      refine bs_iload_n dX12_bubble_49 rfl ?_
      refine bs_imul dX12_bubble_50 ?_
      refine bs_aload_n dX12_bubble_51 rfl ?_
      obtain ⟨v43, k42, h⟩ := fg_bdE h
      refine fg_callV dX12_bubble_52 qX12_138 (wX12_here HM hR k42) rfl (HM.s 0 rfl rfl rfl) rfl (Nat.le_of_ble_eq_true rfl) (fg_cr (by first | decide | omega) (by decide)) (fun hR => ?_)
      refine bs_iadd dX12_bubble_55 ?_
      refine bs_bipush (v := (nI 48)) dX12_bubble_56 (by decide) ?_
      refine bs_isub dX12_bubble_58 ?_
      refine bs_istore_n dX12_bubble_59 rfl (by decide) ?_
      refine bs_aload_n dX12_bubble_60 rfl ?_
      refine bs_dup dX12_bubble_61 rfl ?_
      refine bs_getI dX12_bubble_62 fX12_135 (HM.s 0 rfl rfl rfl) ?_
      refine bs_iconst (v := (nI 1)) dX12_bubble_65 (by decide) ?_
      refine bs_iadd dX12_bubble_66 ?_
      refine fg_putI dX12_bubble_67 pX12_135 (HM.s 0 rfl rfl rfl) (HM.n 0 8 rfl rfl rfl) hR h (fun mu44 hR h => ?_)
      refine bs_W.mk [(0, .ref m), (1, .int ((((nI 10) * (v3 - (nI 48))) + v43) - (nI 48)))] (by intro q hq; simp only [List.mem_cons, List.not_mem_nil, or_false] at hq; rcases hq with rfl | rfl <;> rfl) ?_
      exact wFX12_bubble_j70 HM kr hR h
  · replace h := fg_ip c h
    refine bs_aload_n dX12_bubble_14 rfl ?_
    obtain ⟨mu46, k45, h⟩ := fg_bdE h
    refine fg_callVv dX12_bubble_15 qX12_164 (wX12_bad HM hR k45) rfl (HM.s 0 rfl rfl rfl) rfl (Nat.le_of_ble_eq_true rfl) (fg_cr (by first | decide | omega) (by decide)) (fun hR => ?_)
    cases h
    exact bs_vret dX12_bubble_18 rfl (Nat.zero_le _) (Nat.zero_le _) (kr _ rfl hR)
noncomputable def FX12_joinTo (m : Nat) (mu : bs_Mm) (p1 : Int32) (p2 : Int32) : Option (bs_Mm) :=
  fg_bd (FX12_find m mu p1) (fun v2 => 
  fg_bd (FX12_find m mu p2) (fun v4 => 
  fg_gd (fg_in (if v2 < v4 then v4 else v2) 60) (
  fg_wr mu (m + 15) (if v2 < v4 then v4 else v2).toNatClampNeg (.int (if v4 < v2 then v4 else v2)) (fun mu6 => 
  some mu6))))
set_option maxHeartbeats 4000000 in
theorem wX12_joinTo {nx : Nat} {sh : bs_Sh} {R : Nat → Nat → Option Nat} {m : Nat} (HM : fg_S (bs_tM m) R m sh) {mu : bs_Mm} (hR : fg_R R mu) {p1 : Int32} {p2 : Int32} {r : bs_Mm} (h : FX12_joinTo m mu p1 p2 = some r) : bs_C mX12_joinTo (bs_rm 1 0 0) [.ref m, .int p1, .int p2] nx sh mu (fg_po R nx sh none r) := by
  refine bs_ct (by decide +kernel) (Nat.le_of_ble_eq_true rfl) ?_
  have kr : ∀ q, r = q → fg_R R q → (fg_po R nx sh none r) none nx sh q := fun q e hq => by subst e; exact ⟨rfl, rfl, rfl, rfl, hq⟩
  unfold FX12_joinTo at h
  refine bs_aload_n dX12_joinTo_0 rfl ?_
  refine bs_iload_n dX12_joinTo_1 rfl ?_
  obtain ⟨v2, k1, h⟩ := fg_bdE h
  refine fg_callV dX12_joinTo_2 qX12_145 (wX12_find HM hR k1) rfl (HM.s 0 rfl rfl rfl) rfl (Nat.le_of_ble_eq_true rfl) (fg_cr (by first | decide | omega) (by decide)) (fun hR => ?_)
  refine bs_istore_n dX12_joinTo_5 rfl (by decide) ?_
  refine bs_aload_n dX12_joinTo_6 rfl ?_
  refine bs_iload_n dX12_joinTo_7 rfl ?_
  obtain ⟨v4, k3, h⟩ := fg_bdE h
  refine fg_callV dX12_joinTo_8 qX12_145 (wX12_find HM hR k3) rfl (HM.s 0 rfl rfl rfl) rfl (Nat.le_of_ble_eq_true rfl) (fg_cr (by first | decide | omega) (by decide)) (fun hR => ?_)
  refine bs_istore dX12_joinTo_11 rfl (by decide) ?_
  refine bs_aload_n dX12_joinTo_13 rfl ?_
  refine fg_getR (b := (m + 15)) dX12_joinTo_14 fX12_52 (HM.s 0 rfl rfl rfl) hR (HM.r 0 21 rfl rfl rfl) ?_
  refine bs_iload_n dX12_joinTo_17 rfl ?_
  refine bs_iload dX12_joinTo_18 rfl ?_
  refine bs_mmax dX12_joinTo_20 xX12_149 (by first | decide | (simp only [bs_rm]; omega)) (by first | exact Nat.le_of_ble_eq_true rfl | (simp only [bs_rm, List.map, List.sum_cons, List.sum_nil, Value.category]; omega)) (Nat.zero_le _) (Nat.zero_le _) ?_
  refine bs_iload_n dX12_joinTo_23 rfl ?_
  refine bs_iload dX12_joinTo_24 rfl ?_
  refine bs_mmin dX12_joinTo_26 xX12_155 (by first | decide | (simp only [bs_rm]; omega)) (by first | exact Nat.le_of_ble_eq_true rfl | (simp only [bs_rm, List.map, List.sum_cons, List.sum_nil, Value.category]; omega)) (Nat.zero_le _) (Nat.zero_le _) ?_
  obtain ⟨g5, h⟩ := fg_gdE h
  refine fg_iast dX12_joinTo_29 (HM.ss 15 rfl rfl) (fun j => HM.n 15 j rfl rfl rfl) g5 hR h (fun mu6 hR h => ?_)
  cases h
  exact bs_vret dX12_joinTo_30 rfl (Nat.zero_le _) (Nat.zero_le _) (kr _ rfl hR)
noncomputable def FX12_nested_j64 (m : Nat) (rA : bs_Mm → Option (bs_Mm)) (mu : bs_Mm) (l1 : Int32) : Option (bs_Mm) :=
  fg_wr mu m 8 (.int ((bs_iv (mu m 8)) + (nI 1))) (fun mu5 => 
  fg_wr mu5 m 10 (.int ((bs_iv (mu5 m 10)) - (nI 1))) (fun mu6 => 
  if (bs_iv (mu6 m 9)) = (-1) then (
    fg_bd (FX12_joinTo m mu6 l1 (bs_iv (mu6 m 24))) (fun mu8 => 
    some mu8)
  ) else (
    some mu6
  )))
set_option maxHeartbeats 4000000 in
theorem wFX12_nested_j64 {nx : Nat} {sh : bs_Sh} {R : Nat → Nat → Option Nat} {m : Nat} (HM : fg_S (bs_tM m) R m sh) {rA : bs_Mm → Option (bs_Mm)} {d_rA : Nat} (h_rA : ∀ {mu : bs_Mm} {q : bs_Mm}, fg_R R mu → rA mu = some q → bs_C mX12_moves (bs_rm d_rA 0 0) [.ref m] nx sh mu (fg_po R nx sh none q)) {mu : bs_Mm} {l1 : Int32} {Ph : bs_Po} {r : bs_Mm} (kr : ∀ q, r = q → fg_R R q → Ph none nx sh q) (hR : fg_R R mu) (h : FX12_nested_j64 m rA mu l1 = some r) : bs_W Ph mX12_nested (bs_rm (d_rA + 2) 0 0) 64 (bs_mk [(0, .ref m), (1, .int l1)]) [] 0 0 nx sh mu := by
  unfold FX12_nested_j64 at h
  refine bs_aload_n dX12_nested_64 rfl ?_
  refine bs_dup dX12_nested_65 rfl ?_
  refine bs_getI dX12_nested_66 fX12_135 (HM.s 0 rfl rfl rfl) ?_
  refine bs_iconst (v := (nI 1)) dX12_nested_69 (by decide) ?_
  refine bs_iadd dX12_nested_70 ?_
  refine fg_putI dX12_nested_71 pX12_135 (HM.s 0 rfl rfl rfl) (HM.n 0 8 rfl rfl rfl) hR h (fun mu5 hR h => ?_)
  refine bs_aload_n dX12_nested_74 rfl ?_
  refine bs_dup dX12_nested_75 rfl ?_
  refine bs_getI dX12_nested_76 fX12_193 (HM.s 0 rfl rfl rfl) ?_
  refine bs_iconst (v := (nI 1)) dX12_nested_79 (by decide) ?_
  refine bs_isub dX12_nested_80 ?_
  refine fg_putI dX12_nested_81 pX12_193 (HM.s 0 rfl rfl rfl) (HM.n 0 10 rfl rfl rfl) hR h (fun mu6 hR h => ?_)
  refine bs_aload_n dX12_nested_84 rfl ?_
  refine bs_getI dX12_nested_85 fX12_142 (HM.s 0 rfl rfl rfl) ?_
  refine bs_iconst (v := (-1)) dX12_nested_88 (by decide) ?_
  refine bs_icmp_ne (tgt := 101) dX12_nested_89 (by decide) (fun c => ?_) (fun c => ?_)
  · replace h := fg_iN c h
    cases h
    exact bs_vret dX12_nested_101 rfl (Nat.zero_le _) (Nat.zero_le _) (kr _ rfl hR)
  · replace h := fg_ip c h
    refine bs_aload_n dX12_nested_92 rfl ?_
    refine bs_iload_n dX12_nested_93 rfl ?_
    refine bs_aload_n dX12_nested_94 rfl ?_
    refine bs_getI dX12_nested_95 fX12_171 (HM.s 0 rfl rfl rfl) ?_
    obtain ⟨mu8, k7, h⟩ := fg_bdE h
    refine fg_callVv dX12_nested_98 qX12_186 (wX12_joinTo HM hR k7) rfl (HM.s 0 rfl rfl rfl) rfl (Nat.le_of_ble_eq_true rfl) (fg_cr (by first | decide | omega) (by decide)) (fun hR => ?_)
    cases h
    exact bs_vret dX12_nested_101 rfl (Nat.zero_le _) (Nat.zero_le _) (kr _ rfl hR)
noncomputable def FX12_nested (m : Nat) (rA : bs_Mm → Option (bs_Mm)) (mu : bs_Mm) : Option (bs_Mm) :=
  if (bs_iv (mu m 10)) = (nI 6) then (
    fg_bd (FX12_bad m mu) (fun mu15 => 
    some mu15)
  ) else (
    fg_wr mu m 10 (.int ((bs_iv (mu m 10)) + (nI 1))) (fun mu1 => 
    fg_wr mu1 m 8 (.int ((bs_iv (mu1 m 8)) + (nI 1))) (fun mu2 => 
    fg_bd (rA mu2) (fun mu4 => 
    if (bs_iv (mu4 m 9)) = (-1) then (
      fg_b2 (FX12_look m mu4) (fun v11 mu10 => 
      if v11 = (nI 41) then (
        FX12_nested_j64 m rA mu10 (bs_iv (mu2 m 24))
      ) else (
        fg_bd (FX12_bad m mu10) (fun mu13 => 
        FX12_nested_j64 m rA mu13 (bs_iv (mu2 m 24)))
      ))
    ) else (
      FX12_nested_j64 m rA mu4 (bs_iv (mu2 m 24))
    ))))
  )
set_option maxHeartbeats 4000000 in
theorem wX12_nested {nx : Nat} {sh : bs_Sh} {R : Nat → Nat → Option Nat} {m : Nat} (HM : fg_S (bs_tM m) R m sh) {rA : bs_Mm → Option (bs_Mm)} {d_rA : Nat} (h_rA : ∀ {mu : bs_Mm} {q : bs_Mm}, fg_R R mu → rA mu = some q → bs_C mX12_moves (bs_rm d_rA 0 0) [.ref m] nx sh mu (fg_po R nx sh none q)) {mu : bs_Mm} (hR : fg_R R mu) {r : bs_Mm} (h : FX12_nested m rA mu = some r) : bs_C mX12_nested (bs_rm (d_rA + 2) 0 0) [.ref m] nx sh mu (fg_po R nx sh none r) := by
  refine bs_ct (by decide +kernel) (Nat.le_of_ble_eq_true rfl) ?_
  have kr : ∀ q, r = q → fg_R R q → (fg_po R nx sh none r) none nx sh q := fun q e hq => by subst e; exact ⟨rfl, rfl, rfl, rfl, hq⟩
  unfold FX12_nested at h
  refine bs_aload_n dX12_nested_0 rfl ?_
  refine bs_getI dX12_nested_1 fX12_193 (HM.s 0 rfl rfl rfl) ?_
  refine bs_bipush (v := (nI 6)) dX12_nested_4 (by decide) ?_
  refine bs_icmp_ne (tgt := 14) dX12_nested_6 (by decide) (fun c => ?_) (fun c => ?_)
  · replace h := fg_iN c h
    refine bs_aload_n dX12_nested_14 rfl ?_
    refine bs_dup dX12_nested_15 rfl ?_
    refine bs_getI dX12_nested_16 fX12_193 (HM.s 0 rfl rfl rfl) ?_
    refine bs_iconst (v := (nI 1)) dX12_nested_19 (by decide) ?_
    refine bs_iadd dX12_nested_20 ?_
    refine fg_putI dX12_nested_21 pX12_193 (HM.s 0 rfl rfl rfl) (HM.n 0 10 rfl rfl rfl) hR h (fun mu1 hR h => ?_)
    refine bs_aload_n dX12_nested_24 rfl ?_
    refine bs_dup dX12_nested_25 rfl ?_
    refine bs_getI dX12_nested_26 fX12_135 (HM.s 0 rfl rfl rfl) ?_
    refine bs_iconst (v := (nI 1)) dX12_nested_29 (by decide) ?_
    refine bs_iadd dX12_nested_30 ?_
    refine fg_putI dX12_nested_31 pX12_135 (HM.s 0 rfl rfl rfl) (HM.n 0 8 rfl rfl rfl) hR h (fun mu2 hR h => ?_)
    refine bs_aload_n dX12_nested_34 rfl ?_
    refine bs_getI dX12_nested_35 fX12_171 (HM.s 0 rfl rfl rfl) ?_
    refine bs_istore_n dX12_nested_38 rfl (by decide) ?_
    refine bs_aload_n dX12_nested_39 rfl ?_
    obtain ⟨mu4, k3, h⟩ := fg_bdE h
    refine fg_callVv dX12_nested_40 qX12_196 (h_rA hR k3) rfl (HM.s 0 rfl rfl rfl) rfl (Nat.le_of_ble_eq_true rfl) (fg_cr (by first | decide | omega) (by decide)) (fun hR => ?_)
    refine bs_aload_n dX12_nested_43 rfl ?_
    refine bs_getI dX12_nested_44 fX12_142 (HM.s 0 rfl rfl rfl) ?_
    refine bs_iconst (v := (-1)) dX12_nested_47 (by decide) ?_
    refine bs_icmp_ne (tgt := 64) dX12_nested_48 (by decide) (fun c => ?_) (fun c => ?_)
    · replace h := fg_iN c h
      refine bs_W.mk [(0, .ref m), (1, .int (bs_iv (mu2 m 24)))] (by intro q hq; simp only [List.mem_cons, List.not_mem_nil, or_false] at hq; rcases hq with rfl | rfl <;> rfl) ?_
      exact wFX12_nested_j64 HM h_rA kr hR h
    · replace h := fg_ip c h
      refine bs_aload_n dX12_nested_51 rfl ?_
      obtain ⟨v11, mu10, k9, h⟩ := fg_b2E h
      refine fg_callV dX12_nested_52 qX12_180 (wX12_look HM hR k9) rfl (HM.s 0 rfl rfl rfl) rfl (Nat.le_of_ble_eq_true rfl) (fg_cr (by first | decide | omega) (by decide)) (fun hR => ?_)
      refine bs_bipush (v := (nI 41)) dX12_nested_55 (by decide) ?_
      refine bs_icmp_eq (tgt := 64) dX12_nested_57 (by decide) (fun c => ?_) (fun c => ?_)
      · replace h := fg_ip c h
        refine bs_W.mk [(0, .ref m), (1, .int (bs_iv (mu2 m 24)))] (by intro q hq; simp only [List.mem_cons, List.not_mem_nil, or_false] at hq; rcases hq with rfl | rfl <;> rfl) ?_
        exact wFX12_nested_j64 HM h_rA kr hR h
      · replace h := fg_iN c h
        refine bs_aload_n dX12_nested_60 rfl ?_
        obtain ⟨mu13, k12, h⟩ := fg_bdE h
        refine fg_callVv dX12_nested_61 qX12_164 (wX12_bad HM hR k12) rfl (HM.s 0 rfl rfl rfl) rfl (Nat.le_of_ble_eq_true rfl) (fg_cr (by first | decide | omega) (by decide)) (fun hR => ?_)
        refine bs_W.mk [(0, .ref m), (1, .int (bs_iv (mu2 m 24)))] (by intro q hq; simp only [List.mem_cons, List.not_mem_nil, or_false] at hq; rcases hq with rfl | rfl <;> rfl) ?_
        exact wFX12_nested_j64 HM h_rA kr hR h
  · replace h := fg_ip c h
    refine bs_aload_n dX12_nested_9 rfl ?_
    obtain ⟨mu15, k14, h⟩ := fg_bdE h
    refine fg_callVv dX12_nested_10 qX12_164 (wX12_bad HM hR k14) rfl (HM.s 0 rfl rfl rfl) rfl (Nat.le_of_ble_eq_true rfl) (fg_cr (by first | decide | omega) (by decide)) (fun hR => ?_)
    cases h
    exact bs_vret dX12_nested_13 rfl (Nat.zero_le _) (Nat.zero_le _) (kr _ rfl hR)
noncomputable def FX12_moves_j106_L4 (m : Nat) (rA : bs_Mm → Option (bs_Mm)) (mu : bs_Mm) (l1 : Int32) (l2 : Int32) (l3 : Int32) : Option ((Int32 × Int32 × bs_Mm) ⊕ (Int32 × bs_Mm)) :=
  if l3 = (nI 40) then (
    fg_bd (FX12_nested m rA mu) (fun mu7 => 
    if l2 = 0 then (
      some (.inl ((l1 + (nI 0)), l2, mu7))
    ) else (
      some (.inl ((l1 + (nI 1)), l2, mu7))
    ))
  ) else (
    if (nI 0) = 0 then (
      some (.inl ((l1 + (nI 0)), (nI 0), mu))
    ) else (
      some (.inl ((l1 + (nI 1)), (nI 0), mu))
    )
  )
set_option maxHeartbeats 4000000 in
theorem wFX12_moves_j106_L4 {nx : Nat} {sh : bs_Sh} {R : Nat → Nat → Option Nat} {m : Nat} (HM : fg_S (bs_tM m) R m sh) {rA : bs_Mm → Option (bs_Mm)} {d_rA : Nat} (h_rA : ∀ {mu : bs_Mm} {q : bs_Mm}, fg_R R mu → rA mu = some q → bs_C mX12_moves (bs_rm d_rA 0 0) [.ref m] nx sh mu (fg_po R nx sh none q)) {mu : bs_Mm} {l1 : Int32} {l2 : Int32} {l3 : Int32} {Ph : bs_Po} {r : (Int32 × Int32 × bs_Mm) ⊕ (Int32 × bs_Mm)} (ka : ∀ s, r = .inl s → fg_R R s.2.2 → bs_W Ph mX12_moves (bs_rm (d_rA + 3) 0 0) 4 (bs_mk [(0, .ref m), (1, .int s.1), (2, .int s.2.1)]) [] 0 0 nx sh s.2.2) (ke : ∀ s, r = .inr s → fg_R R s.2 → bs_W Ph mX12_moves (bs_rm (d_rA + 3) 0 0) 136 (bs_mk [(0, .ref m), (1, .int s.1)]) [] 0 0 nx sh s.2) (hR : fg_R R mu) (h : FX12_moves_j106_L4 m rA mu l1 l2 l3 = some r) : bs_W Ph mX12_moves (bs_rm (d_rA + 3) 0 0) 106 (bs_mk [(0, .ref m), (1, .int l1), (2, .int l2), (3, .int l3)]) [] 0 0 nx sh mu := by
  unfold FX12_moves_j106_L4 at h
  refine bs_iload_n dX12_moves_106 rfl ?_
  refine bs_bipush (v := (nI 40)) dX12_moves_107 (by decide) ?_
  refine bs_icmp_ne (tgt := 119) dX12_moves_109 (by decide) (fun c => ?_) (fun c => ?_)
  · replace h := fg_iN c h
    refine bs_iconst (v := (nI 0)) dX12_moves_119 (by decide) ?_
    refine bs_istore_n dX12_moves_120 rfl (by decide) ?_
    refine bs_iload_n dX12_moves_121 rfl ?_
    refine bs_iload_n dX12_moves_122 rfl ?_
    refine bs_if_eq (tgt := 130) dX12_moves_123 (by decide) (fun c => ?_) (fun c => ?_)
    · replace h := fg_ip c h
      refine bs_iconst (v := (nI 0)) dX12_moves_130 (by decide) ?_
      refine bs_iadd dX12_moves_131 ?_
      refine bs_istore_n dX12_moves_132 rfl (by decide) ?_
      refine bs_goto (tgt := 4) dX12_moves_133 (by decide) ?_
      cases h
      refine bs_W.mk [(0, .ref m), (1, .int (l1 + (nI 0))), (2, .int (nI 0))] (by intro q hq; simp only [List.mem_cons, List.not_mem_nil, or_false] at hq; rcases hq with rfl | rfl | rfl <;> rfl) (by have k := ka _ rfl hR; dsimp only at k; exact k)
    · replace h := fg_iN c h
      refine bs_iconst (v := (nI 1)) dX12_moves_126 (by decide) ?_
      refine bs_goto (tgt := 131) dX12_moves_127 (by decide) ?_
      refine bs_iadd dX12_moves_131 ?_
      refine bs_istore_n dX12_moves_132 rfl (by decide) ?_
      refine bs_goto (tgt := 4) dX12_moves_133 (by decide) ?_
      cases h
      refine bs_W.mk [(0, .ref m), (1, .int (l1 + (nI 1))), (2, .int (nI 0))] (by intro q hq; simp only [List.mem_cons, List.not_mem_nil, or_false] at hq; rcases hq with rfl | rfl | rfl <;> rfl) (by have k := ka _ rfl hR; dsimp only at k; exact k)
  · replace h := fg_ip c h
    refine bs_aload_n dX12_moves_112 rfl ?_
    obtain ⟨mu7, k6, h⟩ := fg_bdE h
    refine fg_callVv dX12_moves_113 qX12_190 (wX12_nested HM h_rA hR k6) rfl (HM.s 0 rfl rfl rfl) rfl (Nat.le_of_ble_eq_true rfl) (fg_cr (by first | decide | omega) (by decide)) (fun hR => ?_)
    refine bs_goto (tgt := 121) dX12_moves_116 (by decide) ?_
    refine bs_iload_n dX12_moves_121 rfl ?_
    refine bs_iload_n dX12_moves_122 rfl ?_
    refine bs_if_eq (tgt := 130) dX12_moves_123 (by decide) (fun c => ?_) (fun c => ?_)
    · replace h := fg_ip c h
      refine bs_iconst (v := (nI 0)) dX12_moves_130 (by decide) ?_
      refine bs_iadd dX12_moves_131 ?_
      refine bs_istore_n dX12_moves_132 rfl (by decide) ?_
      refine bs_goto (tgt := 4) dX12_moves_133 (by decide) ?_
      cases h
      refine bs_W.mk [(0, .ref m), (1, .int (l1 + (nI 0))), (2, .int l2)] (by intro q hq; simp only [List.mem_cons, List.not_mem_nil, or_false] at hq; rcases hq with rfl | rfl | rfl <;> rfl) (by have k := ka _ rfl hR; dsimp only at k; exact k)
    · replace h := fg_iN c h
      refine bs_iconst (v := (nI 1)) dX12_moves_126 (by decide) ?_
      refine bs_goto (tgt := 131) dX12_moves_127 (by decide) ?_
      refine bs_iadd dX12_moves_131 ?_
      refine bs_istore_n dX12_moves_132 rfl (by decide) ?_
      refine bs_goto (tgt := 4) dX12_moves_133 (by decide) ?_
      cases h
      refine bs_W.mk [(0, .ref m), (1, .int (l1 + (nI 1))), (2, .int l2)] (by intro q hq; simp only [List.mem_cons, List.not_mem_nil, or_false] at hq; rcases hq with rfl | rfl | rfl <;> rfl) (by have k := ka _ rfl hR; dsimp only at k; exact k)
noncomputable def FX12_moves_b4 (m : Nat) (rA : bs_Mm → Option (bs_Mm))  (s : Int32 × Int32 × bs_Mm) : Option ((Int32 × Int32 × bs_Mm) ⊕ (Int32 × bs_Mm)) :=
  if s.2.1 = 0 then (
    some (.inr (s.1, s.2.2))
  ) else (
    if (bs_iv (s.2.2 m 9)) = (-1) then (
      fg_b2 (FX12_look m s.2.2) (fun v3 mu2 => 
      fg_bd (FX12_isDigit m mu2 v3) (fun v5 => 
      if v5 = 0 then (
        if v3 < (nI 97) then (
          FX12_moves_j106_L4 m rA mu2 s.1 s.2.1 v3
        ) else (
          if (nI 104) < v3 then (
            FX12_moves_j106_L4 m rA mu2 s.1 s.2.1 v3
          ) else (
            fg_wr mu2 m 8 (.int ((bs_iv (mu2 m 8)) + (nI 1))) (fun mu8 => 
            fg_gd (fg_in (v3 - (nI 97)) 8) (
            if (bs_iv (mu8 (m + 16) (v3 - (nI 97)).toNatClampNeg)) = (-1) then (
              fg_gd (fg_in (v3 - (nI 97)) 8) (
              fg_wr mu8 (m + 16) (v3 - (nI 97)).toNatClampNeg (.int (bs_iv (mu8 m 24))) (fun mu14 => 
              if s.2.1 = 0 then (
                some (.inl ((s.1 + (nI 0)), s.2.1, mu14))
              ) else (
                some (.inl ((s.1 + (nI 1)), s.2.1, mu14))
              )))
            ) else (
              fg_gd (fg_in (v3 - (nI 97)) 8) (
              fg_bd (FX12_joinTo m mu8 (bs_iv (mu8 (m + 16) (v3 - (nI 97)).toNatClampNeg)) (bs_iv (mu8 m 24))) (fun mu12 => 
              if s.2.1 = 0 then (
                some (.inl ((s.1 + (nI 0)), s.2.1, mu12))
              ) else (
                some (.inl ((s.1 + (nI 1)), s.2.1, mu12))
              )))
            )))
          )
        )
      ) else (
        fg_bd (FX12_bubble m mu2) (fun mu16 => 
        if s.2.1 = 0 then (
          some (.inl ((s.1 + (nI 0)), s.2.1, mu16))
        ) else (
          some (.inl ((s.1 + (nI 1)), s.2.1, mu16))
        ))
      )))
    ) else (
      some (.inr (s.1, s.2.2))
    )
  )
set_option maxHeartbeats 4000000 in
theorem wFX12_moves_b4 {nx : Nat} {sh : bs_Sh} {R : Nat → Nat → Option Nat} {m : Nat} (HM : fg_S (bs_tM m) R m sh) {rA : bs_Mm → Option (bs_Mm)} {d_rA : Nat} (h_rA : ∀ {mu : bs_Mm} {q : bs_Mm}, fg_R R mu → rA mu = some q → bs_C mX12_moves (bs_rm d_rA 0 0) [.ref m] nx sh mu (fg_po R nx sh none q)) {Ph : bs_Po} {s : Int32 × Int32 × bs_Mm} {r : (Int32 × Int32 × bs_Mm) ⊕ (Int32 × bs_Mm)} (ka : ∀ s, r = .inl s → fg_R R s.2.2 → bs_W Ph mX12_moves (bs_rm (d_rA + 3) 0 0) 4 (bs_mk [(0, .ref m), (1, .int s.1), (2, .int s.2.1)]) [] 0 0 nx sh s.2.2) (ke : ∀ s, r = .inr s → fg_R R s.2 → bs_W Ph mX12_moves (bs_rm (d_rA + 3) 0 0) 136 (bs_mk [(0, .ref m), (1, .int s.1)]) [] 0 0 nx sh s.2) (hR : fg_R R s.2.2) (h : FX12_moves_b4 m rA s = some r) : bs_W Ph mX12_moves (bs_rm (d_rA + 3) 0 0) 4 (bs_mk [(0, .ref m), (1, .int s.1), (2, .int s.2.1)]) [] 0 0 nx sh s.2.2 := by
  unfold FX12_moves_b4 at h
  refine bs_iload_n dX12_moves_4 rfl ?_
  refine bs_if_eq (tgt := 136) dX12_moves_5 (by decide) (fun c => ?_) (fun c => ?_)
  · replace h := fg_ip c h
    cases h
    refine bs_W.mk [(0, .ref m), (1, .int s.1)] (by intro q hq; simp only [List.mem_cons, List.not_mem_nil, or_false] at hq; rcases hq with rfl | rfl <;> rfl) (ke _ rfl hR)
  · replace h := fg_iN c h
    refine bs_aload_n dX12_moves_8 rfl ?_
    refine bs_getI dX12_moves_9 fX12_142 (HM.s 0 rfl rfl rfl) ?_
    refine bs_iconst (v := (-1)) dX12_moves_12 (by decide) ?_
    refine bs_icmp_ne (tgt := 136) dX12_moves_13 (by decide) (fun c => ?_) (fun c => ?_)
    · replace h := fg_iN c h
      cases h
      refine bs_W.mk [(0, .ref m), (1, .int s.1)] (by intro q hq; simp only [List.mem_cons, List.not_mem_nil, or_false] at hq; rcases hq with rfl | rfl <;> rfl) (ke _ rfl hR)
    · replace h := fg_ip c h
      refine bs_aload_n dX12_moves_16 rfl ?_
      obtain ⟨v3, mu2, k1, h⟩ := fg_b2E h
      refine fg_callV dX12_moves_17 qX12_180 (wX12_look HM hR k1) rfl (HM.s 0 rfl rfl rfl) rfl (Nat.le_of_ble_eq_true rfl) (fg_cr (by first | decide | omega) (by decide)) (fun hR => ?_)
      refine bs_istore_n dX12_moves_20 rfl (by decide) ?_
      refine bs_iload_n dX12_moves_21 rfl ?_
      obtain ⟨v5, k4, h⟩ := fg_bdE h
      refine fg_callS dX12_moves_22 qX12_167 (wX12_isDigit HM hR k4) rfl rfl (Nat.le_of_ble_eq_true rfl) (fg_cr (by first | decide | omega) (by decide)) (fun hR => ?_)
      refine bs_if_eq (tgt := 35) dX12_moves_25 (by decide) (fun c => ?_) (fun c => ?_)
      · replace h := fg_ip c h
        refine bs_iload_n dX12_moves_35 rfl ?_
        refine bs_bipush (v := (nI 97)) dX12_moves_36 (by decide) ?_
        refine bs_icmp_lt (tgt := 106) dX12_moves_38 (by decide) (fun c => ?_) (fun c => ?_)
        · replace h := fg_ip c h
          refine bs_W.mk [(0, .ref m), (1, .int s.1), (2, .int s.2.1), (3, .int v3)] (by intro q hq; simp only [List.mem_cons, List.not_mem_nil, or_false] at hq; rcases hq with rfl | rfl | rfl | rfl <;> rfl) ?_
          exact wFX12_moves_j106_L4 HM h_rA ka ke hR h
        · replace h := fg_iN c h
          refine bs_iload_n dX12_moves_41 rfl ?_
          refine bs_bipush (v := (nI 104)) dX12_moves_42 (by decide) ?_
          refine bs_icmp_gt (tgt := 106) dX12_moves_44 (by decide) (fun c => ?_) (fun c => ?_)
          · replace h := fg_ip c h
            refine bs_W.mk [(0, .ref m), (1, .int s.1), (2, .int s.2.1), (3, .int v3)] (by intro q hq; simp only [List.mem_cons, List.not_mem_nil, or_false] at hq; rcases hq with rfl | rfl | rfl | rfl <;> rfl) ?_
            exact wFX12_moves_j106_L4 HM h_rA ka ke hR h
          · replace h := fg_iN c h
            refine bs_aload_n dX12_moves_47 rfl ?_
            refine bs_dup dX12_moves_48 rfl ?_
            refine bs_getI dX12_moves_49 fX12_135 (HM.s 0 rfl rfl rfl) ?_
            refine bs_iconst (v := (nI 1)) dX12_moves_52 (by decide) ?_
            refine bs_iadd dX12_moves_53 ?_
            refine fg_putI dX12_moves_54 pX12_135 (HM.s 0 rfl rfl rfl) (HM.n 0 8 rfl rfl rfl) hR h (fun mu8 hR h => ?_)
            refine bs_aload_n dX12_moves_57 rfl ?_
            refine fg_getR (b := (m + 16)) dX12_moves_58 fX12_55 (HM.s 0 rfl rfl rfl) hR (HM.r 0 22 rfl rfl rfl) ?_
            refine bs_iload_n dX12_moves_61 rfl ?_
            refine bs_bipush (v := (nI 97)) dX12_moves_62 (by decide) ?_
            refine bs_isub dX12_moves_64 ?_
            obtain ⟨g9, h⟩ := fg_gdE h
            refine bs_iald dX12_moves_65 (HM.ss 16 rfl rfl) (fg_in_ix g9) ?_
            refine bs_iconst (v := (-1)) dX12_moves_66 (by decide) ?_
            refine bs_icmp_ne (tgt := 86) dX12_moves_67 (by decide) (fun c => ?_) (fun c => ?_)
            · replace h := fg_iN c h
              refine bs_aload_n dX12_moves_86 rfl ?_
              refine bs_aload_n dX12_moves_87 rfl ?_
              refine fg_getR (b := (m + 16)) dX12_moves_88 fX12_55 (HM.s 0 rfl rfl rfl) hR (HM.r 0 22 rfl rfl rfl) ?_
              refine bs_iload_n dX12_moves_91 rfl ?_
              refine bs_bipush (v := (nI 97)) dX12_moves_92 (by decide) ?_
              refine bs_isub dX12_moves_94 ?_
              obtain ⟨g10, h⟩ := fg_gdE h
              refine bs_iald dX12_moves_95 (HM.ss 16 rfl rfl) (fg_in_ix g10) ?_
              refine bs_aload_n dX12_moves_96 rfl ?_
              refine bs_getI dX12_moves_97 fX12_171 (HM.s 0 rfl rfl rfl) ?_
              obtain ⟨mu12, k11, h⟩ := fg_bdE h
              refine fg_callVv dX12_moves_100 qX12_186 (wX12_joinTo HM hR k11) rfl (HM.s 0 rfl rfl rfl) rfl (Nat.le_of_ble_eq_true rfl) (fg_cr (by first | decide | omega) (by decide)) (fun hR => ?_)
              refine bs_goto (tgt := 121) dX12_moves_103 (by decide) ?_
              refine bs_iload_n dX12_moves_121 rfl ?_
              refine bs_iload_n dX12_moves_122 rfl ?_
              refine bs_if_eq (tgt := 130) dX12_moves_123 (by decide) (fun c => ?_) (fun c => ?_)
              · replace h := fg_ip c h
                refine bs_iconst (v := (nI 0)) dX12_moves_130 (by decide) ?_
                refine bs_iadd dX12_moves_131 ?_
                refine bs_istore_n dX12_moves_132 rfl (by decide) ?_
                refine bs_goto (tgt := 4) dX12_moves_133 (by decide) ?_
                cases h
                refine bs_W.mk [(0, .ref m), (1, .int (s.1 + (nI 0))), (2, .int s.2.1)] (by intro q hq; simp only [List.mem_cons, List.not_mem_nil, or_false] at hq; rcases hq with rfl | rfl | rfl <;> rfl) (by have k := ka _ rfl hR; dsimp only at k; exact k)
              · replace h := fg_iN c h
                refine bs_iconst (v := (nI 1)) dX12_moves_126 (by decide) ?_
                refine bs_goto (tgt := 131) dX12_moves_127 (by decide) ?_
                refine bs_iadd dX12_moves_131 ?_
                refine bs_istore_n dX12_moves_132 rfl (by decide) ?_
                refine bs_goto (tgt := 4) dX12_moves_133 (by decide) ?_
                cases h
                refine bs_W.mk [(0, .ref m), (1, .int (s.1 + (nI 1))), (2, .int s.2.1)] (by intro q hq; simp only [List.mem_cons, List.not_mem_nil, or_false] at hq; rcases hq with rfl | rfl | rfl <;> rfl) (by have k := ka _ rfl hR; dsimp only at k; exact k)
            · replace h := fg_ip c h
              refine bs_aload_n dX12_moves_70 rfl ?_
              refine fg_getR (b := (m + 16)) dX12_moves_71 fX12_55 (HM.s 0 rfl rfl rfl) hR (HM.r 0 22 rfl rfl rfl) ?_
              refine bs_iload_n dX12_moves_74 rfl ?_
              refine bs_bipush (v := (nI 97)) dX12_moves_75 (by decide) ?_
              refine bs_isub dX12_moves_77 ?_
              refine bs_aload_n dX12_moves_78 rfl ?_
              refine bs_getI dX12_moves_79 fX12_171 (HM.s 0 rfl rfl rfl) ?_
              obtain ⟨g13, h⟩ := fg_gdE h
              refine fg_iast dX12_moves_82 (HM.ss 16 rfl rfl) (fun j => HM.n 16 j rfl rfl rfl) g13 hR h (fun mu14 hR h => ?_)
              refine bs_goto (tgt := 121) dX12_moves_83 (by decide) ?_
              refine bs_iload_n dX12_moves_121 rfl ?_
              refine bs_iload_n dX12_moves_122 rfl ?_
              refine bs_if_eq (tgt := 130) dX12_moves_123 (by decide) (fun c => ?_) (fun c => ?_)
              · replace h := fg_ip c h
                refine bs_iconst (v := (nI 0)) dX12_moves_130 (by decide) ?_
                refine bs_iadd dX12_moves_131 ?_
                refine bs_istore_n dX12_moves_132 rfl (by decide) ?_
                refine bs_goto (tgt := 4) dX12_moves_133 (by decide) ?_
                cases h
                refine bs_W.mk [(0, .ref m), (1, .int (s.1 + (nI 0))), (2, .int s.2.1)] (by intro q hq; simp only [List.mem_cons, List.not_mem_nil, or_false] at hq; rcases hq with rfl | rfl | rfl <;> rfl) (by have k := ka _ rfl hR; dsimp only at k; exact k)
              · replace h := fg_iN c h
                refine bs_iconst (v := (nI 1)) dX12_moves_126 (by decide) ?_
                refine bs_goto (tgt := 131) dX12_moves_127 (by decide) ?_
                refine bs_iadd dX12_moves_131 ?_
                refine bs_istore_n dX12_moves_132 rfl (by decide) ?_
                refine bs_goto (tgt := 4) dX12_moves_133 (by decide) ?_
                cases h
                refine bs_W.mk [(0, .ref m), (1, .int (s.1 + (nI 1))), (2, .int s.2.1)] (by intro q hq; simp only [List.mem_cons, List.not_mem_nil, or_false] at hq; rcases hq with rfl | rfl | rfl <;> rfl) (by have k := ka _ rfl hR; dsimp only at k; exact k)
      · replace h := fg_iN c h
        refine bs_aload_n dX12_moves_28 rfl ?_
        obtain ⟨mu16, k15, h⟩ := fg_bdE h
        refine fg_callVv dX12_moves_29 qX12_183 (wX12_bubble HM hR k15) rfl (HM.s 0 rfl rfl rfl) rfl (Nat.le_of_ble_eq_true rfl) (fg_cr (by first | decide | omega) (by decide)) (fun hR => ?_)
        refine bs_goto (tgt := 121) dX12_moves_32 (by decide) ?_
        refine bs_iload_n dX12_moves_121 rfl ?_
        refine bs_iload_n dX12_moves_122 rfl ?_
        refine bs_if_eq (tgt := 130) dX12_moves_123 (by decide) (fun c => ?_) (fun c => ?_)
        · replace h := fg_ip c h
          refine bs_iconst (v := (nI 0)) dX12_moves_130 (by decide) ?_
          refine bs_iadd dX12_moves_131 ?_
          refine bs_istore_n dX12_moves_132 rfl (by decide) ?_
          refine bs_goto (tgt := 4) dX12_moves_133 (by decide) ?_
          cases h
          refine bs_W.mk [(0, .ref m), (1, .int (s.1 + (nI 0))), (2, .int s.2.1)] (by intro q hq; simp only [List.mem_cons, List.not_mem_nil, or_false] at hq; rcases hq with rfl | rfl | rfl <;> rfl) (by have k := ka _ rfl hR; dsimp only at k; exact k)
        · replace h := fg_iN c h
          refine bs_iconst (v := (nI 1)) dX12_moves_126 (by decide) ?_
          refine bs_goto (tgt := 131) dX12_moves_127 (by decide) ?_
          refine bs_iadd dX12_moves_131 ?_
          refine bs_istore_n dX12_moves_132 rfl (by decide) ?_
          refine bs_goto (tgt := 4) dX12_moves_133 (by decide) ?_
          cases h
          refine bs_W.mk [(0, .ref m), (1, .int (s.1 + (nI 1))), (2, .int s.2.1)] (by intro q hq; simp only [List.mem_cons, List.not_mem_nil, or_false] at hq; rcases hq with rfl | rfl | rfl <;> rfl) (by have k := ka _ rfl hR; dsimp only at k; exact k)
theorem wFX12_moves_l4 {nx : Nat} {sh : bs_Sh} {R : Nat → Nat → Option Nat} {m : Nat} (HM : fg_S (bs_tM m) R m sh) {rA : bs_Mm → Option (bs_Mm)} {d_rA : Nat} (h_rA : ∀ {mu : bs_Mm} {q : bs_Mm}, fg_R R mu → rA mu = some q → bs_C mX12_moves (bs_rm d_rA 0 0) [.ref m] nx sh mu (fg_po R nx sh none q)) {Ph : bs_Po} {t : Int32 × bs_Mm} : ∀ n (y0 : Int32) (y1 : Int32) (mu1 : bs_Mm), fg_lp (FX12_moves_b4 m rA) n (y0, y1, mu1) = some t → fg_R R mu1 → (ke : ∀ s, t = s → fg_R R s.2 → bs_W Ph mX12_moves (bs_rm (d_rA + 3) 0 0) 136 (bs_mk [(0, .ref m), (1, .int s.1)]) [] 0 0 nx sh s.2) → bs_W Ph mX12_moves (bs_rm (d_rA + 3) 0 0) 4 (bs_mk [(0, .ref m), (1, .int y0), (2, .int y1)]) [] 0 0 nx sh mu1 := by
  intro n
  induction n with
  | zero => intro y0 y1 mu1 h; exact absurd h (fun z => fg_lp0 z)
  | succ n ih =>
    intro y0 y1 mu1 h hR ke
    obtain ⟨r, hb, h1, h2⟩ := fg_lpE h
    exact wFX12_moves_b4 (s := (y0, y1, mu1)) HM h_rA (fun s' e hR' => ih s'.1 s'.2.1 s'.2.2 (h1 s' e) hR' ke) (fun s' e => ke s' (h2 _ e).symm) hR hb
noncomputable def FX12_moves (m : Nat) (rA : bs_Mm → Option (bs_Mm)) (mu : bs_Mm) : Option (bs_Mm) :=
  fg_bd (fg_lp (FX12_moves_b4 m rA) fg_fu ((nI 0), (nI 1), mu)) (fun t17 => 
    if t17.1 = 0 then (
      fg_bd (FX12_bad m t17.2) (fun mu20 => 
      some mu20)
    ) else (
      some t17.2
    )
  )
set_option maxHeartbeats 4000000 in
theorem wX12_moves {nx : Nat} {sh : bs_Sh} {R : Nat → Nat → Option Nat} {m : Nat} (HM : fg_S (bs_tM m) R m sh) {rA : bs_Mm → Option (bs_Mm)} {d_rA : Nat} (h_rA : ∀ {mu : bs_Mm} {q : bs_Mm}, fg_R R mu → rA mu = some q → bs_C mX12_moves (bs_rm d_rA 0 0) [.ref m] nx sh mu (fg_po R nx sh none q)) {mu : bs_Mm} (hR : fg_R R mu) {r : bs_Mm} (h : FX12_moves m rA mu = some r) : bs_C mX12_moves (bs_rm (d_rA + 3) 0 0) [.ref m] nx sh mu (fg_po R nx sh none r) := by
  refine bs_ct (by decide +kernel) (Nat.le_of_ble_eq_true rfl) ?_
  have kr : ∀ q, r = q → fg_R R q → (fg_po R nx sh none r) none nx sh q := fun q e hq => by subst e; exact ⟨rfl, rfl, rfl, rfl, hq⟩
  unfold FX12_moves at h
  refine bs_iconst (v := (nI 0)) dX12_moves_0 (by decide) ?_
  refine bs_istore_n dX12_moves_1 rfl (by decide) ?_
  refine bs_iconst (v := (nI 1)) dX12_moves_2 (by decide) ?_
  refine bs_istore_n dX12_moves_3 rfl (by decide) ?_
  obtain ⟨t17, k18, h⟩ := fg_bdE h
  refine bs_W.mk [(0, .ref m), (1, .int (nI 0)), (2, .int (nI 1))] (by intro q hq; simp only [List.mem_cons, List.not_mem_nil, or_false] at hq; rcases hq with rfl | rfl | rfl <;> rfl) ?_
  refine wFX12_moves_l4 HM h_rA _ _ _ _ k18 hR ?_
  intro s e hR
  subst e
  refine bs_iload_n dX12_moves_136 rfl ?_
  refine bs_if_ne (tgt := 144) dX12_moves_137 (by decide) (fun c => ?_) (fun c => ?_)
  · replace h := fg_iN c h
    cases h
    exact bs_vret dX12_moves_144 rfl (Nat.zero_le _) (Nat.zero_le _) (kr _ rfl hR)
  · replace h := fg_ip c h
    refine bs_aload_n dX12_moves_140 rfl ?_
    obtain ⟨mu20, k19, h⟩ := fg_bdE h
    refine fg_callVv dX12_moves_141 qX12_164 (wX12_bad HM hR k19) rfl (HM.s 0 rfl rfl rfl) rfl (Nat.le_of_ble_eq_true rfl) (fg_cr (by first | decide | omega) (by decide)) (fun hR => ?_)
    cases h
    exact bs_vret dX12_moves_144 rfl (Nat.zero_le _) (Nat.zero_le _) (kr _ rfl hR)
noncomputable def fg_rA (m : Nat) : Nat → bs_Mm → Option (bs_Mm)
  | 0 => fun _ => none
  | n + 1 => FX12_moves m (fg_rA m n)
theorem wfg_rA {nx : Nat} {sh : bs_Sh} {R : Nat → Nat → Option Nat} {m : Nat} (HM : fg_S (bs_tM m) R m sh) : ∀ (n : Nat) {mu : bs_Mm} {q : bs_Mm}, fg_R R mu → fg_rA m n mu = some q → bs_C mX12_moves (bs_rm (3 * n) 0 0) [.ref m] nx sh mu (fg_po R nx sh none q) := by
  intro n
  induction n with
  | zero => intro mu q hR h; cases h
  | succ n ih =>
    intro mu q hR h
    exact wX12_moves HM ih hR h
noncomputable def FX12_balloon (m : Nat) (mu : bs_Mm) : Option (bs_Mm) :=
  fg_b2 (FX12_look m mu) (fun v3 mu2 => 
  if v3 = (nI 35) then (
    fg_wr mu2 m 8 (.int ((bs_iv (mu2 m 8)) + (nI 1))) (fun mu4 => 
    fg_b2 (FX12_look m mu4) (fun v7 mu6 => 
    fg_bd (FX12_isDigit m mu6 v7) (fun v9 => 
    if v9 = 0 then (
      fg_bd (FX12_bad m mu6) (fun mu11 => 
      some mu11)
    ) else (
      if (v7 - (nI 48)) < (bs_iv (mu6 m 5)) then (
        fg_wr mu6 m 8 (.int ((bs_iv (mu6 m 8)) + (nI 1))) (fun mu12 => 
        fg_gd (fg_in (bs_iv (mu12 m 25)) 13) (
        fg_gd (fg_in (((nI 6) * (bs_iv (mu12 m 25))) + (bs_iv (mu12 (m + 6) (bs_iv (mu12 m 25)).toNatClampNeg))) 78) (
        fg_wr mu12 (m + 7) (((nI 6) * (bs_iv (mu12 m 25))) + (bs_iv (mu12 (m + 6) (bs_iv (mu12 m 25)).toNatClampNeg))).toNatClampNeg (.int (v7 - (nI 48))) (fun mu15 => 
        fg_gd (fg_in (bs_iv (mu15 m 25)) 13) (
        fg_gd (fg_in (bs_iv (mu15 m 25)) 13) (
        fg_wr mu15 (m + 6) (bs_iv (mu15 m 25)).toNatClampNeg (.int ((bs_iv (mu15 (m + 6) (bs_iv (mu15 m 25)).toNatClampNeg)) + (nI 1))) (fun mu18 => 
        fg_b2 (FX12_newPoint m mu18) (fun v21 mu20 => 
        fg_wr mu20 m 24 (.int v21) (fun mu22 => 
        fg_bd (FX12_moves m (fg_rA m 8) mu22) (fun mu24 => 
        some mu24))))))))))
      ) else (
        fg_bd (FX12_bad m mu6) (fun mu26 => 
        some mu26)
      )
    ))))
  ) else (
    fg_bd (FX12_bad m mu2) (fun mu28 => 
    some mu28)
  ))
set_option maxHeartbeats 4000000 in
theorem wX12_balloon {nx : Nat} {sh : bs_Sh} {R : Nat → Nat → Option Nat} {m : Nat} (HM : fg_S (bs_tM m) R m sh) {mu : bs_Mm} (hR : fg_R R mu) {r : bs_Mm} (h : FX12_balloon m mu = some r) : bs_C mX12_balloon (bs_rm 28 0 0) [.ref m] nx sh mu (fg_po R nx sh none r) := by
  refine bs_ct (by decide +kernel) (Nat.le_of_ble_eq_true rfl) ?_
  have kr : ∀ q, r = q → fg_R R q → (fg_po R nx sh none r) none nx sh q := fun q e hq => by subst e; exact ⟨rfl, rfl, rfl, rfl, hq⟩
  unfold FX12_balloon at h
  refine bs_aload_n dX12_balloon_0 rfl ?_
  obtain ⟨v3, mu2, k1, h⟩ := fg_b2E h
  refine fg_callV dX12_balloon_1 qX12_180 (wX12_look HM hR k1) rfl (HM.s 0 rfl rfl rfl) rfl (Nat.le_of_ble_eq_true rfl) (fg_cr (by first | decide | omega) (by decide)) (fun hR => ?_)
  refine bs_bipush (v := (nI 35)) dX12_balloon_4 (by decide) ?_
  refine bs_icmp_eq (tgt := 14) dX12_balloon_6 (by decide) (fun c => ?_) (fun c => ?_)
  · replace h := fg_ip c h
    refine bs_aload_n dX12_balloon_14 rfl ?_
    refine bs_dup dX12_balloon_15 rfl ?_
    refine bs_getI dX12_balloon_16 fX12_135 (HM.s 0 rfl rfl rfl) ?_
    refine bs_iconst (v := (nI 1)) dX12_balloon_19 (by decide) ?_
    refine bs_iadd dX12_balloon_20 ?_
    refine fg_putI dX12_balloon_21 pX12_135 (HM.s 0 rfl rfl rfl) (HM.n 0 8 rfl rfl rfl) hR h (fun mu4 hR h => ?_)
    refine bs_aload_n dX12_balloon_24 rfl ?_
    obtain ⟨v7, mu6, k5, h⟩ := fg_b2E h
    refine fg_callV dX12_balloon_25 qX12_180 (wX12_look HM hR k5) rfl (HM.s 0 rfl rfl rfl) rfl (Nat.le_of_ble_eq_true rfl) (fg_cr (by first | decide | omega) (by decide)) (fun hR => ?_)
    refine bs_istore_n dX12_balloon_28 rfl (by decide) ?_
    refine bs_iload_n dX12_balloon_29 rfl ?_
    obtain ⟨v9, k8, h⟩ := fg_bdE h
    refine fg_callS dX12_balloon_30 qX12_167 (wX12_isDigit HM hR k8) rfl rfl (Nat.le_of_ble_eq_true rfl) (fg_cr (by first | decide | omega) (by decide)) (fun hR => ?_)
    refine bs_if_eq (tgt := 47) dX12_balloon_33 (by decide) (fun c => ?_) (fun c => ?_)
    · replace h := fg_ip c h
      refine bs_aload_n dX12_balloon_47 rfl ?_
      obtain ⟨mu11, k10, h⟩ := fg_bdE h
      refine fg_callVv dX12_balloon_48 qX12_164 (wX12_bad HM hR k10) rfl (HM.s 0 rfl rfl rfl) rfl (Nat.le_of_ble_eq_true rfl) (fg_cr (by first | decide | omega) (by decide)) (fun hR => ?_)
      cases h
      exact bs_vret dX12_balloon_51 rfl (Nat.zero_le _) (Nat.zero_le _) (kr _ rfl hR)
    · replace h := fg_iN c h
      refine bs_iload_n dX12_balloon_36 rfl ?_
      refine bs_bipush (v := (nI 48)) dX12_balloon_37 (by decide) ?_
      refine bs_isub dX12_balloon_39 ?_
      refine bs_aload_n dX12_balloon_40 rfl ?_
      refine bs_getI dX12_balloon_41 fX12_125 (HM.s 0 rfl rfl rfl) ?_
      refine bs_icmp_lt (tgt := 52) dX12_balloon_44 (by decide) (fun c => ?_) (fun c => ?_)
      · replace h := fg_ip c h
        refine bs_aload_n dX12_balloon_52 rfl ?_
        refine bs_dup dX12_balloon_53 rfl ?_
        refine bs_getI dX12_balloon_54 fX12_135 (HM.s 0 rfl rfl rfl) ?_
        refine bs_iconst (v := (nI 1)) dX12_balloon_57 (by decide) ?_
        refine bs_iadd dX12_balloon_58 ?_
        refine fg_putI dX12_balloon_59 pX12_135 (HM.s 0 rfl rfl rfl) (HM.n 0 8 rfl rfl rfl) hR h (fun mu12 hR h => ?_)
        refine bs_aload_n dX12_balloon_62 rfl ?_
        refine fg_getR (b := (m + 7)) dX12_balloon_63 fX12_28 (HM.s 0 rfl rfl rfl) hR (HM.r 0 12 rfl rfl rfl) ?_
        refine bs_bipush (v := (nI 6)) dX12_balloon_66 (by decide) ?_
        refine bs_aload_n dX12_balloon_68 rfl ?_
        refine bs_getI dX12_balloon_69 fX12_161 (HM.s 0 rfl rfl rfl) ?_
        refine bs_imul dX12_balloon_72 ?_
        refine bs_aload_n dX12_balloon_73 rfl ?_
        refine fg_getR (b := (m + 6)) dX12_balloon_74 fX12_25 (HM.s 0 rfl rfl rfl) hR (HM.r 0 11 rfl rfl rfl) ?_
        refine bs_aload_n dX12_balloon_77 rfl ?_
        refine bs_getI dX12_balloon_78 fX12_161 (HM.s 0 rfl rfl rfl) ?_
        obtain ⟨g13, h⟩ := fg_gdE h
        refine bs_iald dX12_balloon_81 (HM.ss 6 rfl rfl) (fg_in_ix g13) ?_
        refine bs_iadd dX12_balloon_82 ?_
        refine bs_iload_n dX12_balloon_83 rfl ?_
        refine bs_bipush (v := (nI 48)) dX12_balloon_84 (by decide) ?_
        refine bs_isub dX12_balloon_86 ?_
        obtain ⟨g14, h⟩ := fg_gdE h
        refine fg_iast dX12_balloon_87 (HM.ss 7 rfl rfl) (fun j => HM.n 7 j rfl rfl rfl) g14 hR h (fun mu15 hR h => ?_)
        refine bs_aload_n dX12_balloon_88 rfl ?_
        refine fg_getR (b := (m + 6)) dX12_balloon_89 fX12_25 (HM.s 0 rfl rfl rfl) hR (HM.r 0 11 rfl rfl rfl) ?_
        refine bs_aload_n dX12_balloon_92 rfl ?_
        refine bs_getI dX12_balloon_93 fX12_161 (HM.s 0 rfl rfl rfl) ?_
        refine bs_dup2 dX12_balloon_96 rfl rfl ?_
        obtain ⟨g16, h⟩ := fg_gdE h
        refine bs_iald dX12_balloon_97 (HM.ss 6 rfl rfl) (fg_in_ix g16) ?_
        refine bs_iconst (v := (nI 1)) dX12_balloon_98 (by decide) ?_
        refine bs_iadd dX12_balloon_99 ?_
        obtain ⟨g17, h⟩ := fg_gdE h
        refine fg_iast dX12_balloon_100 (HM.ss 6 rfl rfl) (fun j => HM.n 6 j rfl rfl rfl) g17 hR h (fun mu18 hR h => ?_)
        refine bs_aload_n dX12_balloon_101 rfl ?_
        refine bs_aload_n dX12_balloon_102 rfl ?_
        obtain ⟨v21, mu20, k19, h⟩ := fg_b2E h
        refine fg_callV dX12_balloon_103 qX12_174 (wX12_newPoint HM hR k19) rfl (HM.s 0 rfl rfl rfl) rfl (Nat.le_of_ble_eq_true rfl) (fg_cr (by first | decide | omega) (by decide)) (fun hR => ?_)
        refine fg_putI dX12_balloon_106 pX12_171 (HM.s 0 rfl rfl rfl) (HM.n 0 24 rfl rfl rfl) hR h (fun mu22 hR h => ?_)
        refine bs_aload_n dX12_balloon_109 rfl ?_
        obtain ⟨mu24, k23, h⟩ := fg_bdE h
        refine fg_callVv dX12_balloon_110 qX12_196 (wX12_moves HM (wfg_rA HM 8) hR k23) rfl (HM.s 0 rfl rfl rfl) rfl (Nat.le_of_ble_eq_true rfl) (fg_cr (by first | decide | omega) (by decide)) (fun hR => ?_)
        cases h
        exact bs_vret dX12_balloon_113 rfl (Nat.zero_le _) (Nat.zero_le _) (kr _ rfl hR)
      · replace h := fg_iN c h
        refine bs_aload_n dX12_balloon_47 rfl ?_
        obtain ⟨mu26, k25, h⟩ := fg_bdE h
        refine fg_callVv dX12_balloon_48 qX12_164 (wX12_bad HM hR k25) rfl (HM.s 0 rfl rfl rfl) rfl (Nat.le_of_ble_eq_true rfl) (fg_cr (by first | decide | omega) (by decide)) (fun hR => ?_)
        cases h
        exact bs_vret dX12_balloon_51 rfl (Nat.zero_le _) (Nat.zero_le _) (kr _ rfl hR)
  · replace h := fg_iN c h
    refine bs_aload_n dX12_balloon_9 rfl ?_
    obtain ⟨mu28, k27, h⟩ := fg_bdE h
    refine fg_callVv dX12_balloon_10 qX12_164 (wX12_bad HM hR k27) rfl (HM.s 0 rfl rfl rfl) rfl (Nat.le_of_ble_eq_true rfl) (fg_cr (by first | decide | omega) (by decide)) (fun hR => ?_)
    cases h
    exact bs_vret dX12_balloon_13 rfl (Nat.zero_le _) (Nat.zero_le _) (kr _ rfl hR)
