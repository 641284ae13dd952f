noncomputable def FX12_close (m : Nat) (mu : bs_Mm) : Option (Int32 × bs_Mm) :=
  fg_wr mu m 45 (.int (nI 0)) (fun mu1 => 
  fg_wr mu1 m 46 (.int (nI 0)) (fun mu2 => 
  some ((bs_iv (mu m 45)), mu2)))
set_option maxHeartbeats 4000000 in
theorem wX12_close {nx : Nat} {sh : bs_Sh} {R : Nat → Nat → Option Nat} {m : Nat} (HM : fg_S (bs_tM m) R m sh) {mu : bs_Mm} (hR : fg_R R mu) {r : Int32 × bs_Mm} (h : FX12_close m mu = some r) : bs_C mX12_close (bs_rm 0 0 0) [.ref m] nx sh mu (fg_po R nx sh (some (.int r.1)) r.2) := by
  refine bs_ct (by decide +kernel) (Nat.le_of_ble_eq_true rfl) ?_
  have kr : ∀ q, r = q → fg_R R q.2 → (fg_po R nx sh (some (.int r.1)) r.2) (some (.int q.1)) nx sh q.2 := fun q e hq => by subst e; exact ⟨rfl, rfl, rfl, rfl, hq⟩
  unfold FX12_close at h
  refine bs_aload_n dX12_close_0 rfl ?_
  refine bs_getI dX12_close_1 fX12_393 (HM.s 0 rfl rfl rfl) ?_
  refine bs_istore_n dX12_close_4 rfl (by decide) ?_
  refine bs_aload_n dX12_close_5 rfl ?_
  refine bs_iconst (v := (nI 0)) dX12_close_6 (by decide) ?_
  refine fg_putI dX12_close_7 pX12_393 (HM.s 0 rfl rfl rfl) (HM.n 0 45 rfl rfl rfl) hR h (fun mu1 hR h => ?_)
  refine bs_aload_n dX12_close_10 rfl ?_
  refine bs_iconst (v := (nI 0)) dX12_close_11 (by decide) ?_
  refine fg_putI dX12_close_12 pX12_396 (HM.s 0 rfl rfl rfl) (HM.n 0 46 rfl rfl rfl) hR h (fun mu2 hR h => ?_)
  refine bs_iload_n dX12_close_15 rfl ?_
  cases h
  exact bs_iret dX12_close_16 rfl (Nat.zero_le _) (Nat.zero_le _) (kr _ rfl hR)
noncomputable def FX12_comes_j31 (m : Nat) (mu : bs_Mm) (l1 : Int32) (l2 : Int32) (l3 : Int32) (t0 : Int32) (t1 : Int32) : Option (Int32 × bs_Mm) :=
  fg_bd (FX12_in m mu t0 t1 (nI 9999)) (fun v5 => 
  if v5 = 0 then (
    some ((-1), mu)
  ) else (
    fg_bd (FX12_in m mu l3 (nI 0) (nI 999)) (fun v7 => 
    if v7 = 0 then (
      some ((-1), mu)
    ) else (
      if (bs_iv (mu m 45)) = (nI 30) then (
        some ((-1), mu)
      ) else (
        fg_gd (fg_in (bs_iv (mu m 45)) 30) (
        fg_wr mu (m + 28) (bs_iv (mu m 45)).toNatClampNeg (.int l1) (fun mu9 => 
        fg_gd (fg_in (bs_iv (mu9 m 45)) 30) (
        fg_wr mu9 (m + 29) (bs_iv (mu9 m 45)).toNatClampNeg (.int l2) (fun mu11 => 
        fg_gd (fg_in (bs_iv (mu11 m 45)) 30) (
        fg_wr mu11 (m + 30) (bs_iv (mu11 m 45)).toNatClampNeg (.int l3) (fun mu13 => 
        fg_wr mu13 m 45 (.int ((bs_iv (mu13 m 45)) + (nI 1))) (fun mu14 => 
        some (((bs_iv (mu14 m 45)) - (nI 1)), mu14))))))))
      )
    ))
  ))
set_option maxHeartbeats 4000000 in
theorem wFX12_comes_j31 {nx : Nat} {sh : bs_Sh} {R : Nat → Nat → Option Nat} {m : Nat} (HM : fg_S (bs_tM m) R m sh) {mu : bs_Mm} {l1 : Int32} {l2 : Int32} {l3 : Int32} {t0 : Int32} {t1 : Int32} {Ph : bs_Po} {r : Int32 × bs_Mm} (kr : ∀ q, r = q → fg_R R q.2 → Ph (some (.int q.1)) nx sh q.2) (hR : fg_R R mu) (h : FX12_comes_j31 m mu l1 l2 l3 t0 t1 = some r) : bs_W Ph mX12_comes (bs_rm 2 0 0) 31 (bs_mk [(0, .ref m), (1, .int l1), (2, .int l2), (3, .int l3)]) [.int t1, .int t0] 0 0 nx sh mu := by
  unfold FX12_comes_j31 at h
  refine bs_sipush (v := (nI 9999)) dX12_comes_31 (by decide) ?_
  obtain ⟨v5, k4, h⟩ := fg_bdE h
  refine fg_callS dX12_comes_34 qX12_121 (wX12_in HM hR k4) rfl rfl (Nat.le_of_ble_eq_true rfl) (fg_cr (by first | decide | omega) (by decide)) (fun hR => ?_)
  refine bs_if_eq (tgt := 60) dX12_comes_37 (by decide) (fun c => ?_) (fun c => ?_)
  · replace h := fg_ip c h
    refine bs_iconst (v := (-1)) dX12_comes_60 (by decide) ?_
    cases h
    exact bs_iret dX12_comes_61 rfl (Nat.zero_le _) (Nat.zero_le _) (kr _ rfl hR)
  · replace h := fg_iN c h
    refine bs_iload_n dX12_comes_40 rfl ?_
    refine bs_iconst (v := (nI 0)) dX12_comes_41 (by decide) ?_
    refine bs_sipush (v := (nI 999)) dX12_comes_42 (by decide) ?_
    obtain ⟨v7, k6, h⟩ := fg_bdE h
    refine fg_callS dX12_comes_45 qX12_121 (wX12_in HM hR k6) rfl rfl (Nat.le_of_ble_eq_true rfl) (fg_cr (by first | decide | omega) (by decide)) (fun hR => ?_)
    refine bs_if_eq (tgt := 60) dX12_comes_48 (by decide) (fun c => ?_) (fun c => ?_)
    · replace h := fg_ip c h
      refine bs_iconst (v := (-1)) dX12_comes_60 (by decide) ?_
      cases h
      exact bs_iret dX12_comes_61 rfl (Nat.zero_le _) (Nat.zero_le _) (kr _ rfl hR)
    · replace h := fg_iN c h
      refine bs_aload_n dX12_comes_51 rfl ?_
      refine bs_getI dX12_comes_52 fX12_393 (HM.s 0 rfl rfl rfl) ?_
      refine bs_bipush (v := (nI 30)) dX12_comes_55 (by decide) ?_
      refine bs_icmp_ne (tgt := 62) dX12_comes_57 (by decide) (fun c => ?_) (fun c => ?_)
      · replace h := fg_iN c h
        refine bs_aload_n dX12_comes_62 rfl ?_
        refine fg_getR (b := (m + 28)) dX12_comes_63 fX12_93 (HM.s 0 rfl rfl rfl) hR (HM.r 0 40 rfl rfl rfl) ?_
        refine bs_aload_n dX12_comes_66 rfl ?_
        refine bs_getI dX12_comes_67 fX12_393 (HM.s 0 rfl rfl rfl) ?_
        refine bs_iload_n dX12_comes_70 rfl ?_
        obtain ⟨g8, h⟩ := fg_gdE h
        refine fg_iast dX12_comes_71 (HM.ss 28 rfl rfl) (fun j => HM.n 28 j rfl rfl rfl) g8 hR h (fun mu9 hR h => ?_)
        refine bs_aload_n dX12_comes_72 rfl ?_
        refine fg_getR (b := (m + 29)) dX12_comes_73 fX12_96 (HM.s 0 rfl rfl rfl) hR (HM.r 0 41 rfl rfl rfl) ?_
        refine bs_aload_n dX12_comes_76 rfl ?_
        refine bs_getI dX12_comes_77 fX12_393 (HM.s 0 rfl rfl rfl) ?_
        refine bs_iload_n dX12_comes_80 rfl ?_
        obtain ⟨g10, h⟩ := fg_gdE h
        refine fg_iast dX12_comes_81 (HM.ss 29 rfl rfl) (fun j => HM.n 29 j rfl rfl rfl) g10 hR h (fun mu11 hR h => ?_)
        refine bs_aload_n dX12_comes_82 rfl ?_
        refine fg_getR (b := (m + 30)) dX12_comes_83 fX12_99 (HM.s 0 rfl rfl rfl) hR (HM.r 0 42 rfl rfl rfl) ?_
        refine bs_aload_n dX12_comes_86 rfl ?_
        refine bs_getI dX12_comes_87 fX12_393 (HM.s 0 rfl rfl rfl) ?_
        refine bs_iload_n dX12_comes_90 rfl ?_
        obtain ⟨g12, h⟩ := fg_gdE h
        refine fg_iast dX12_comes_91 (HM.ss 30 rfl rfl) (fun j => HM.n 30 j rfl rfl rfl) g12 hR h (fun mu13 hR h => ?_)
        refine bs_aload_n dX12_comes_92 rfl ?_
        refine bs_dup dX12_comes_93 rfl ?_
        refine bs_getI dX12_comes_94 fX12_393 (HM.s 0 rfl rfl rfl) ?_
        refine bs_iconst (v := (nI 1)) dX12_comes_97 (by decide) ?_
        refine bs_iadd dX12_comes_98 ?_
        refine fg_putI dX12_comes_99 pX12_393 (HM.s 0 rfl rfl rfl) (HM.n 0 45 rfl rfl rfl) hR h (fun mu14 hR h => ?_)
        refine bs_aload_n dX12_comes_102 rfl ?_
        refine bs_getI dX12_comes_103 fX12_393 (HM.s 0 rfl rfl rfl) ?_
        refine bs_iconst (v := (nI 1)) dX12_comes_106 (by decide) ?_
        refine bs_isub dX12_comes_107 ?_
        cases h
        exact bs_iret dX12_comes_108 rfl (Nat.zero_le _) (Nat.zero_le _) (kr _ rfl hR)
      · replace h := fg_ip c h
        refine bs_iconst (v := (-1)) dX12_comes_60 (by decide) ?_
        cases h
        exact bs_iret dX12_comes_61 rfl (Nat.zero_le _) (Nat.zero_le _) (kr _ rfl hR)
noncomputable def FX12_comes (m : Nat) (mu : bs_Mm) (p1 : Int32) (p2 : Int32) (p3 : Int32) : Option (Int32 × bs_Mm) :=
  fg_bd (FX12_isFigure m mu p2) (fun v2 => 
  if v2 = 0 then (
    some ((-1), mu)
  ) else (
    if (bs_iv (mu m 45)) = 0 then (
      FX12_comes_j31 m mu p1 p2 p3 p1 (nI 0)
    ) else (
      fg_gd (fg_in ((bs_iv (mu m 45)) - (nI 1)) 30) (
      FX12_comes_j31 m mu p1 p2 p3 p1 (bs_iv (mu (m + 28) ((bs_iv (mu m 45)) - (nI 1)).toNatClampNeg)))
    )
  ))
set_option maxHeartbeats 4000000 in
theorem wX12_comes {nx : Nat} {sh : bs_Sh} {R : Nat → Nat → Option Nat} {m : Nat} (HM : fg_S (bs_tM m) R m sh) {mu : bs_Mm} (hR : fg_R R mu) {p1 : Int32} {p2 : Int32} {p3 : Int32} {r : Int32 × bs_Mm} (h : FX12_comes m mu p1 p2 p3 = some r) : bs_C mX12_comes (bs_rm 2 0 0) [.ref m, .int p1, .int p2, .int p3] nx sh mu (fg_po R nx sh (some (.int r.1)) r.2) := by
  refine bs_ct (by decide +kernel) (Nat.le_of_ble_eq_true rfl) ?_
  have kr : ∀ q, r = q → fg_R R q.2 → (fg_po R nx sh (some (.int r.1)) r.2) (some (.int q.1)) nx sh q.2 := fun q e hq => by subst e; exact ⟨rfl, rfl, rfl, rfl, hq⟩
  unfold FX12_comes at h
  refine bs_aload_n dX12_comes_0 rfl ?_
  refine bs_iload_n dX12_comes_1 rfl ?_
  obtain ⟨v2, k1, h⟩ := fg_bdE h
  refine fg_callV dX12_comes_2 qX12_284 (wX12_isFigure HM hR k1) rfl (HM.s 0 rfl rfl rfl) rfl (Nat.le_of_ble_eq_true rfl) (fg_cr (by first | decide | omega) (by decide)) (fun hR => ?_)
  refine bs_if_eq (tgt := 60) dX12_comes_5 (by decide) (fun c => ?_) (fun c => ?_)
  · replace h := fg_ip c h
    refine bs_iconst (v := (-1)) dX12_comes_60 (by decide) ?_
    cases h
    exact bs_iret dX12_comes_61 rfl (Nat.zero_le _) (Nat.zero_le _) (kr _ rfl hR)
  · replace h := fg_iN c h
    refine bs_iload_n dX12_comes_8 rfl ?_
    refine bs_aload_n dX12_comes_9 rfl ?_
    refine bs_getI dX12_comes_10 fX12_393 (HM.s 0 rfl rfl rfl) ?_
    refine bs_if_ne (tgt := 20) dX12_comes_13 (by decide) (fun c => ?_) (fun c => ?_)
    · replace h := fg_iN c h
      refine bs_aload_n dX12_comes_20 rfl ?_
      refine fg_getR (b := (m + 28)) dX12_comes_21 fX12_93 (HM.s 0 rfl rfl rfl) hR (HM.r 0 40 rfl rfl rfl) ?_
      refine bs_aload_n dX12_comes_24 rfl ?_
      refine bs_getI dX12_comes_25 fX12_393 (HM.s 0 rfl rfl rfl) ?_
      refine bs_iconst (v := (nI 1)) dX12_comes_28 (by decide) ?_
      refine bs_isub dX12_comes_29 ?_
      obtain ⟨g3, h⟩ := fg_gdE h
      refine bs_iald dX12_comes_30 (HM.ss 28 rfl rfl) (fg_in_ix g3) ?_
      refine bs_W.mk [(0, .ref m), (1, .int p1), (2, .int p2), (3, .int p3)] (by intro q hq; simp only [List.mem_cons, List.not_mem_nil, or_false] at hq; rcases hq with rfl | rfl | rfl | rfl <;> rfl) ?_
      exact wFX12_comes_j31 HM kr hR h
    · replace h := fg_ip c h
      refine bs_iconst (v := (nI 0)) dX12_comes_16 (by decide) ?_
      refine bs_goto (tgt := 31) dX12_comes_17 (by decide) ?_
      refine bs_W.mk [(0, .ref m), (1, .int p1), (2, .int p2), (3, .int p3)] (by intro q hq; simp only [List.mem_cons, List.not_mem_nil, or_false] at hq; rcases hq with rfl | rfl | rfl | rfl <;> rfl) ?_
      exact wFX12_comes_j31 HM kr hR h
noncomputable def FX12_count (m : Nat) (mu : bs_Mm) (p1 : Int32) : Option (Int32) :=
  if p1 = (nI 0) then (
    some ((bs_iv (mu m 5)))
  ) else (
  if p1 = (nI 1) then (
    some ((bs_iv (mu m 20)))
  ) else (
  if p1 = (nI 2) then (
    some ((bs_iv (mu m 45)))
  ) else (
  if p1 = (nI 3) then (
    some ((bs_iv (mu m 7)))
  ) else (
  if p1 = (nI 4) then (
    some ((bs_iv (mu m 31)))
  ) else (
  some ((-1))
  )))))
set_option maxHeartbeats 4000000 in
theorem wX12_count {nx : Nat} {sh : bs_Sh} {R : Nat → Nat → Option Nat} {m : Nat} (HM : fg_S (bs_tM m) R m sh) {mu : bs_Mm} (hR : fg_R R mu) {p1 : Int32} {r : Int32} (h : FX12_count m mu p1 = some r) : bs_C mX12_count (bs_rm 0 0 0) [.ref m, .int p1] nx sh mu (fg_po R nx sh (some (.int r)) mu) := by
  refine bs_ct (by decide +kernel) (Nat.le_of_ble_eq_true rfl) ?_
  have kr : ∀ q, r = q → fg_R R mu → (fg_po R nx sh (some (.int r)) mu) (some (.int q)) nx sh mu := fun q e hq => by subst e; exact ⟨rfl, rfl, rfl, rfl, hq⟩
  unfold FX12_count at h
  refine bs_iload_n dX12_count_0 rfl ?_
  by_cases e1 : p1 = (nI 0)
  · replace h := fg_ip e1 h
    refine bs_tableIn (off := 35) (tgt := 36) dX12_count_1 (by rw [e1]; decide) (by rw [e1]; decide) (by rw [e1]; decide) (by decide) ?_
    refine bs_aload_n dX12_count_36 rfl ?_
    refine bs_getI dX12_count_37 fX12_125 (HM.s 0 rfl rfl rfl) ?_
    cases h
    exact bs_iret dX12_count_40 rfl (Nat.zero_le _) (Nat.zero_le _) (kr _ rfl hR)
  · replace h := fg_iN e1 h
    by_cases e2 : p1 = (nI 1)
    · replace h := fg_ip e2 h
      refine bs_tableIn (off := 40) (tgt := 41) dX12_count_1 (by rw [e2]; decide) (by rw [e2]; decide) (by rw [e2]; decide) (by decide) ?_
      refine bs_aload_n dX12_count_41 rfl ?_
      refine bs_getI dX12_count_42 fX12_252 (HM.s 0 rfl rfl rfl) ?_
      cases h
      exact bs_iret dX12_count_45 rfl (Nat.zero_le _) (Nat.zero_le _) (kr _ rfl hR)
    · replace h := fg_iN e2 h
      by_cases e3 : p1 = (nI 2)
      · replace h := fg_ip e3 h
        refine bs_tableIn (off := 45) (tgt := 46) dX12_count_1 (by rw [e3]; decide) (by rw [e3]; decide) (by rw [e3]; decide) (by decide) ?_
        refine bs_aload_n dX12_count_46 rfl ?_
        refine bs_getI dX12_count_47 fX12_393 (HM.s 0 rfl rfl rfl) ?_
        cases h
        exact bs_iret dX12_count_50 rfl (Nat.zero_le _) (Nat.zero_le _) (kr _ rfl hR)
      · replace h := fg_iN e3 h
        by_cases e4 : p1 = (nI 3)
        · replace h := fg_ip e4 h
          refine bs_tableIn (off := 50) (tgt := 51) dX12_count_1 (by rw [e4]; decide) (by rw [e4]; decide) (by rw [e4]; decide) (by decide) ?_
          refine bs_aload_n dX12_count_51 rfl ?_
          refine bs_getI dX12_count_52 fX12_132 (HM.s 0 rfl rfl rfl) ?_
          cases h
          exact bs_iret dX12_count_55 rfl (Nat.zero_le _) (Nat.zero_le _) (kr _ rfl hR)
        · replace h := fg_iN e4 h
          by_cases e5 : p1 = (nI 4)
          · replace h := fg_ip e5 h
            refine bs_tableIn (off := 55) (tgt := 56) dX12_count_1 (by rw [e5]; decide) (by rw [e5]; decide) (by rw [e5]; decide) (by decide) ?_
            refine bs_aload_n dX12_count_56 rfl ?_
            refine bs_getI dX12_count_57 fX12_255 (HM.s 0 rfl rfl rfl) ?_
            cases h
            exact bs_iret dX12_count_60 rfl (Nat.zero_le _) (Nat.zero_le _) (kr _ rfl hR)
          · replace h := fg_iN e5 h
            refine fg_tabD (b := 0) (tgt := 61) (sp := [0, 1, 2, 3, 4]) dX12_count_1 (by decide) (by decide) (by decide) ?_ (by decide) ?_
            · intro k hk; simp only [List.mem_cons, List.not_mem_nil, or_false] at hk; rcases hk with rfl | rfl | rfl | rfl | rfl <;> assumption
            · refine bs_iconst (v := (-1)) dX12_count_61 (by decide) ?_
              cases h
              exact bs_iret dX12_count_62 rfl (Nat.zero_le _) (Nat.zero_le _) (kr _ rfl hR)
noncomputable def FX12_end (m : Nat) (mu : bs_Mm) (p1 : Int32) : Option (Int32 × bs_Mm) :=
  if p1 < 0 then (
    some ((nI 0), mu)
  ) else (
    if p1 ≤ (bs_iv (mu m 7)) then (
      fg_wr mu m 7 (.int p1) (fun mu1 => 
      some ((nI 1), mu1))
    ) else (
      some ((nI 0), mu)
    )
  )
set_option maxHeartbeats 4000000 in
theorem wX12_end {nx : Nat} {sh : bs_Sh} {R : Nat → Nat → Option Nat} {m : Nat} (HM : fg_S (bs_tM m) R m sh) {mu : bs_Mm} (hR : fg_R R mu) {p1 : Int32} {r : Int32 × bs_Mm} (h : FX12_end m mu p1 = some r) : bs_C mX12_end (bs_rm 0 0 0) [.ref m, .int p1] nx sh mu (fg_po R nx sh (some (.int r.1)) r.2) := by
  refine bs_ct (by decide +kernel) (Nat.le_of_ble_eq_true rfl) ?_
  have kr : ∀ q, r = q → fg_R R q.2 → (fg_po R nx sh (some (.int r.1)) r.2) (some (.int q.1)) nx sh q.2 := fun q e hq => by subst e; exact ⟨rfl, rfl, rfl, rfl, hq⟩
  unfold FX12_end at h
  refine bs_iload_n dX12_end_0 rfl ?_
  refine bs_if_lt (tgt := 12) dX12_end_1 (by decide) (fun c => ?_) (fun c => ?_)
  · replace h := fg_ip c h
    refine bs_iconst (v := (nI 0)) dX12_end_12 (by decide) ?_
    cases h
    exact bs_zret dX12_end_13 rfl (Or.inl rfl) (Nat.zero_le _) (Nat.zero_le _) (kr _ rfl hR)
  · replace h := fg_iN c h
    refine bs_iload_n dX12_end_4 rfl ?_
    refine bs_aload_n dX12_end_5 rfl ?_
    refine bs_getI dX12_end_6 fX12_132 (HM.s 0 rfl rfl rfl) ?_
    refine bs_icmp_le (tgt := 14) dX12_end_9 (by decide) (fun c => ?_) (fun c => ?_)
    · replace h := fg_ip c h
      refine bs_aload_n dX12_end_14 rfl ?_
      refine bs_iload_n dX12_end_15 rfl ?_
      refine fg_putI dX12_end_16 pX12_132 (HM.s 0 rfl rfl rfl) (HM.n 0 7 rfl rfl rfl) hR h (fun mu1 hR h => ?_)
      refine bs_iconst (v := (nI 1)) dX12_end_19 (by decide) ?_
      cases h
      exact bs_zret dX12_end_20 rfl (Or.inr rfl) (Nat.zero_le _) (Nat.zero_le _) (kr _ rfl hR)
    · replace h := fg_iN c h
      refine bs_iconst (v := (nI 0)) dX12_end_12 (by decide) ?_
      cases h
      exact bs_zret dX12_end_13 rfl (Or.inl rfl) (Nat.zero_le _) (Nat.zero_le _) (kr _ rfl hR)
noncomputable def FX12_ends (m : Nat) (mu : bs_Mm) (p1 : Int32) (p2 : Int32) : Option (Int32) :=
  fg_bd (FX12_isPoint m mu p1 p2) (fun v2 => 
  if v2 = 0 then (
    some ((-1))
  ) else (
    fg_bd (FX12_all m mu p1) (fun v4 => 
    fg_bd (FX12_endsIn m mu p1 p2 v4) (fun v6 => 
    some (v6)))
  ))
set_option maxHeartbeats 4000000 in
theorem wX12_ends {nx : Nat} {sh : bs_Sh} {R : Nat → Nat → Option Nat} {m : Nat} (HM : fg_S (bs_tM m) R m sh) {mu : bs_Mm} (hR : fg_R R mu) {p1 : Int32} {p2 : Int32} {r : Int32} (h : FX12_ends m mu p1 p2 = some r) : bs_C mX12_ends (bs_rm 3 0 0) [.ref m, .int p1, .int p2] nx sh mu (fg_po R nx sh (some (.int r)) mu) := by
  refine bs_ct (by decide +kernel) (Nat.le_of_ble_eq_true rfl) ?_
  have kr : ∀ q, r = q → fg_R R mu → (fg_po R nx sh (some (.int r)) mu) (some (.int q)) nx sh mu := fun q e hq => by subst e; exact ⟨rfl, rfl, rfl, rfl, hq⟩
  unfold FX12_ends at h
  refine bs_aload_n dX12_ends_0 rfl ?_
  refine bs_iload_n dX12_ends_1 rfl ?_
  refine bs_iload_n dX12_ends_2 rfl ?_
  obtain ⟨v2, k1, h⟩ := fg_bdE h
  refine fg_callV dX12_ends_3 qX12_307 (wX12_isPoint HM hR k1) rfl (HM.s 0 rfl rfl rfl) rfl (Nat.le_of_ble_eq_true rfl) (fg_cr (by first | decide | omega) (by decide)) (fun hR => ?_)
  refine bs_if_eq (tgt := 23) dX12_ends_6 (by decide) (fun c => ?_) (fun c => ?_)
  · replace h := fg_ip c h
    refine bs_iconst (v := (-1)) dX12_ends_23 (by decide) ?_
    cases h
    exact bs_iret dX12_ends_24 rfl (Nat.zero_le _) (Nat.zero_le _) (kr _ rfl hR)
  · replace h := fg_iN c h
    refine bs_aload_n dX12_ends_9 rfl ?_
    refine bs_iload_n dX12_ends_10 rfl ?_
    refine bs_iload_n dX12_ends_11 rfl ?_
    refine bs_aload_n dX12_ends_12 rfl ?_
    refine bs_iload_n dX12_ends_13 rfl ?_
    obtain ⟨v4, k3, h⟩ := fg_bdE h
    refine fg_callV dX12_ends_14 qX12_287 (wX12_all HM hR k3) rfl (HM.s 0 rfl rfl rfl) rfl (Nat.le_of_ble_eq_true rfl) (fg_cr (by first | decide | omega) (by decide)) (fun hR => ?_)
    obtain ⟨v6, k5, h⟩ := fg_bdE h
    refine fg_callV dX12_ends_17 qX12_290 (wX12_endsIn HM hR k5) rfl (HM.s 0 rfl rfl rfl) rfl (Nat.le_of_ble_eq_true rfl) (fg_cr (by first | decide | omega) (by decide)) (fun hR => ?_)
    refine bs_goto (tgt := 24) dX12_ends_20 (by decide) ?_
    cases h
    exact bs_iret dX12_ends_24 rfl (Nat.zero_le _) (Nat.zero_le _) (kr _ rfl hR)
noncomputable def FX12_meets_b3 (m : Nat) (mu : bs_Mm) (l1 : Int32) (l2 : Int32) (l3 : Int32) (s : Int32) : Option ((Int32) ⊕ ((Unit) ⊕ (Int32))) :=
  fg_gd (fg_in l1 13) (
  if (bs_iv (mu (m + 8) l1.toNatClampNeg)) ≤ s then (
    some (.inr (.inl ()))
  ) else (
    if ((l3 >>> (s &&& 31)) &&& (nI 1)) = (nI 1) then (
      fg_gd (fg_in (((nI 24) * l1) + s) 312) (
      fg_gd (fg_in (((nI 24) * l1) + l2) 312) (
      if (bs_iv (mu (m + 11) (((nI 24) * l1) + s).toNatClampNeg)) = (bs_iv (mu (m + 11) (((nI 24) * l1) + l2).toNatClampNeg)) then (
        some (.inr (.inr ((nI 1))))
      ) else (
        fg_gd (fg_in (((nI 24) * l1) + s) 312) (
        fg_gd (fg_in (((nI 24) * l1) + l2) 312) (
        if (bs_iv (mu (m + 11) (((nI 24) * l1) + s).toNatClampNeg)) = (bs_iv (mu (m + 12) (((nI 24) * l1) + l2).toNatClampNeg)) then (
          some (.inr (.inr ((nI 1))))
        ) else (
          fg_gd (fg_in (((nI 24) * l1) + s) 312) (
          fg_gd (fg_in (((nI 24) * l1) + l2) 312) (
          if (bs_iv (mu (m + 12) (((nI 24) * l1) + s).toNatClampNeg)) = (bs_iv (mu (m + 11) (((nI 24) * l1) + l2).toNatClampNeg)) then (
            some (.inr (.inr ((nI 1))))
          ) else (
            fg_gd (fg_in (((nI 24) * l1) + s) 312) (
            fg_gd (fg_in (((nI 24) * l1) + l2) 312) (
            if (bs_iv (mu (m + 12) (((nI 24) * l1) + s).toNatClampNeg)) = (bs_iv (mu (m + 12) (((nI 24) * l1) + l2).toNatClampNeg)) then (
              some (.inr (.inr ((nI 1))))
            ) else (
              some (.inl (s + (nI 1)))
            )))
          )))
        )))
      )))
    ) else (
      some (.inl (s + (nI 1)))
    )
  ))
set_option maxHeartbeats 4000000 in
theorem wFX12_meets_b3 {nx : Nat} {sh : bs_Sh} {R : Nat → Nat → Option Nat} {m : Nat} (HM : fg_S (bs_tM m) R m sh) {mu : bs_Mm} {l1 : Int32} {l2 : Int32} {l3 : Int32} {Ph : bs_Po} {s : Int32} {r : (Int32) ⊕ ((Unit) ⊕ (Int32))} (ka : ∀ s, r = .inl s → bs_W Ph mX12_meets (bs_rm 0 0 0) 3 (bs_mk [(0, .ref m), (1, .int l1), (2, .int l2), (3, .int l3), (4, .int s)]) [] 0 0 nx sh mu) (ke : ∀ s, r = .inr (.inl s) → bs_W Ph mX12_meets (bs_rm 0 0 0) 117 (bs_mk [(0, .ref m), (1, .int l1), (2, .int l2), (3, .int l3)]) [] 0 0 nx sh mu) (kr : ∀ q, r = .inr (.inr q) → fg_R R mu → Ph (some (.int q)) nx sh mu) (hR : fg_R R mu) (h : FX12_meets_b3 m mu l1 l2 l3 s = some r) : bs_W Ph mX12_meets (bs_rm 0 0 0) 3 (bs_mk [(0, .ref m), (1, .int l1), (2, .int l2), (3, .int l3), (4, .int s)]) [] 0 0 nx sh mu := by
  unfold FX12_meets_b3 at h
  refine bs_iload dX12_meets_3 rfl ?_
  refine bs_aload_n dX12_meets_5 rfl ?_
  refine fg_getR (b := (m + 8)) dX12_meets_6 fX12_31 (HM.s 0 rfl rfl rfl) hR (HM.r 0 13 rfl rfl rfl) ?_
  refine bs_iload_n dX12_meets_9 rfl ?_
  obtain ⟨g1, h⟩ := fg_gdE h
  refine bs_iald dX12_meets_10 (HM.ss 8 rfl rfl) (fg_in_ix g1) ?_
  refine bs_icmp_ge (tgt := 117) dX12_meets_11 (by decide) (fun c => ?_) (fun c => ?_)
  · replace h := fg_ip c h
    cases h
    refine bs_W.mk [(0, .ref m), (1, .int l1), (2, .int l2), (3, .int l3)] (by intro q hq; simp only [List.mem_cons, List.not_mem_nil, or_false] at hq; rcases hq with rfl | rfl | rfl | rfl <;> rfl) (ke _ rfl)
  · replace h := fg_iN c h
    refine bs_iload_n dX12_meets_14 rfl ?_
    refine bs_iload dX12_meets_15 rfl ?_
    refine bs_ishr dX12_meets_17 ?_
    refine bs_iconst (v := (nI 1)) dX12_meets_18 (by decide) ?_
    refine bs_iand dX12_meets_19 ?_
    refine bs_iconst (v := (nI 1)) dX12_meets_20 (by decide) ?_
    refine bs_icmp_ne (tgt := 111) dX12_meets_21 (by decide) (fun c => ?_) (fun c => ?_)
    · replace h := fg_iN c h
      refine fg_iinc (m := (nI 1)) dX12_meets_111 rfl rfl (by decide) ?_
      refine bs_goto (tgt := 3) dX12_meets_114 (by decide) ?_
      cases h
      refine bs_W.mk [(0, .ref m), (1, .int l1), (2, .int l2), (3, .int l3), (4, .int (s + (nI 1)))] (by intro q hq; simp only [List.mem_cons, List.not_mem_nil, or_false] at hq; rcases hq with rfl | rfl | rfl | rfl | rfl <;> rfl) (ka _ rfl)
    · replace h := fg_ip c h
      refine bs_bipush (v := (nI 24)) dX12_meets_24 (by decide) ?_
      refine bs_iload_n dX12_meets_26 rfl ?_
      refine bs_imul dX12_meets_27 ?_
      refine bs_iload dX12_meets_28 rfl ?_
      refine bs_iadd dX12_meets_30 ?_
      refine bs_istore dX12_meets_31 rfl (by decide) ?_
      refine bs_bipush (v := (nI 24)) dX12_meets_33 (by decide) ?_
      refine bs_iload_n dX12_meets_35 rfl ?_
      refine bs_imul dX12_meets_36 ?_
      refine bs_iload_n dX12_meets_37 rfl ?_
      refine bs_iadd dX12_meets_38 ?_
      refine bs_istore dX12_meets_39 rfl (by decide) ?_
      refine bs_aload_n dX12_meets_41 rfl ?_
      refine fg_getR (b := (m + 11)) dX12_meets_42 fX12_40 (HM.s 0 rfl rfl rfl) hR (HM.r 0 16 rfl rfl rfl) ?_
      refine bs_iload dX12_meets_45 rfl ?_
      obtain ⟨g2, h⟩ := fg_gdE h
      refine bs_iald dX12_meets_47 (HM.ss 11 rfl rfl) (fg_in_ix g2) ?_
      refine bs_aload_n dX12_meets_48 rfl ?_
      refine fg_getR (b := (m + 11)) dX12_meets_49 fX12_40 (HM.s 0 rfl rfl rfl) hR (HM.r 0 16 rfl rfl rfl) ?_
      refine bs_iload dX12_meets_52 rfl ?_
      obtain ⟨g3, h⟩ := fg_gdE h
      refine bs_iald dX12_meets_54 (HM.ss 11 rfl rfl) (fg_in_ix g3) ?_
      refine bs_icmp_eq (tgt := 109) dX12_meets_55 (by decide) (fun c => ?_) (fun c => ?_)
      · replace h := fg_ip c h
        refine bs_iconst (v := (nI 1)) dX12_meets_109 (by decide) ?_
        cases h
        exact bs_zret dX12_meets_110 rfl (Or.inr rfl) (Nat.zero_le _) (Nat.zero_le _) (kr _ rfl hR)
      · replace h := fg_iN c h
        refine bs_aload_n dX12_meets_58 rfl ?_
        refine fg_getR (b := (m + 11)) dX12_meets_59 fX12_40 (HM.s 0 rfl rfl rfl) hR (HM.r 0 16 rfl rfl rfl) ?_
        refine bs_iload dX12_meets_62 rfl ?_
        obtain ⟨g4, h⟩ := fg_gdE h
        refine bs_iald dX12_meets_64 (HM.ss 11 rfl rfl) (fg_in_ix g4) ?_
        refine bs_aload_n dX12_meets_65 rfl ?_
        refine fg_getR (b := (m + 12)) dX12_meets_66 fX12_43 (HM.s 0 rfl rfl rfl) hR (HM.r 0 17 rfl rfl rfl) ?_
        refine bs_iload dX12_meets_69 rfl ?_
        obtain ⟨g5, h⟩ := fg_gdE h
        refine bs_iald dX12_meets_71 (HM.ss 12 rfl rfl) (fg_in_ix g5) ?_
        refine bs_icmp_eq (tgt := 109) dX12_meets_72 (by decide) (fun c => ?_) (fun c => ?_)
        · replace h := fg_ip c h
          refine bs_iconst (v := (nI 1)) dX12_meets_109 (by decide) ?_
          cases h
          exact bs_zret dX12_meets_110 rfl (Or.inr rfl) (Nat.zero_le _) (Nat.zero_le _) (kr _ rfl hR)
        · replace h := fg_iN c h
          refine bs_aload_n dX12_meets_75 rfl ?_
          refine fg_getR (b := (m + 12)) dX12_meets_76 fX12_43 (HM.s 0 rfl rfl rfl) hR (HM.r 0 17 rfl rfl rfl) ?_
          refine bs_iload dX12_meets_79 rfl ?_
          obtain ⟨g6, h⟩ := fg_gdE h
          refine bs_iald dX12_meets_81 (HM.ss 12 rfl rfl) (fg_in_ix g6) ?_
          refine bs_aload_n dX12_meets_82 rfl ?_
          refine fg_getR (b := (m + 11)) dX12_meets_83 fX12_40 (HM.s 0 rfl rfl rfl) hR (HM.r 0 16 rfl rfl rfl) ?_
          refine bs_iload dX12_meets_86 rfl ?_
          obtain ⟨g7, h⟩ := fg_gdE h
          refine bs_iald dX12_meets_88 (HM.ss 11 rfl rfl) (fg_in_ix g7) ?_
          refine bs_icmp_eq (tgt := 109) dX12_meets_89 (by decide) (fun c => ?_) (fun c => ?_)
          · replace h := fg_ip c h
            refine bs_iconst (v := (nI 1)) dX12_meets_109 (by decide) ?_
            cases h
            exact bs_zret dX12_meets_110 rfl (Or.inr rfl) (Nat.zero_le _) (Nat.zero_le _) (kr _ rfl hR)
          · replace h := fg_iN c h
            refine bs_aload_n dX12_meets_92 rfl ?_
            refine fg_getR (b := (m + 12)) dX12_meets_93 fX12_43 (HM.s 0 rfl rfl rfl) hR (HM.r 0 17 rfl rfl rfl) ?_
            refine bs_iload dX12_meets_96 rfl ?_
            obtain ⟨g8, h⟩ := fg_gdE h
            refine bs_iald dX12_meets_98 (HM.ss 12 rfl rfl) (fg_in_ix g8) ?_
            refine bs_aload_n dX12_meets_99 rfl ?_
            refine fg_getR (b := (m + 12)) dX12_meets_100 fX12_43 (HM.s 0 rfl rfl rfl) hR (HM.r 0 17 rfl rfl rfl) ?_
            refine bs_iload dX12_meets_103 rfl ?_
            obtain ⟨g9, h⟩ := fg_gdE h
            refine bs_iald dX12_meets_105 (HM.ss 12 rfl rfl) (fg_in_ix g9) ?_
            refine bs_icmp_ne (tgt := 111) dX12_meets_106 (by decide) (fun c => ?_) (fun c => ?_)
            · replace h := fg_iN c h
              refine fg_iinc (m := (nI 1)) dX12_meets_111 rfl rfl (by decide) ?_
              refine bs_goto (tgt := 3) dX12_meets_114 (by decide) ?_
              cases h
              refine bs_W.mk [(0, .ref m), (1, .int l1), (2, .int l2), (3, .int l3), (4, .int (s + (nI 1)))] (by intro q hq; simp only [List.mem_cons, List.not_mem_nil, or_false] at hq; rcases hq with rfl | rfl | rfl | rfl | rfl <;> rfl) (ka _ rfl)
            · replace h := fg_ip c h
              refine bs_iconst (v := (nI 1)) dX12_meets_109 (by decide) ?_
              cases h
              exact bs_zret dX12_meets_110 rfl (Or.inr rfl) (Nat.zero_le _) (Nat.zero_le _) (kr _ rfl hR)
theorem wFX12_meets_l3 {nx : Nat} {sh : bs_Sh} {R : Nat → Nat → Option Nat} {m : Nat} (HM : fg_S (bs_tM m) R m sh) {mu : bs_Mm} {l1 : Int32} {l2 : Int32} {l3 : Int32} {Ph : bs_Po} {t : (Unit) ⊕ (Int32)} : ∀ n (y0 : Int32), fg_lp (FX12_meets_b3 m mu l1 l2 l3) n y0 = some t → fg_R R mu → (ke : ∀ s, t = .inl s → bs_W Ph mX12_meets (bs_rm 0 0 0) 117 (bs_mk [(0, .ref m), (1, .int l1), (2, .int l2), (3, .int l3)]) [] 0 0 nx sh mu) → (kr : ∀ q, t = .inr q → fg_R R mu → Ph (some (.int q)) nx sh mu) → bs_W Ph mX12_meets (bs_rm 0 0 0) 3 (bs_mk [(0, .ref m), (1, .int l1), (2, .int l2), (3, .int l3), (4, .int y0)]) [] 0 0 nx sh mu := by
  intro n
  induction n with
  | zero => intro y0 h; exact absurd h (fun z => fg_lp0 z)
  | succ n ih =>
    intro y0 h hR ke kr
    obtain ⟨r, hb, h1, h2⟩ := fg_lpE h
    exact wFX12_meets_b3 (s := y0) HM (fun s' e => ih s' (h1 s' e) hR ke kr) (fun s' e => ke s' (h2 _ e).symm) (fun q e => kr q (h2 _ e).symm) hR hb
noncomputable def FX12_meets (m : Nat) (mu : bs_Mm) (p1 : Int32) (p2 : Int32) (p3 : Int32) : Option (Int32) :=
  fg_l3 (fg_lp (FX12_meets_b3 m mu p1 p2 p3) fg_fu (nI 0)) (fun t10 => 
    some ((nI 0))
  ) (fun q12 => some q12)
set_option maxHeartbeats 4000000 in
theorem wX12_meets {nx : Nat} {sh : bs_Sh} {R : Nat → Nat → Option Nat} {m : Nat} (HM : fg_S (bs_tM m) R m sh) {mu : bs_Mm} (hR : fg_R R mu) {p1 : Int32} {p2 : Int32} {p3 : Int32} {r : Int32} (h : FX12_meets m mu p1 p2 p3 = some r) : bs_C mX12_meets (bs_rm 0 0 0) [.ref m, .int p1, .int p2, .int p3] nx sh mu (fg_po R nx sh (some (.int r)) mu) := by
  refine bs_ct (by decide +kernel) (Nat.le_of_ble_eq_true rfl) ?_
  have kr : ∀ q, r = q → fg_R R mu → (fg_po R nx sh (some (.int r)) mu) (some (.int q)) nx sh mu := fun q e hq => by subst e; exact ⟨rfl, rfl, rfl, rfl, hq⟩
  unfold FX12_meets at h
  refine bs_iconst (v := (nI 0)) dX12_meets_0 (by decide) ?_
  refine bs_istore dX12_meets_1 rfl (by decide) ?_
  obtain ⟨t100, k11, h1, h2⟩ := fg_l3E h
  refine bs_W.mk [(0, .ref m), (1, .int p1), (2, .int p2), (3, .int p3), (4, .int (nI 0))] (by intro q hq; simp only [List.mem_cons, List.not_mem_nil, or_false] at hq; rcases hq with rfl | rfl | rfl | rfl | rfl <;> rfl) ?_
  refine wFX12_meets_l3 HM _ _ k11 hR ?_ ?_
  · intro t10 e
    replace h := h1 t10 e
    refine bs_iconst (v := (nI 0)) dX12_meets_117 (by decide) ?_
    cases h
    exact bs_zret dX12_meets_118 rfl (Or.inl rfl) (Nat.zero_le _) (Nat.zero_le _) (kr _ rfl hR)
  · intro q12 e hR
    replace h := h2 q12 e
    cases h
    exact kr _ rfl hR
noncomputable def FX12_partsOf_b32_L18_L5 (m : Nat) (mu : bs_Mm) (l1 : Int32) (l2 : Int32) (l3 : Int32) (l4 : Int32) (l6 : Int32) (s : Int32 × Int32) : Option ((Int32 × Int32) ⊕ (Int32)) :=
  fg_gd (fg_in l1 13) (
  if (bs_iv (mu (m + 8) l1.toNatClampNeg)) ≤ s.2 then (
    some (.inr s.1)
  ) else (
    if ((l3 >>> (s.2 &&& 31)) &&& (nI 1)) = (nI 1) then (
      fg_bd (FX12_meets m mu l1 s.2 s.1) (fun v3 => 
      if v3 = 0 then (
        some (.inl ((s.1 ||| (nI 0)), (s.2 + (nI 1))))
      ) else (
        some (.inl ((s.1 ||| ((nI 1) <<< (s.2 &&& 31))), (s.2 + (nI 1))))
      ))
    ) else (
      some (.inl ((s.1 ||| (nI 0)), (s.2 + (nI 1))))
    )
  ))
set_option maxHeartbeats 4000000 in
theorem wFX12_partsOf_b32_L18_L5 {nx : Nat} {sh : bs_Sh} {R : Nat → Nat → Option Nat} {m : Nat} (HM : fg_S (bs_tM m) R m sh) {mu : bs_Mm} {l1 : Int32} {l2 : Int32} {l3 : Int32} {l4 : Int32} {l6 : Int32} {Ph : bs_Po} {s : Int32 × Int32} {r : (Int32 × Int32) ⊕ (Int32)} (ka : ∀ s, r = .inl s → bs_W Ph mX12_partsOf (bs_rm 1 0 0) 32 (bs_mk [(0, .ref m), (1, .int l1), (2, .int l2), (3, .int l3), (4, .int l4), (5, .int s.1), (6, .int l6), (7, .int s.2)]) [] 0 0 nx sh mu) (ke : ∀ s, r = .inr s → bs_W Ph mX12_partsOf (bs_rm 1 0 0) 84 (bs_mk [(0, .ref m), (1, .int l1), (2, .int l2), (3, .int l3), (4, .int l4), (5, .int s), (6, .int l6)]) [] 0 0 nx sh mu) (hR : fg_R R mu) (h : FX12_partsOf_b32_L18_L5 m mu l1 l2 l3 l4 l6 s = some r) : bs_W Ph mX12_partsOf (bs_rm 1 0 0) 32 (bs_mk [(0, .ref m), (1, .int l1), (2, .int l2), (3, .int l3), (4, .int l4), (5, .int s.1), (6, .int l6), (7, .int s.2)]) [] 0 0 nx sh mu := by
  unfold FX12_partsOf_b32_L18_L5 at h
  refine bs_iload dX12_partsOf_32 rfl ?_
  refine bs_aload_n dX12_partsOf_34 rfl ?_
  refine fg_getR (b := (m + 8)) dX12_partsOf_35 fX12_31 (HM.s 0 rfl rfl rfl) hR (HM.r 0 13 rfl rfl rfl) ?_
  refine bs_iload_n dX12_partsOf_38 rfl ?_
  obtain ⟨g1, h⟩ := fg_gdE h
  refine bs_iald dX12_partsOf_39 (HM.ss 8 rfl rfl) (fg_in_ix g1) ?_
  refine bs_icmp_ge (tgt := 84) dX12_partsOf_40 (by decide) (fun c => ?_) (fun c => ?_)
  · replace h := fg_ip c h
    cases h
    refine bs_W.mk [(0, .ref m), (1, .int l1), (2, .int l2), (3, .int l3), (4, .int l4), (5, .int s.1), (6, .int l6)] (by intro q hq; simp only [List.mem_cons, List.not_mem_nil, or_false] at hq; rcases hq with rfl | rfl | rfl | rfl | rfl | rfl | rfl <;> rfl) (ke _ rfl)
  · replace h := fg_iN c h
    refine bs_iload dX12_partsOf_43 rfl ?_
    refine bs_iload_n dX12_partsOf_45 rfl ?_
    refine bs_iload dX12_partsOf_46 rfl ?_
    refine bs_ishr dX12_partsOf_48 ?_
    refine bs_iconst (v := (nI 1)) dX12_partsOf_49 (by decide) ?_
    refine bs_iand dX12_partsOf_50 ?_
    refine bs_iconst (v := (nI 1)) dX12_partsOf_51 (by decide) ?_
    refine bs_icmp_ne (tgt := 74) dX12_partsOf_52 (by decide) (fun c => ?_) (fun c => ?_)
    · replace h := fg_iN c h
      refine bs_iconst (v := (nI 0)) dX12_partsOf_74 (by decide) ?_
      refine bs_ior dX12_partsOf_75 ?_
      refine bs_istore dX12_partsOf_76 rfl (by decide) ?_
      refine fg_iinc (m := (nI 1)) dX12_partsOf_78 rfl rfl (by decide) ?_
      refine bs_goto (tgt := 32) dX12_partsOf_81 (by decide) ?_
      cases h
      refine bs_W.mk [(0, .ref m), (1, .int l1), (2, .int l2), (3, .int l3), (4, .int l4), (5, .int (s.1 ||| (nI 0))), (6, .int l6), (7, .int (s.2 + (nI 1)))] (by intro q hq; simp only [List.mem_cons, List.not_mem_nil, or_false] at hq; rcases hq with rfl | rfl | rfl | rfl | rfl | rfl | rfl | rfl <;> rfl) (by have k := ka _ rfl; dsimp only at k; exact k)
    · replace h := fg_ip c h
      refine bs_aload_n dX12_partsOf_55 rfl ?_
      refine bs_iload_n dX12_partsOf_56 rfl ?_
      refine bs_iload dX12_partsOf_57 rfl ?_
      refine bs_iload dX12_partsOf_59 rfl ?_
      obtain ⟨v3, k2, h⟩ := fg_bdE h
      refine fg_callV dX12_partsOf_61 qX12_330 (wX12_meets HM hR k2) rfl (HM.s 0 rfl rfl rfl) rfl (Nat.le_of_ble_eq_true rfl) (fg_cr (by first | decide | omega) (by decide)) (fun hR => ?_)
      refine bs_if_eq (tgt := 74) dX12_partsOf_64 (by decide) (fun c => ?_) (fun c => ?_)
      · replace h := fg_ip c h
        refine bs_iconst (v := (nI 0)) dX12_partsOf_74 (by decide) ?_
        refine bs_ior dX12_partsOf_75 ?_
        refine bs_istore dX12_partsOf_76 rfl (by decide) ?_
        refine fg_iinc (m := (nI 1)) dX12_partsOf_78 rfl rfl (by decide) ?_
        refine bs_goto (tgt := 32) dX12_partsOf_81 (by decide) ?_
        cases h
        refine bs_W.mk [(0, .ref m), (1, .int l1), (2, .int l2), (3, .int l3), (4, .int l4), (5, .int (s.1 ||| (nI 0))), (6, .int l6), (7, .int (s.2 + (nI 1)))] (by intro q hq; simp only [List.mem_cons, List.not_mem_nil, or_false] at hq; rcases hq with rfl | rfl | rfl | rfl | rfl | rfl | rfl | rfl <;> rfl) (by have k := ka _ rfl; dsimp only at k; exact k)
      · replace h := fg_iN c h
        refine bs_iconst (v := (nI 1)) dX12_partsOf_67 (by decide) ?_
        refine bs_iload dX12_partsOf_68 rfl ?_
        refine bs_ishl dX12_partsOf_70 ?_
        refine bs_goto (tgt := 75) dX12_partsOf_71 (by decide) ?_
        refine bs_ior dX12_partsOf_75 ?_
        refine bs_istore dX12_partsOf_76 rfl (by decide) ?_
        refine fg_iinc (m := (nI 1)) dX12_partsOf_78 rfl rfl (by decide) ?_
        refine bs_goto (tgt := 32) dX12_partsOf_81 (by decide) ?_
        cases h
        refine bs_W.mk [(0, .ref m), (1, .int l1), (2, .int l2), (3, .int l3), (4, .int l4), (5, .int (s.1 ||| ((nI 1) <<< (s.2 &&& 31)))), (6, .int l6), (7, .int (s.2 + (nI 1)))] (by intro q hq; simp only [List.mem_cons, List.not_mem_nil, or_false] at hq; rcases hq with rfl | rfl | rfl | rfl | rfl | rfl | rfl | rfl <;> rfl) (by have k := ka _ rfl; dsimp only at k; exact k)
theorem wFX12_partsOf_l32_L18_L5 {nx : Nat} {sh : bs_Sh} {R : Nat → Nat → Option Nat} {m : Nat} (HM : fg_S (bs_tM m) R m sh) {mu : bs_Mm} {l1 : Int32} {l2 : Int32} {l3 : Int32} {l4 : Int32} {l6 : Int32} {Ph : bs_Po} {t : Int32} : ∀ n (y0 : Int32) (y1 : Int32), fg_lp (FX12_partsOf_b32_L18_L5 m mu l1 l2 l3 l4 l6) n (y0, y1) = some t → fg_R R mu → (ke : ∀ s, t = s → bs_W Ph mX12_partsOf (bs_rm 1 0 0) 84 (bs_mk [(0, .ref m), (1, .int l1), (2, .int l2), (3, .int l3), (4, .int l4), (5, .int s), (6, .int l6)]) [] 0 0 nx sh mu) → bs_W Ph mX12_partsOf (bs_rm 1 0 0) 32 (bs_mk [(0, .ref m), (1, .int l1), (2, .int l2), (3, .int l3), (4, .int l4), (5, .int y0), (6, .int l6), (7, .int y1)]) [] 0 0 nx sh mu := by
  intro n
  induction n with
  | zero => intro y0 y1 h; exact absurd h (fun z => fg_lp0 z)
  | succ n ih =>
    intro y0 y1 h hR ke
    obtain ⟨r, hb, h1, h2⟩ := fg_lpE h
    exact wFX12_partsOf_b32_L18_L5 (s := (y0, y1)) HM (fun s' e => ih s'.1 s'.2 (h1 s' e) hR ke) (fun s' e => ke s' (h2 _ e).symm) hR hb
noncomputable def FX12_partsOf_b18_L5 (m : Nat) (mu : bs_Mm) (l1 : Int32) (l2 : Int32) (l3 : Int32) (l4 : Int32) (s : Int32 × Int32) : Option ((Int32 × Int32) ⊕ (Int32)) :=
  if s.2 = s.1 then (
    some (.inr s.1)
  ) else (
    fg_bd (fg_lp (FX12_partsOf_b32_L18_L5 m mu l1 l2 l3 l4 s.1) fg_fu (s.1, (nI 0))) (fun t4 => 
      some (.inl (t4, s.1))
    )
  )
set_option maxHeartbeats 4000000 in
theorem wFX12_partsOf_b18_L5 {nx : Nat} {sh : bs_Sh} {R : Nat → Nat → Option Nat} {m : Nat} (HM : fg_S (bs_tM m) R m sh) {mu : bs_Mm} {l1 : Int32} {l2 : Int32} {l3 : Int32} {l4 : Int32} {Ph : bs_Po} {s : Int32 × Int32} {r : (Int32 × Int32) ⊕ (Int32)} (ka : ∀ s, r = .inl s → bs_W Ph mX12_partsOf (bs_rm 1 0 0) 18 (bs_mk [(0, .ref m), (1, .int l1), (2, .int l2), (3, .int l3), (4, .int l4), (5, .int s.1), (6, .int s.2)]) [] 0 0 nx sh mu) (ke : ∀ s, r = .inr s → bs_W Ph mX12_partsOf (bs_rm 1 0 0) 87 (bs_mk [(0, .ref m), (1, .int l1), (2, .int l2), (3, .int l3), (4, .int l4), (5, .int s)]) [] 0 0 nx sh mu) (hR : fg_R R mu) (h : FX12_partsOf_b18_L5 m mu l1 l2 l3 l4 s = some r) : bs_W Ph mX12_partsOf (bs_rm 1 0 0) 18 (bs_mk [(0, .ref m), (1, .int l1), (2, .int l2), (3, .int l3), (4, .int l4), (5, .int s.1), (6, .int s.2)]) [] 0 0 nx sh mu := by
  unfold FX12_partsOf_b18_L5 at h
  refine bs_iload dX12_partsOf_18 rfl ?_
  refine bs_iload dX12_partsOf_20 rfl ?_
  refine bs_icmp_eq (tgt := 87) dX12_partsOf_22 (by decide) (fun c => ?_) (fun c => ?_)
  · replace h := fg_ip c h
    cases h
    refine bs_W.mk [(0, .ref m), (1, .int l1), (2, .int l2), (3, .int l3), (4, .int l4), (5, .int s.1)] (by intro q hq; simp only [List.mem_cons, List.not_mem_nil, or_false] at hq; rcases hq with rfl | rfl | rfl | rfl | rfl | rfl <;> rfl) (ke _ rfl)
  · replace h := fg_iN c h
    refine bs_iload dX12_partsOf_25 rfl ?_
    refine bs_istore dX12_partsOf_27 rfl (by decide) ?_
    refine bs_iconst (v := (nI 0)) dX12_partsOf_29 (by decide) ?_
    refine bs_istore dX12_partsOf_30 rfl (by decide) ?_
    obtain ⟨t4, k5, h⟩ := fg_bdE h
    refine bs_W.mk [(0, .ref m), (1, .int l1), (2, .int l2), (3, .int l3), (4, .int l4), (5, .int s.1), (6, .int s.1), (7, .int (nI 0))] (by intro q hq; simp only [List.mem_cons, List.not_mem_nil, or_false] at hq; rcases hq with rfl | rfl | rfl | rfl | rfl | rfl | rfl | rfl <;> rfl) ?_
    refine wFX12_partsOf_l32_L18_L5 HM _ _ _ k5 hR ?_
    intro s e
    subst e
    refine bs_goto (tgt := 18) dX12_partsOf_84 (by decide) ?_
    cases h
    refine bs_W.mk [(0, .ref m), (1, .int l1), (2, .int l2), (3, .int l3), (4, .int l4), (5, .int t4), (6, .int s.1)] (by intro q hq; simp only [List.mem_cons, List.not_mem_nil, or_false] at hq; rcases hq with rfl | rfl | rfl | rfl | rfl | rfl | rfl <;> rfl) (ka _ rfl)
theorem wFX12_partsOf_l18_L5 {nx : Nat} {sh : bs_Sh} {R : Nat → Nat → Option Nat} {m : Nat} (HM : fg_S (bs_tM m) R m sh) {mu : bs_Mm} {l1 : Int32} {l2 : Int32} {l3 : Int32} {l4 : Int32} {Ph : bs_Po} {t : Int32} : ∀ n (y0 : Int32) (y1 : Int32), fg_lp (FX12_partsOf_b18_L5 m mu l1 l2 l3 l4) n (y0, y1) = some t → fg_R R mu → (ke : ∀ s, t = s → bs_W Ph mX12_partsOf (bs_rm 1 0 0) 87 (bs_mk [(0, .ref m), (1, .int l1), (2, .int l2), (3, .int l3), (4, .int l4), (5, .int s)]) [] 0 0 nx sh mu) → bs_W Ph mX12_partsOf (bs_rm 1 0 0) 18 (bs_mk [(0, .ref m), (1, .int l1), (2, .int l2), (3, .int l3), (4, .int l4), (5, .int y0), (6, .int y1)]) [] 0 0 nx sh mu := by
  intro n
  induction n with
  | zero => intro y0 y1 h; exact absurd h (fun z => fg_lp0 z)
  | succ n ih =>
    intro y0 y1 h hR ke
    obtain ⟨r, hb, h1, h2⟩ := fg_lpE h
    exact wFX12_partsOf_b18_L5 (s := (y0, y1)) HM (fun s' e => ih s'.1 s'.2 (h1 s' e) hR ke) (fun s' e => ke s' (h2 _ e).symm) hR hb
noncomputable def FX12_partsOf_b5 (m : Nat) (mu : bs_Mm) (l1 : Int32) (l2 : Int32) (s : Int32 × Int32) : Option ((Int32 × Int32) ⊕ (Int32)) :=
  if s.1 = 0 then (
    some (.inr s.2)
  ) else (
    fg_bd (fg_lp (FX12_partsOf_b18_L5 m mu l1 l2 s.1 s.2) fg_fu ((s.1 &&& (-s.1)), (nI 0))) (fun t6 => 
      some (.inl ((s.1 &&& (t6 ^^^ (-1))), (s.2 + (nI 1))))
    )
  )
set_option maxHeartbeats 4000000 in
theorem wFX12_partsOf_b5 {nx : Nat} {sh : bs_Sh} {R : Nat → Nat → Option Nat} {m : Nat} (HM : fg_S (bs_tM m) R m sh) {mu : bs_Mm} {l1 : Int32} {l2 : Int32} {Ph : bs_Po} {s : Int32 × Int32} {r : (Int32 × Int32) ⊕ (Int32)} (ka : ∀ s, r = .inl s → bs_W Ph mX12_partsOf (bs_rm 1 0 0) 5 (bs_mk [(0, .ref m), (1, .int l1), (2, .int l2), (3, .int s.1), (4, .int s.2)]) [] 0 0 nx sh mu) (ke : ∀ s, r = .inr s → bs_W Ph mX12_partsOf (bs_rm 1 0 0) 100 (bs_mk [(0, .ref m), (1, .int l1), (2, .int l2), (4, .int s)]) [] 0 0 nx sh mu) (hR : fg_R R mu) (h : FX12_partsOf_b5 m mu l1 l2 s = some r) : bs_W Ph mX12_partsOf (bs_rm 1 0 0) 5 (bs_mk [(0, .ref m), (1, .int l1), (2, .int l2), (3, .int s.1), (4, .int s.2)]) [] 0 0 nx sh mu := by
  unfold FX12_partsOf_b5 at h
  refine bs_iload_n dX12_partsOf_5 rfl ?_
  refine bs_if_eq (tgt := 100) dX12_partsOf_6 (by decide) (fun c => ?_) (fun c => ?_)
  · replace h := fg_ip c h
    cases h
    refine bs_W.mk [(0, .ref m), (1, .int l1), (2, .int l2), (4, .int s.2)] (by intro q hq; simp only [List.mem_cons, List.not_mem_nil, or_false] at hq; rcases hq with rfl | rfl | rfl | rfl <;> rfl) (ke _ rfl)
  · replace h := fg_iN c h
    refine bs_iload_n dX12_partsOf_9 rfl ?_
    refine bs_iload_n dX12_partsOf_10 rfl ?_
    refine bs_ineg dX12_partsOf_11 ?_
    refine bs_iand dX12_partsOf_12 ?_
    refine bs_istore dX12_partsOf_13 rfl (by decide) ?_
    refine bs_iconst (v := (nI 0)) dX12_partsOf_15 (by decide) ?_
    refine bs_istore dX12_partsOf_16 rfl (by decide) ?_
    obtain ⟨t6, k7, h⟩ := fg_bdE h
    refine bs_W.mk [(0, .ref m), (1, .int l1), (2, .int l2), (3, .int s.1), (4, .int s.2), (5, .int (s.1 &&& (-s.1))), (6, .int (nI 0))] (by intro q hq; simp only [List.mem_cons, List.not_mem_nil, or_false] at hq; rcases hq with rfl | rfl | rfl | rfl | rfl | rfl | rfl <;> rfl) ?_
    refine wFX12_partsOf_l18_L5 HM _ _ _ k7 hR ?_
    intro s e
    subst e
    refine bs_iload_n dX12_partsOf_87 rfl ?_
    refine bs_iload dX12_partsOf_88 rfl ?_
    refine bs_iconst (v := (-1)) dX12_partsOf_90 (by decide) ?_
    refine bs_ixor dX12_partsOf_91 ?_
    refine bs_iand dX12_partsOf_92 ?_
    refine bs_istore_n dX12_partsOf_93 rfl (by decide) ?_
    refine fg_iinc (m := (nI 1)) dX12_partsOf_94 rfl rfl (by decide) ?_
    refine bs_goto (tgt := 5) dX12_partsOf_97 (by decide) ?_
    cases h
    refine bs_W.mk [(0, .ref m), (1, .int l1), (2, .int l2), (3, .int (s.1 &&& (t6 ^^^ (-1)))), (4, .int (s.2 + (nI 1)))] (by intro q hq; simp only [List.mem_cons, List.not_mem_nil, or_false] at hq; rcases hq with rfl | rfl | rfl | rfl | rfl <;> rfl) (by have k := ka _ rfl; dsimp only at k; exact k)
theorem wFX12_partsOf_l5 {nx : Nat} {sh : bs_Sh} {R : Nat → Nat → Option Nat} {m : Nat} (HM : fg_S (bs_tM m) R m sh) {mu : bs_Mm} {l1 : Int32} {l2 : Int32} {Ph : bs_Po} {t : Int32} : ∀ n (y0 : Int32) (y1 : Int32), fg_lp (FX12_partsOf_b5 m mu l1 l2) n (y0, y1) = some t → fg_R R mu → (ke : ∀ s, t = s → bs_W Ph mX12_partsOf (bs_rm 1 0 0) 100 (bs_mk [(0, .ref m), (1, .int l1), (2, .int l2), (4, .int s)]) [] 0 0 nx sh mu) → bs_W Ph mX12_partsOf (bs_rm 1 0 0) 5 (bs_mk [(0, .ref m), (1, .int l1), (2, .int l2), (3, .int y0), (4, .int y1)]) [] 0 0 nx sh mu := by
  intro n
  induction n with
  | zero => intro y0 y1 h; exact absurd h (fun z => fg_lp0 z)
  | succ n ih =>
    intro y0 y1 h hR ke
    obtain ⟨r, hb, h1, h2⟩ := fg_lpE h
    exact wFX12_partsOf_b5 (s := (y0, y1)) HM (fun s' e => ih s'.1 s'.2 (h1 s' e) hR ke) (fun s' e => ke s' (h2 _ e).symm) hR hb
noncomputable def FX12_partsOf (m : Nat) (mu : bs_Mm) (p1 : Int32) (p2 : Int32) : Option (Int32) :=
  fg_bd (fg_lp (FX12_partsOf_b5 m mu p1 p2) fg_fu (p2, (nI 0))) (fun t8 => 
    some (t8)
  )
set_option maxHeartbeats 4000000 in
theorem wX12_partsOf {nx : Nat} {sh : bs_Sh} {R : Nat → Nat → Option Nat} {m : Nat} (HM : fg_S (bs_tM m) R m sh) {mu : bs_Mm} (hR : fg_R R mu) {p1 : Int32} {p2 : Int32} {r : Int32} (h : FX12_partsOf m mu p1 p2 = some r) : bs_C mX12_partsOf (bs_rm 1 0 0) [.ref m, .int p1, .int p2] nx sh mu (fg_po R nx sh (some (.int r)) mu) := by
  refine bs_ct (by decide +kernel) (Nat.le_of_ble_eq_true rfl) ?_
  have kr : ∀ q, r = q → fg_R R mu → (fg_po R nx sh (some (.int r)) mu) (some (.int q)) nx sh mu := fun q e hq => by subst e; exact ⟨rfl, rfl, rfl, rfl, hq⟩
  unfold FX12_partsOf at h
  refine bs_iload_n dX12_partsOf_0 rfl ?_
  refine bs_istore_n dX12_partsOf_1 rfl (by decide) ?_
  refine bs_iconst (v := (nI 0)) dX12_partsOf_2 (by decide) ?_
  refine bs_istore dX12_partsOf_3 rfl (by decide) ?_
  obtain ⟨t8, k9, h⟩ := fg_bdE h
  refine bs_W.mk [(0, .ref m), (1, .int p1), (2, .int p2), (3, .int p2), (4, .int (nI 0))] (by intro q hq; simp only [List.mem_cons, List.not_mem_nil, or_false] at hq; rcases hq with rfl | rfl | rfl | rfl | rfl <;> rfl) ?_
  refine wFX12_partsOf_l5 HM _ _ _ k9 hR ?_
  intro s e
  subst e
  refine bs_iload dX12_partsOf_100 rfl ?_
  cases h
  exact bs_iret dX12_partsOf_102 rfl (Nat.zero_le _) (Nat.zero_le _) (kr _ rfl hR)
noncomputable def FX12_falls_b50 (m : Nat)  (l1 : Int32) (l2 : Int32) (l3 : Int32) (s : Int32 × bs_Mm) : Option ((Int32 × bs_Mm) ⊕ ((bs_Mm) ⊕ (Int32 × bs_Mm))) :=
  if (nI 60) < s.1 then (
    some (.inr (.inl s.2))
  ) else (
    fg_bd (FX12_age m s.2 l1 l2 s.1) (fun mu11 => 
    if l3 = 0 then (
      fg_bd (FX12_all m mu11 l1) (fun v15 => 
      if (bs_iv (mu11 m 51)) = v15 then (
        some (.inl ((s.1 + (nI 1)), mu11))
      ) else (
        some (.inr (.inr (s.1, mu11)))
      ))
    ) else (
      if l3 = (nI 1) then (
        fg_bd (FX12_partsOf m mu11 l1 (bs_iv (mu11 m 51))) (fun v13 => 
        if v13 ≤ (nI 1) then (
          some (.inl ((s.1 + (nI 1)), mu11))
        ) else (
          some (.inr (.inr (s.1, mu11)))
        ))
      ) else (
        if (bs_iv (mu11 m 51)) = 0 then (
          some (.inr (.inr (s.1, mu11)))
        ) else (
          some (.inl ((s.1 + (nI 1)), mu11))
        )
      )
    ))
  )
set_option maxHeartbeats 4000000 in
theorem wFX12_falls_b50 {nx : Nat} {sh : bs_Sh} {R : Nat → Nat → Option Nat} {m : Nat} (HM : fg_S (bs_tM m) R m sh) {l1 : Int32} {l2 : Int32} {l3 : Int32} {Ph : bs_Po} {s : Int32 × bs_Mm} {r : (Int32 × bs_Mm) ⊕ ((bs_Mm) ⊕ (Int32 × bs_Mm))} (ka : ∀ s, r = .inl s → fg_R R s.2 → bs_W Ph mX12_falls (bs_rm 6 0 0) 50 (bs_mk [(0, .ref m), (1, .int l1), (2, .int l2), (3, .int l3), (4, .int s.1)]) [] 0 0 nx sh s.2) (ke : ∀ s, r = .inr (.inl s) → fg_R R s → bs_W Ph mX12_falls (bs_rm 6 0 0) 121 (bs_mk [(0, .ref m), (1, .int l1), (2, .int l2), (3, .int l3)]) [] 0 0 nx sh s) (kr : ∀ q, r = .inr (.inr q) → fg_R R q.2 → Ph (some (.int q.1)) nx sh q.2) (hR : fg_R R s.2) (h : FX12_falls_b50 m l1 l2 l3 s = some r) : bs_W Ph mX12_falls (bs_rm 6 0 0) 50 (bs_mk [(0, .ref m), (1, .int l1), (2, .int l2), (3, .int l3), (4, .int s.1)]) [] 0 0 nx sh s.2 := by
  unfold FX12_falls_b50 at h
  refine bs_iload dX12_falls_50 rfl ?_
  refine bs_bipush (v := (nI 60)) dX12_falls_52 (by decide) ?_
  refine bs_icmp_gt (tgt := 121) dX12_falls_54 (by decide) (fun c => ?_) (fun c => ?_)
  · replace h := fg_ip c h
    cases h
    refine bs_W.mk [(0, .ref m), (1, .int l1), (2, .int l2), (3, .int l3)] (by intro q hq; simp only [List.mem_cons, List.not_mem_nil, or_false] at hq; rcases hq with rfl | rfl | rfl | rfl <;> rfl) (ke _ rfl hR)
  · replace h := fg_iN c h
    refine bs_aload_n dX12_falls_57 rfl ?_
    refine bs_iload_n dX12_falls_58 rfl ?_
    refine bs_iload_n dX12_falls_59 rfl ?_
    refine bs_iload dX12_falls_60 rfl ?_
    obtain ⟨mu11, k10, h⟩ := fg_bdE h
    refine fg_callVv dX12_falls_62 qX12_417 (wX12_age HM hR k10) rfl (HM.s 0 rfl rfl rfl) rfl (Nat.le_of_ble_eq_true rfl) (fg_cr (by first | decide | omega) (by decide)) (fun hR => ?_)
    refine bs_iload_n dX12_falls_65 rfl ?_
    refine bs_if_ne (tgt := 84) dX12_falls_66 (by decide) (fun c => ?_) (fun c => ?_)
    · replace h := fg_iN c h
      refine bs_iload_n dX12_falls_84 rfl ?_
      refine bs_iconst (v := (nI 1)) dX12_falls_85 (by decide) ?_
      refine bs_icmp_ne (tgt := 105) dX12_falls_86 (by decide) (fun c => ?_) (fun c => ?_)
      · replace h := fg_iN c h
        refine bs_aload_n dX12_falls_105 rfl ?_
        refine bs_getI dX12_falls_106 fX12_411 (HM.s 0 rfl rfl rfl) ?_
        refine bs_if_ne (tgt := 115) dX12_falls_109 (by decide) (fun c => ?_) (fun c => ?_)
        · replace h := fg_iN c h
          refine fg_iinc (m := (nI 1)) dX12_falls_115 rfl rfl (by decide) ?_
          refine bs_goto (tgt := 50) dX12_falls_118 (by decide) ?_
          cases h
          refine bs_W.mk [(0, .ref m), (1, .int l1), (2, .int l2), (3, .int l3), (4, .int (s.1 + (nI 1)))] (by intro q hq; simp only [List.mem_cons, List.not_mem_nil, or_false] at hq; rcases hq with rfl | rfl | rfl | rfl | rfl <;> rfl) (by have k := ka _ rfl hR; dsimp only at k; exact k)
        · replace h := fg_ip c h
          refine bs_iload dX12_falls_112 rfl ?_
          cases h
          exact bs_iret dX12_falls_114 rfl (Nat.zero_le _) (Nat.zero_le _) (kr _ rfl hR)
      · replace h := fg_ip c h
        refine bs_aload_n dX12_falls_89 rfl ?_
        refine bs_iload_n dX12_falls_90 rfl ?_
        refine bs_aload_n dX12_falls_91 rfl ?_
        refine bs_getI dX12_falls_92 fX12_411 (HM.s 0 rfl rfl rfl) ?_
        obtain ⟨v13, k12, h⟩ := fg_bdE h
        refine fg_callV dX12_falls_95 qX12_341 (wX12_partsOf HM hR k12) rfl (HM.s 0 rfl rfl rfl) rfl (Nat.le_of_ble_eq_true rfl) (fg_cr (by first | decide | omega) (by decide)) (fun hR => ?_)
        refine bs_iconst (v := (nI 1)) dX12_falls_98 (by decide) ?_
        refine bs_icmp_le (tgt := 115) dX12_falls_99 (by decide) (fun c => ?_) (fun c => ?_)
        · replace h := fg_ip c h
          refine fg_iinc (m := (nI 1)) dX12_falls_115 rfl rfl (by decide) ?_
          refine bs_goto (tgt := 50) dX12_falls_118 (by decide) ?_
          cases h
          refine bs_W.mk [(0, .ref m), (1, .int l1), (2, .int l2), (3, .int l3), (4, .int (s.1 + (nI 1)))] (by intro q hq; simp only [List.mem_cons, List.not_mem_nil, or_false] at hq; rcases hq with rfl | rfl | rfl | rfl | rfl <;> rfl) (by have k := ka _ rfl hR; dsimp only at k; exact k)
        · replace h := fg_iN c h
          refine bs_goto (tgt := 112) dX12_falls_102 (by decide) ?_
          refine bs_iload dX12_falls_112 rfl ?_
          cases h
          exact bs_iret dX12_falls_114 rfl (Nat.zero_le _) (Nat.zero_le _) (kr _ rfl hR)
    · replace h := fg_ip c h
      refine bs_aload_n dX12_falls_69 rfl ?_
      refine bs_getI dX12_falls_70 fX12_411 (HM.s 0 rfl rfl rfl) ?_
      refine bs_aload_n dX12_falls_73 rfl ?_
      refine bs_iload_n dX12_falls_74 rfl ?_
      obtain ⟨v15, k14, h⟩ := fg_bdE h
      refine fg_callV dX12_falls_75 qX12_287 (wX12_all HM hR k14) rfl (HM.s 0 rfl rfl rfl) rfl (Nat.le_of_ble_eq_true rfl) (fg_cr (by first | decide | omega) (by decide)) (fun hR => ?_)
      refine bs_icmp_eq (tgt := 115) dX12_falls_78 (by decide) (fun c => ?_) (fun c => ?_)
      · replace h := fg_ip c h
        refine fg_iinc (m := (nI 1)) dX12_falls_115 rfl rfl (by decide) ?_
        refine bs_goto (tgt := 50) dX12_falls_118 (by decide) ?_
        cases h
        refine bs_W.mk [(0, .ref m), (1, .int l1), (2, .int l2), (3, .int l3), (4, .int (s.1 + (nI 1)))] (by intro q hq; simp only [List.mem_cons, List.not_mem_nil, or_false] at hq; rcases hq with rfl | rfl | rfl | rfl | rfl <;> rfl) (by have k := ka _ rfl hR; dsimp only at k; exact k)
      · replace h := fg_iN c h
        refine bs_goto (tgt := 112) dX12_falls_81 (by decide) ?_
        refine bs_iload dX12_falls_112 rfl ?_
        cases h
        exact bs_iret dX12_falls_114 rfl (Nat.zero_le _) (Nat.zero_le _) (kr _ rfl hR)
theorem wFX12_falls_l50 {nx : Nat} {sh : bs_Sh} {R : Nat → Nat → Option Nat} {m : Nat} (HM : fg_S (bs_tM m) R m sh) {l1 : Int32} {l2 : Int32} {l3 : Int32} {Ph : bs_Po} {t : (bs_Mm) ⊕ (Int32 × bs_Mm)} : ∀ n (y0 : Int32) (mu1 : bs_Mm), fg_lp (FX12_falls_b50 m l1 l2 l3) n (y0, mu1) = some t → fg_R R mu1 → (ke : ∀ s, t = .inl s → fg_R R s → bs_W Ph mX12_falls (bs_rm 6 0 0) 121 (bs_mk [(0, .ref m), (1, .int l1), (2, .int l2), (3, .int l3)]) [] 0 0 nx sh s) → (kr : ∀ q, t = .inr q → fg_R R q.2 → Ph (some (.int q.1)) nx sh q.2) → bs_W Ph mX12_falls (bs_rm 6 0 0) 50 (bs_mk [(0, .ref m), (1, .int l1), (2, .int l2), (3, .int l3), (4, .int y0)]) [] 0 0 nx sh mu1 := by
  intro n
  induction n with
  | zero => intro y0 mu1 h; exact absurd h (fun z => fg_lp0 z)
  | succ n ih =>
    intro y0 mu1 h hR ke kr
    obtain ⟨r, hb, h1, h2⟩ := fg_lpE h
    exact wFX12_falls_b50 (s := (y0, mu1)) HM (fun s' e hR' => ih s'.1 s'.2 (h1 s' e) hR' ke kr) (fun s' e => ke s' (h2 _ e).symm) (fun q e => kr q (h2 _ e).symm) hR hb
noncomputable def FX12_falls (m : Nat) (mu : bs_Mm) (p1 : Int32) (p2 : Int32) (p3 : Int32) : Option (Int32 × bs_Mm) :=
  fg_bd (FX12_isFigure m mu p1) (fun v2 => 
  if v2 = 0 then (
    some ((-1), mu)
  ) else (
    fg_bd (FX12_in m mu p2 (nI 0) ((bs_iv (mu m 31)) - (nI 1))) (fun v4 => 
    if v4 = 0 then (
      some ((-1), mu)
    ) else (
      fg_bd (FX12_in m mu p3 (nI 0) (nI 2)) (fun v6 => 
      if v6 = 0 then (
        some ((-1), mu)
      ) else (
        fg_gd (fg_in p1 13) (
        if (bs_iv (mu (m + 8) p1.toNatClampNeg)) = 0 then (
          some ((-1), mu)
        ) else (
          fg_bd (FX12_startAging m mu p1) (fun mu9 => 
          fg_l3 (fg_lp (FX12_falls_b50 m p1 p2 p3) fg_fu ((nI 1), mu9)) (fun t16 => 
            some ((-1), t16)
          ) (fun q18 => some q18))
        ))
      ))
    ))
  ))
set_option maxHeartbeats 4000000 in
theorem wX12_falls {nx : Nat} {sh : bs_Sh} {R : Nat → Nat → Option Nat} {m : Nat} (HM : fg_S (bs_tM m) R m sh) {mu : bs_Mm} (hR : fg_R R mu) {p1 : Int32} {p2 : Int32} {p3 : Int32} {r : Int32 × bs_Mm} (h : FX12_falls m mu p1 p2 p3 = some r) : bs_C mX12_falls (bs_rm 6 0 0) [.ref m, .int p1, .int p2, .int p3] nx sh mu (fg_po R nx sh (some (.int r.1)) r.2) := by
  refine bs_ct (by decide +kernel) (Nat.le_of_ble_eq_true rfl) ?_
  have kr : ∀ q, r = q → fg_R R q.2 → (fg_po R nx sh (some (.int r.1)) r.2) (some (.int q.1)) nx sh q.2 := fun q e hq => by subst e; exact ⟨rfl, rfl, rfl, rfl, hq⟩
  unfold FX12_falls at h
  refine bs_aload_n dX12_falls_0 rfl ?_
  refine bs_iload_n dX12_falls_1 rfl ?_
  obtain ⟨v2, k1, h⟩ := fg_bdE h
  refine fg_callV dX12_falls_2 qX12_284 (wX12_isFigure HM hR k1) rfl (HM.s 0 rfl rfl rfl) rfl (Nat.le_of_ble_eq_true rfl) (fg_cr (by first | decide | omega) (by decide)) (fun hR => ?_)
  refine bs_if_eq (tgt := 40) dX12_falls_5 (by decide) (fun c => ?_) (fun c => ?_)
  · replace h := fg_ip c h
    refine bs_iconst (v := (-1)) dX12_falls_40 (by decide) ?_
    cases h
    exact bs_iret dX12_falls_41 rfl (Nat.zero_le _) (Nat.zero_le _) (kr _ rfl hR)
  · replace h := fg_iN c h
    refine bs_iload_n dX12_falls_8 rfl ?_
    refine bs_iconst (v := (nI 0)) dX12_falls_9 (by decide) ?_
    refine bs_aload_n dX12_falls_10 rfl ?_
    refine bs_getI dX12_falls_11 fX12_255 (HM.s 0 rfl rfl rfl) ?_
    refine bs_iconst (v := (nI 1)) dX12_falls_14 (by decide) ?_
    refine bs_isub dX12_falls_15 ?_
    obtain ⟨v4, k3, h⟩ := fg_bdE h
    refine fg_callS dX12_falls_16 qX12_121 (wX12_in HM hR k3) rfl rfl (Nat.le_of_ble_eq_true rfl) (fg_cr (by first | decide | omega) (by decide)) (fun hR => ?_)
    refine bs_if_eq (tgt := 40) dX12_falls_19 (by decide) (fun c => ?_) (fun c => ?_)
    · replace h := fg_ip c h
      refine bs_iconst (v := (-1)) dX12_falls_40 (by decide) ?_
      cases h
      exact bs_iret dX12_falls_41 rfl (Nat.zero_le _) (Nat.zero_le _) (kr _ rfl hR)
    · replace h := fg_iN c h
      refine bs_iload_n dX12_falls_22 rfl ?_
      refine bs_iconst (v := (nI 0)) dX12_falls_23 (by decide) ?_
      refine bs_iconst (v := (nI 2)) dX12_falls_24 (by decide) ?_
      obtain ⟨v6, k5, h⟩ := fg_bdE h
      refine fg_callS dX12_falls_25 qX12_121 (wX12_in HM hR k5) rfl rfl (Nat.le_of_ble_eq_true rfl) (fg_cr (by first | decide | omega) (by decide)) (fun hR => ?_)
      refine bs_if_eq (tgt := 40) dX12_falls_28 (by decide) (fun c => ?_) (fun c => ?_)
      · replace h := fg_ip c h
        refine bs_iconst (v := (-1)) dX12_falls_40 (by decide) ?_
        cases h
        exact bs_iret dX12_falls_41 rfl (Nat.zero_le _) (Nat.zero_le _) (kr _ rfl hR)
      · replace h := fg_iN c h
        refine bs_aload_n dX12_falls_31 rfl ?_
        refine fg_getR (b := (m + 8)) dX12_falls_32 fX12_31 (HM.s 0 rfl rfl rfl) hR (HM.r 0 13 rfl rfl rfl) ?_
        refine bs_iload_n dX12_falls_35 rfl ?_
        obtain ⟨g7, h⟩ := fg_gdE h
        refine bs_iald dX12_falls_36 (HM.ss 8 rfl rfl) (fg_in_ix g7) ?_
        refine bs_if_ne (tgt := 42) dX12_falls_37 (by decide) (fun c => ?_) (fun c => ?_)
        · replace h := fg_iN c h
          refine bs_aload_n dX12_falls_42 rfl ?_
          refine bs_iload_n dX12_falls_43 rfl ?_
          obtain ⟨mu9, k8, h⟩ := fg_bdE h
          refine fg_callVv dX12_falls_44 qX12_414 (wX12_startAging HM hR k8) rfl (HM.s 0 rfl rfl rfl) rfl (Nat.le_of_ble_eq_true rfl) (fg_cr (by first | decide | omega) (by decide)) (fun hR => ?_)
          refine bs_iconst (v := (nI 1)) dX12_falls_47 (by decide) ?_
          refine bs_istore dX12_falls_48 rfl (by decide) ?_
          obtain ⟨t160, k17, h1, h2⟩ := fg_l3E h
          refine bs_W.mk [(0, .ref m), (1, .int p1), (2, .int p2), (3, .int p3), (4, .int (nI 1))] (by intro q hq; simp only [List.mem_cons, List.not_mem_nil, or_false] at hq; rcases hq with rfl | rfl | rfl | rfl | rfl <;> rfl) ?_
          refine wFX12_falls_l50 HM _ _ _ k17 hR ?_ ?_
          · intro t16 e hR
            replace h := h1 t16 e
            refine bs_iconst (v := (-1)) dX12_falls_121 (by decide) ?_
            cases h
            exact bs_iret dX12_falls_122 rfl (Nat.zero_le _) (Nat.zero_le _) (kr _ rfl hR)
          · intro q18 e hR
            replace h := h2 q18 e
            cases h
            exact kr _ rfl hR
        · replace h := fg_ip c h
          refine bs_iconst (v := (-1)) dX12_falls_40 (by decide) ?_
          cases h
          exact bs_iret dX12_falls_41 rfl (Nat.zero_le _) (Nat.zero_le _) (kr _ rfl hR)
noncomputable def FX12_findFars_b17_L9 (m : Nat)  (l1 : Int32) (l2 : Int32) (l3 : Int32) (s : Int32 × bs_Mm) : Option ((Int32 × bs_Mm) ⊕ (bs_Mm)) :=
  if l2 ≤ s.1 then (
    some (.inr s.2)
  ) else (
    if l3 = s.1 then (
      fg_gd (fg_in (((nI 60) * l3) + s.1) 3600) (
      fg_wr s.2 (m + 24) (((nI 60) * l3) + s.1).toNatClampNeg (.int (nI 0)) (fun mu5 => 
      some (.inl ((s.1 + (nI 1)), mu5))))
    ) else (
      fg_gd (fg_in (((nI 60) * l3) + s.1) 3600) (
      fg_wr s.2 (m + 24) (((nI 60) * l3) + s.1).toNatClampNeg (.int (1000000 : Int32)) (fun mu3 => 
      some (.inl ((s.1 + (nI 1)), mu3))))
    )
  )
set_option maxHeartbeats 4000000 in
theorem wFX12_findFars_b17_L9 {nx : Nat} {sh : bs_Sh} {R : Nat → Nat → Option Nat} {m : Nat} (HM : fg_S (bs_tM m) R m sh) {l1 : Int32} {l2 : Int32} {l3 : Int32} {Ph : bs_Po} {s : Int32 × bs_Mm} {r : (Int32 × bs_Mm) ⊕ (bs_Mm)} (ka : ∀ s, r = .inl s → fg_R R s.2 → bs_W Ph mX12_findFars (bs_rm 1 0 0) 17 (bs_mk [(0, .ref m), (1, .int l1), (2, .int l2), (3, .int l3), (4, .int s.1)]) [] 0 0 nx sh s.2) (ke : ∀ s, r = .inr s → fg_R R s → bs_W Ph mX12_findFars (bs_rm 1 0 0) 54 (bs_mk [(0, .ref m), (1, .int l1), (2, .int l2), (3, .int l3)]) [] 0 0 nx sh s) (hR : fg_R R s.2) (h : FX12_findFars_b17_L9 m l1 l2 l3 s = some r) : bs_W Ph mX12_findFars (bs_rm 1 0 0) 17 (bs_mk [(0, .ref m), (1, .int l1), (2, .int l2), (3, .int l3), (4, .int s.1)]) [] 0 0 nx sh s.2 := by
  unfold FX12_findFars_b17_L9 at h
  refine bs_iload dX12_findFars_17 rfl ?_
  refine bs_iload_n dX12_findFars_19 rfl ?_
  refine bs_icmp_ge (tgt := 54) dX12_findFars_20 (by decide) (fun c => ?_) (fun c => ?_)
  · replace h := fg_ip c h
    cases h
    refine bs_W.mk [(0, .ref m), (1, .int l1), (2, .int l2), (3, .int l3)] (by intro q hq; simp only [List.mem_cons, List.not_mem_nil, or_false] at hq; rcases hq with rfl | rfl | rfl | rfl <;> rfl) (ke _ rfl hR)
  · replace h := fg_iN c h
    refine bs_aload_n dX12_findFars_23 rfl ?_
    refine fg_getR (b := (m + 24)) dX12_findFars_24 fX12_80 (HM.s 0 rfl rfl rfl) hR (HM.r 0 36 rfl rfl rfl) ?_
    refine bs_bipush (v := (nI 60)) dX12_findFars_27 (by decide) ?_
    refine bs_iload_n dX12_findFars_29 rfl ?_
    refine bs_imul dX12_findFars_30 ?_
    refine bs_iload dX12_findFars_31 rfl ?_
    refine bs_iadd dX12_findFars_33 ?_
    refine bs_iload_n dX12_findFars_34 rfl ?_
    refine bs_iload dX12_findFars_35 rfl ?_
    refine bs_icmp_ne (tgt := 44) dX12_findFars_37 (by decide) (fun c => ?_) (fun c => ?_)
    · replace h := fg_iN c h
      refine bs_ldcw (v := (1000000)) dX12_findFars_44 cX12_365 ?_
      obtain ⟨g2, h⟩ := fg_gdE h
      refine fg_iast dX12_findFars_47 (HM.ss 24 rfl rfl) (fun j => HM.n 24 j rfl rfl rfl) g2 hR h (fun mu3 hR h => ?_)
      refine fg_iinc (m := (nI 1)) dX12_findFars_48 rfl rfl (by decide) ?_
      refine bs_goto (tgt := 17) dX12_findFars_51 (by decide) ?_
      cases h
      refine bs_W.mk [(0, .ref m), (1, .int l1), (2, .int l2), (3, .int l3), (4, .int (s.1 + (nI 1)))] (by intro q hq; simp only [List.mem_cons, List.not_mem_nil, or_false] at hq; rcases hq with rfl | rfl | rfl | rfl | rfl <;> rfl) (by have k := ka _ rfl hR; dsimp only at k; exact k)
    · replace h := fg_ip c h
      refine bs_iconst (v := (nI 0)) dX12_findFars_40 (by decide) ?_
      refine bs_goto (tgt := 47) dX12_findFars_41 (by decide) ?_
      obtain ⟨g4, h⟩ := fg_gdE h
      refine fg_iast dX12_findFars_47 (HM.ss 24 rfl rfl) (fun j => HM.n 24 j rfl rfl rfl) g4 hR h (fun mu5 hR h => ?_)
      refine fg_iinc (m := (nI 1)) dX12_findFars_48 rfl rfl (by decide) ?_
      refine bs_goto (tgt := 17) dX12_findFars_51 (by decide) ?_
      cases h
      refine bs_W.mk [(0, .ref m), (1, .int l1), (2, .int l2), (3, .int l3), (4, .int (s.1 + (nI 1)))] (by intro q hq; simp only [List.mem_cons, List.not_mem_nil, or_false] at hq; rcases hq with rfl | rfl | rfl | rfl | rfl <;> rfl) (by have k := ka _ rfl hR; dsimp only at k; exact k)
theorem wFX12_findFars_l17_L9 {nx : Nat} {sh : bs_Sh} {R : Nat → Nat → Option Nat} {m : Nat} (HM : fg_S (bs_tM m) R m sh) {l1 : Int32} {l2 : Int32} {l3 : Int32} {Ph : bs_Po} {t : bs_Mm} : ∀ n (y0 : Int32) (mu1 : bs_Mm), fg_lp (FX12_findFars_b17_L9 m l1 l2 l3) n (y0, mu1) = some t → fg_R R mu1 → (ke : ∀ s, t = s → fg_R R s → bs_W Ph mX12_findFars (bs_rm 1 0 0) 54 (bs_mk [(0, .ref m), (1, .int l1), (2, .int l2), (3, .int l3)]) [] 0 0 nx sh s) → bs_W Ph mX12_findFars (bs_rm 1 0 0) 17 (bs_mk [(0, .ref m), (1, .int l1), (2, .int l2), (3, .int l3), (4, .int y0)]) [] 0 0 nx sh mu1 := by
  intro n
  induction n with
  | zero => intro y0 mu1 h; exact absurd h (fun z => fg_lp0 z)
  | succ n ih =>
    intro y0 mu1 h hR ke
    obtain ⟨r, hb, h1, h2⟩ := fg_lpE h
    exact wFX12_findFars_b17_L9 (s := (y0, mu1)) HM (fun s' e hR' => ih s'.1 s'.2 (h1 s' e) hR' ke) (fun s' e => ke s' (h2 _ e).symm) hR hb
noncomputable def FX12_findFars_b9 (m : Nat)  (l1 : Int32) (l2 : Int32) (s : Int32 × bs_Mm) : Option ((Int32 × bs_Mm) ⊕ (bs_Mm)) :=
  if l2 ≤ s.1 then (
    some (.inr s.2)
  ) else (
    fg_bd (fg_lp (FX12_findFars_b17_L9 m l1 l2 s.1) fg_fu ((nI 0), s.2)) (fun t6 => 
      some (.inl ((s.1 + (nI 1)), t6))
    )
  )
set_option maxHeartbeats 4000000 in
theorem wFX12_findFars_b9 {nx : Nat} {sh : bs_Sh} {R : Nat → Nat → Option Nat} {m : Nat} (HM : fg_S (bs_tM m) R m sh) {l1 : Int32} {l2 : Int32} {Ph : bs_Po} {s : Int32 × bs_Mm} {r : (Int32 × bs_Mm) ⊕ (bs_Mm)} (ka : ∀ s, r = .inl s → fg_R R s.2 → bs_W Ph mX12_findFars (bs_rm 1 0 0) 9 (bs_mk [(0, .ref m), (1, .int l1), (2, .int l2), (3, .int s.1)]) [] 0 0 nx sh s.2) (ke : ∀ s, r = .inr s → fg_R R s → bs_W Ph mX12_findFars (bs_rm 1 0 0) 60 (bs_mk [(0, .ref m), (1, .int l1), (2, .int l2)]) [] 0 0 nx sh s) (hR : fg_R R s.2) (h : FX12_findFars_b9 m l1 l2 s = some r) : bs_W Ph mX12_findFars (bs_rm 1 0 0) 9 (bs_mk [(0, .ref m), (1, .int l1), (2, .int l2), (3, .int s.1)]) [] 0 0 nx sh s.2 := by
  unfold FX12_findFars_b9 at h
  refine bs_iload_n dX12_findFars_9 rfl ?_
  refine bs_iload_n dX12_findFars_10 rfl ?_
  refine bs_icmp_ge (tgt := 60) dX12_findFars_11 (by decide) (fun c => ?_) (fun c => ?_)
  · replace h := fg_ip c h
    cases h
    refine bs_W.mk [(0, .ref m), (1, .int l1), (2, .int l2)] (by intro q hq; simp only [List.mem_cons, List.not_mem_nil, or_false] at hq; rcases hq with rfl | rfl | rfl <;> rfl) (ke _ rfl hR)
  · replace h := fg_iN c h
    refine bs_iconst (v := (nI 0)) dX12_findFars_14 (by decide) ?_
    refine bs_istore dX12_findFars_15 rfl (by decide) ?_
    obtain ⟨t6, k7, h⟩ := fg_bdE h
    refine bs_W.mk [(0, .ref m), (1, .int l1), (2, .int l2), (3, .int s.1), (4, .int (nI 0))] (by intro q hq; simp only [List.mem_cons, List.not_mem_nil, or_false] at hq; rcases hq with rfl | rfl | rfl | rfl | rfl <;> rfl) ?_
    refine wFX12_findFars_l17_L9 HM _ _ _ k7 hR ?_
    intro s e hR
    subst e
    refine fg_iinc (m := (nI 1)) dX12_findFars_54 rfl rfl (by decide) ?_
    refine bs_goto (tgt := 9) dX12_findFars_57 (by decide) ?_
    cases h
    refine bs_W.mk [(0, .ref m), (1, .int l1), (2, .int l2), (3, .int (s.1 + (nI 1)))] (by intro q hq; simp only [List.mem_cons, List.not_mem_nil, or_false] at hq; rcases hq with rfl | rfl | rfl | rfl <;> rfl) (by have k := ka _ rfl hR; dsimp only at k; exact k)
theorem wFX12_findFars_l9 {nx : Nat} {sh : bs_Sh} {R : Nat → Nat → Option Nat} {m : Nat} (HM : fg_S (bs_tM m) R m sh) {l1 : Int32} {l2 : Int32} {Ph : bs_Po} {t : bs_Mm} : ∀ n (y0 : Int32) (mu1 : bs_Mm), fg_lp (FX12_findFars_b9 m l1 l2) n (y0, mu1) = some t → fg_R R mu1 → (ke : ∀ s, t = s → fg_R R s → bs_W Ph mX12_findFars (bs_rm 1 0 0) 60 (bs_mk [(0, .ref m), (1, .int l1), (2, .int l2)]) [] 0 0 nx sh s) → bs_W Ph mX12_findFars (bs_rm 1 0 0) 9 (bs_mk [(0, .ref m), (1, .int l1), (2, .int l2), (3, .int y0)]) [] 0 0 nx sh mu1 := by
  intro n
  induction n with
  | zero => intro y0 mu1 h; exact absurd h (fun z => fg_lp0 z)
  | succ n ih =>
    intro y0 mu1 h hR ke
    obtain ⟨r, hb, h1, h2⟩ := fg_lpE h
    exact wFX12_findFars_b9 (s := (y0, mu1)) HM (fun s' e hR' => ih s'.1 s'.2 (h1 s' e) hR' ke) (fun s' e => ke s' (h2 _ e).symm) hR hb
noncomputable def FX12_findFars_b65 (m : Nat)  (l1 : Int32) (l2 : Int32) (s : Int32 × bs_Mm) : Option ((Int32 × bs_Mm) ⊕ (bs_Mm)) :=
  fg_gd (fg_in l1 13) (
  if (((nI 24) * l1) + (bs_iv (s.2 (m + 8) l1.toNatClampNeg))) ≤ s.1 then (
    some (.inr s.2)
  ) else (
    fg_gd (fg_in s.1 312) (
    fg_gd (fg_in s.1 312) (
    fg_gd (fg_in s.1 312) (
    fg_gd (fg_in (((nI 60) * (bs_iv (s.2 (m + 11) s.1.toNatClampNeg))) + (bs_iv (s.2 (m + 12) s.1.toNatClampNeg))) 3600) (
    fg_gd (fg_in s.1 312) (
    fg_gd (fg_in s.1 312) (
    fg_gd (fg_in (((nI 60) * (bs_iv (s.2 (m + 11) s.1.toNatClampNeg))) + (bs_iv (s.2 (m + 12) s.1.toNatClampNeg))) 3600) (
    fg_wr s.2 (m + 24) (((nI 60) * (bs_iv (s.2 (m + 11) s.1.toNatClampNeg))) + (bs_iv (s.2 (m + 12) s.1.toNatClampNeg))).toNatClampNeg (.int (if (bs_iv (s.2 (m + 24) (((nI 60) * (bs_iv (s.2 (m + 11) s.1.toNatClampNeg))) + (bs_iv (s.2 (m + 12) s.1.toNatClampNeg))).toNatClampNeg)) < (bs_iv (s.2 (m + 10) s.1.toNatClampNeg)) then (bs_iv (s.2 (m + 24) (((nI 60) * (bs_iv (s.2 (m + 11) s.1.toNatClampNeg))) + (bs_iv (s.2 (m + 12) s.1.toNatClampNeg))).toNatClampNeg)) else (bs_iv (s.2 (m + 10) s.1.toNatClampNeg)))) (fun mu18 => 
    fg_gd (fg_in s.1 312) (
    fg_gd (fg_in s.1 312) (
    fg_gd (fg_in (((nI 60) * (bs_iv (mu18 (m + 12) s.1.toNatClampNeg))) + (bs_iv (mu18 (m + 11) s.1.toNatClampNeg))) 3600) (
    fg_wr mu18 (m + 24) (((nI 60) * (bs_iv (mu18 (m + 12) s.1.toNatClampNeg))) + (bs_iv (mu18 (m + 11) s.1.toNatClampNeg))).toNatClampNeg (.int (if (bs_iv (s.2 (m + 24) (((nI 60) * (bs_iv (s.2 (m + 11) s.1.toNatClampNeg))) + (bs_iv (s.2 (m + 12) s.1.toNatClampNeg))).toNatClampNeg)) < (bs_iv (s.2 (m + 10) s.1.toNatClampNeg)) then (bs_iv (s.2 (m + 24) (((nI 60) * (bs_iv (s.2 (m + 11) s.1.toNatClampNeg))) + (bs_iv (s.2 (m + 12) s.1.toNatClampNeg))).toNatClampNeg)) else (bs_iv (s.2 (m + 10) s.1.toNatClampNeg)))) (fun mu22 => 
    some (.inl ((s.1 + (nI 1)), mu22))))))))))))))
  ))
set_option maxHeartbeats 4000000 in
theorem wFX12_findFars_b65 {nx : Nat} {sh : bs_Sh} {R : Nat → Nat → Option Nat} {m : Nat} (HM : fg_S (bs_tM m) R m sh) {l1 : Int32} {l2 : Int32} {Ph : bs_Po} {s : Int32 × bs_Mm} {r : (Int32 × bs_Mm) ⊕ (bs_Mm)} (ka : ∀ s, r = .inl s → fg_R R s.2 → bs_W Ph mX12_findFars (bs_rm 1 0 0) 65 (bs_mk [(0, .ref m), (1, .int l1), (2, .int l2), (3, .int s.1)]) [] 0 0 nx sh s.2) (ke : ∀ s, r = .inr s → fg_R R s → bs_W Ph mX12_findFars (bs_rm 1 0 0) 164 (bs_mk [(0, .ref m), (1, .int l1), (2, .int l2)]) [] 0 0 nx sh s) (hR : fg_R R s.2) (h : FX12_findFars_b65 m l1 l2 s = some r) : bs_W Ph mX12_findFars (bs_rm 1 0 0) 65 (bs_mk [(0, .ref m), (1, .int l1), (2, .int l2), (3, .int s.1)]) [] 0 0 nx sh s.2 := by
  unfold FX12_findFars_b65 at h
  refine bs_iload_n dX12_findFars_65 rfl ?_
  refine bs_bipush (v := (nI 24)) dX12_findFars_66 (by decide) ?_
  refine bs_iload_n dX12_findFars_68 rfl ?_
  refine bs_imul dX12_findFars_69 ?_
  refine bs_aload_n dX12_findFars_70 rfl ?_
  refine fg_getR (b := (m + 8)) dX12_findFars_71 fX12_31 (HM.s 0 rfl rfl rfl) hR (HM.r 0 13 rfl rfl rfl) ?_
  refine bs_iload_n dX12_findFars_74 rfl ?_
  obtain ⟨g10, h⟩ := fg_gdE h
  refine bs_iald dX12_findFars_75 (HM.ss 8 rfl rfl) (fg_in_ix g10) ?_
  refine bs_iadd dX12_findFars_76 ?_
  refine bs_icmp_ge (tgt := 164) dX12_findFars_77 (by decide) (fun c => ?_) (fun c => ?_)
  · replace h := fg_ip c h
    cases h
    refine bs_W.mk [(0, .ref m), (1, .int l1), (2, .int l2)] (by intro q hq; simp only [List.mem_cons, List.not_mem_nil, or_false] at hq; rcases hq with rfl | rfl | rfl <;> rfl) (ke _ rfl hR)
  · replace h := fg_iN c h
    refine bs_aload_n dX12_findFars_80 rfl ?_
    refine fg_getR (b := (m + 10)) dX12_findFars_81 fX12_37 (HM.s 0 rfl rfl rfl) hR (HM.r 0 15 rfl rfl rfl) ?_
    refine bs_iload_n dX12_findFars_84 rfl ?_
    obtain ⟨g11, h⟩ := fg_gdE h
    refine bs_iald dX12_findFars_85 (HM.ss 10 rfl rfl) (fg_in_ix g11) ?_
    refine bs_aload_n dX12_findFars_86 rfl ?_
    refine fg_getR (b := (m + 24)) dX12_findFars_87 fX12_80 (HM.s 0 rfl rfl rfl) hR (HM.r 0 36 rfl rfl rfl) ?_
    refine bs_bipush (v := (nI 60)) dX12_findFars_90 (by decide) ?_
    refine bs_aload_n dX12_findFars_92 rfl ?_
    refine fg_getR (b := (m + 11)) dX12_findFars_93 fX12_40 (HM.s 0 rfl rfl rfl) hR (HM.r 0 16 rfl rfl rfl) ?_
    refine bs_iload_n dX12_findFars_96 rfl ?_
    obtain ⟨g12, h⟩ := fg_gdE h
    refine bs_iald dX12_findFars_97 (HM.ss 11 rfl rfl) (fg_in_ix g12) ?_
    refine bs_imul dX12_findFars_98 ?_
    refine bs_aload_n dX12_findFars_99 rfl ?_
    refine fg_getR (b := (m + 12)) dX12_findFars_100 fX12_43 (HM.s 0 rfl rfl rfl) hR (HM.r 0 17 rfl rfl rfl) ?_
    refine bs_iload_n dX12_findFars_103 rfl ?_
    obtain ⟨g13, h⟩ := fg_gdE h
    refine bs_iald dX12_findFars_104 (HM.ss 12 rfl rfl) (fg_in_ix g13) ?_
    refine bs_iadd dX12_findFars_105 ?_
    obtain ⟨g14, h⟩ := fg_gdE h
    refine bs_iald dX12_findFars_106 (HM.ss 24 rfl rfl) (fg_in_ix g14) ?_
    refine bs_mmin dX12_findFars_107 xX12_155 (by first | decide | (simp only [bs_rm]; omega)) (by first | exact Nat.le_of_ble_eq_true rfl | (simp only [bs_rm, List.map, List.sum_cons, List.sum_nil, Value.category]; omega)) (Nat.zero_le _) (Nat.zero_le _) ?_
    refine bs_istore dX12_findFars_110 rfl (by decide) ?_
    refine bs_aload_n dX12_findFars_112 rfl ?_
    refine fg_getR (b := (m + 24)) dX12_findFars_113 fX12_80 (HM.s 0 rfl rfl rfl) hR (HM.r 0 36 rfl rfl rfl) ?_
    refine bs_bipush (v := (nI 60)) dX12_findFars_116 (by decide) ?_
    refine bs_aload_n dX12_findFars_118 rfl ?_
    refine fg_getR (b := (m + 11)) dX12_findFars_119 fX12_40 (HM.s 0 rfl rfl rfl) hR (HM.r 0 16 rfl rfl rfl) ?_
    refine bs_iload_n dX12_findFars_122 rfl ?_
    obtain ⟨g15, h⟩ := fg_gdE h
    refine bs_iald dX12_findFars_123 (HM.ss 11 rfl rfl) (fg_in_ix g15) ?_
    refine bs_imul dX12_findFars_124 ?_
    refine bs_aload_n dX12_findFars_125 rfl ?_
    refine fg_getR (b := (m + 12)) dX12_findFars_126 fX12_43 (HM.s 0 rfl rfl rfl) hR (HM.r 0 17 rfl rfl rfl) ?_
    refine bs_iload_n dX12_findFars_129 rfl ?_
    obtain ⟨g16, h⟩ := fg_gdE h
    refine bs_iald dX12_findFars_130 (HM.ss 12 rfl rfl) (fg_in_ix g16) ?_
    refine bs_iadd dX12_findFars_131 ?_
    refine bs_iload dX12_findFars_132 rfl ?_
    obtain ⟨g17, h⟩ := fg_gdE h
    refine fg_iast dX12_findFars_134 (HM.ss 24 rfl rfl) (fun j => HM.n 24 j rfl rfl rfl) g17 hR h (fun mu18 hR h => ?_)
    refine bs_aload_n dX12_findFars_135 rfl ?_
    refine fg_getR (b := (m + 24)) dX12_findFars_136 fX12_80 (HM.s 0 rfl rfl rfl) hR (HM.r 0 36 rfl rfl rfl) ?_
    refine bs_bipush (v := (nI 60)) dX12_findFars_139 (by decide) ?_
    refine bs_aload_n dX12_findFars_141 rfl ?_
    refine fg_getR (b := (m + 12)) dX12_findFars_142 fX12_43 (HM.s 0 rfl rfl rfl) hR (HM.r 0 17 rfl rfl rfl) ?_
    refine bs_iload_n dX12_findFars_145 rfl ?_
    obtain ⟨g19, h⟩ := fg_gdE h
    refine bs_iald dX12_findFars_146 (HM.ss 12 rfl rfl) (fg_in_ix g19) ?_
    refine bs_imul dX12_findFars_147 ?_
    refine bs_aload_n dX12_findFars_148 rfl ?_
    refine fg_getR (b := (m + 11)) dX12_findFars_149 fX12_40 (HM.s 0 rfl rfl rfl) hR (HM.r 0 16 rfl rfl rfl) ?_
    refine bs_iload_n dX12_findFars_152 rfl ?_
    obtain ⟨g20, h⟩ := fg_gdE h
    refine bs_iald dX12_findFars_153 (HM.ss 11 rfl rfl) (fg_in_ix g20) ?_
    refine bs_iadd dX12_findFars_154 ?_
    refine bs_iload dX12_findFars_155 rfl ?_
    obtain ⟨g21, h⟩ := fg_gdE h
    refine fg_iast dX12_findFars_157 (HM.ss 24 rfl rfl) (fun j => HM.n 24 j rfl rfl rfl) g21 hR h (fun mu22 hR h => ?_)
    refine fg_iinc (m := (nI 1)) dX12_findFars_158 rfl rfl (by decide) ?_
    refine bs_goto (tgt := 65) dX12_findFars_161 (by decide) ?_
    cases h
    refine bs_W.mk [(0, .ref m), (1, .int l1), (2, .int l2), (3, .int (s.1 + (nI 1)))] (by intro q hq; simp only [List.mem_cons, List.not_mem_nil, or_false] at hq; rcases hq with rfl | rfl | rfl | rfl <;> rfl) (by have k := ka _ rfl hR; dsimp only at k; exact k)
theorem wFX12_findFars_l65 {nx : Nat} {sh : bs_Sh} {R : Nat → Nat → Option Nat} {m : Nat} (HM : fg_S (bs_tM m) R m sh) {l1 : Int32} {l2 : Int32} {Ph : bs_Po} {t : bs_Mm} : ∀ n (y0 : Int32) (mu1 : bs_Mm), fg_lp (FX12_findFars_b65 m l1 l2) n (y0, mu1) = some t → fg_R R mu1 → (ke : ∀ s, t = s → fg_R R s → bs_W Ph mX12_findFars (bs_rm 1 0 0) 164 (bs_mk [(0, .ref m), (1, .int l1), (2, .int l2)]) [] 0 0 nx sh s) → bs_W Ph mX12_findFars (bs_rm 1 0 0) 65 (bs_mk [(0, .ref m), (1, .int l1), (2, .int l2), (3, .int y0)]) [] 0 0 nx sh mu1 := by
  intro n
  induction n with
  | zero => intro y0 mu1 h; exact absurd h (fun z => fg_lp0 z)
  | succ n ih =>
    intro y0 mu1 h hR ke
    obtain ⟨r, hb, h1, h2⟩ := fg_lpE h
    exact wFX12_findFars_b65 (s := (y0, mu1)) HM (fun s' e hR' => ih s'.1 s'.2 (h1 s' e) hR' ke) (fun s' e => ke s' (h2 _ e).symm) hR hb
noncomputable def FX12_findFars_b183_L174_L166 (m : Nat)  (l1 : Int32) (l2 : Int32) (l3 : Int32) (l4 : Int32) (s : Int32 × bs_Mm) : Option ((Int32 × bs_Mm) ⊕ (bs_Mm)) :=
  if l2 ≤ s.1 then (
    some (.inr s.2)
  ) else (
    fg_gd (fg_in (((nI 60) * l4) + s.1) 3600) (
    fg_gd (fg_in (((nI 60) * l4) + l3) 3600) (
    fg_gd (fg_in (((nI 60) * l3) + s.1) 3600) (
    fg_gd (fg_in (((nI 60) * l4) + s.1) 3600) (
    fg_wr s.2 (m + 24) (((nI 60) * l4) + s.1).toNatClampNeg (.int (if ((bs_iv (s.2 (m + 24) (((nI 60) * l4) + l3).toNatClampNeg)) + (bs_iv (s.2 (m + 24) (((nI 60) * l3) + s.1).toNatClampNeg))) < (bs_iv (s.2 (m + 24) (((nI 60) * l4) + s.1).toNatClampNeg)) then ((bs_iv (s.2 (m + 24) (((nI 60) * l4) + l3).toNatClampNeg)) + (bs_iv (s.2 (m + 24) (((nI 60) * l3) + s.1).toNatClampNeg))) else (bs_iv (s.2 (m + 24) (((nI 60) * l4) + s.1).toNatClampNeg)))) (fun mu29 => 
    some (.inl ((s.1 + (nI 1)), mu29)))))))
  )
set_option maxHeartbeats 4000000 in
theorem wFX12_findFars_b183_L174_L166 {nx : Nat} {sh : bs_Sh} {R : Nat → Nat → Option Nat} {m : Nat} (HM : fg_S (bs_tM m) R m sh) {l1 : Int32} {l2 : Int32} {l3 : Int32} {l4 : Int32} {Ph : bs_Po} {s : Int32 × bs_Mm} {r : (Int32 × bs_Mm) ⊕ (bs_Mm)} (ka : ∀ s, r = .inl s → fg_R R s.2 → bs_W Ph mX12_findFars (bs_rm 1 0 0) 183 (bs_mk [(0, .ref m), (1, .int l1), (2, .int l2), (3, .int l3), (4, .int l4), (5, .int s.1)]) [] 0 0 nx sh s.2) (ke : ∀ s, r = .inr s → fg_R R s → bs_W Ph mX12_findFars (bs_rm 1 0 0) 249 (bs_mk [(0, .ref m), (1, .int l1), (2, .int l2), (3, .int l3), (4, .int l4)]) [] 0 0 nx sh s) (hR : fg_R R s.2) (h : FX12_findFars_b183_L174_L166 m l1 l2 l3 l4 s = some r) : bs_W Ph mX12_findFars (bs_rm 1 0 0) 183 (bs_mk [(0, .ref m), (1, .int l1), (2, .int l2), (3, .int l3), (4, .int l4), (5, .int s.1)]) [] 0 0 nx sh s.2 := by
  unfold FX12_findFars_b183_L174_L166 at h
  refine bs_iload dX12_findFars_183 rfl ?_
  refine bs_iload_n dX12_findFars_185 rfl ?_
  refine bs_icmp_ge (tgt := 249) dX12_findFars_186 (by decide) (fun c => ?_) (fun c => ?_)
  · replace h := fg_ip c h
    cases h
    refine bs_W.mk [(0, .ref m), (1, .int l1), (2, .int l2), (3, .int l3), (4, .int l4)] (by intro q hq; simp only [List.mem_cons, List.not_mem_nil, or_false] at hq; rcases hq with rfl | rfl | rfl | rfl | rfl <;> rfl) (ke _ rfl hR)
  · replace h := fg_iN c h
    refine bs_aload_n dX12_findFars_189 rfl ?_
    refine fg_getR (b := (m + 24)) dX12_findFars_190 fX12_80 (HM.s 0 rfl rfl rfl) hR (HM.r 0 36 rfl rfl rfl) ?_
    refine bs_bipush (v := (nI 60)) dX12_findFars_193 (by decide) ?_
    refine bs_iload dX12_findFars_195 rfl ?_
    refine bs_imul dX12_findFars_197 ?_
    refine bs_iload dX12_findFars_198 rfl ?_
    refine bs_iadd dX12_findFars_200 ?_
    refine bs_aload_n dX12_findFars_201 rfl ?_
    refine fg_getR (b := (m + 24)) dX12_findFars_202 fX12_80 (HM.s 0 rfl rfl rfl) hR (HM.r 0 36 rfl rfl rfl) ?_
    refine bs_bipush (v := (nI 60)) dX12_findFars_205 (by decide) ?_
    refine bs_iload dX12_findFars_207 rfl ?_
    refine bs_imul dX12_findFars_209 ?_
    refine bs_iload dX12_findFars_210 rfl ?_
    refine bs_iadd dX12_findFars_212 ?_
    obtain ⟨g25, h⟩ := fg_gdE h
    refine bs_iald dX12_findFars_213 (HM.ss 24 rfl rfl) (fg_in_ix g25) ?_
    refine bs_aload_n dX12_findFars_214 rfl ?_
    refine fg_getR (b := (m + 24)) dX12_findFars_215 fX12_80 (HM.s 0 rfl rfl rfl) hR (HM.r 0 36 rfl rfl rfl) ?_
    refine bs_bipush (v := (nI 60)) dX12_findFars_218 (by decide) ?_
    refine bs_iload dX12_findFars_220 rfl ?_
    refine bs_imul dX12_findFars_222 ?_
    refine bs_iload_n dX12_findFars_223 rfl ?_
    refine bs_iadd dX12_findFars_224 ?_
    obtain ⟨g26, h⟩ := fg_gdE h
    refine bs_iald dX12_findFars_225 (HM.ss 24 rfl rfl) (fg_in_ix g26) ?_
    refine bs_aload_n dX12_findFars_226 rfl ?_
    refine fg_getR (b := (m + 24)) dX12_findFars_227 fX12_80 (HM.s 0 rfl rfl rfl) hR (HM.r 0 36 rfl rfl rfl) ?_
    refine bs_bipush (v := (nI 60)) dX12_findFars_230 (by decide) ?_
    refine bs_iload_n dX12_findFars_232 rfl ?_
    refine bs_imul dX12_findFars_233 ?_
    refine bs_iload dX12_findFars_234 rfl ?_
    refine bs_iadd dX12_findFars_236 ?_
    obtain ⟨g27, h⟩ := fg_gdE h
    refine bs_iald dX12_findFars_237 (HM.ss 24 rfl rfl) (fg_in_ix g27) ?_
    refine bs_iadd dX12_findFars_238 ?_
    refine bs_mmin dX12_findFars_239 xX12_155 (by first | decide | (simp only [bs_rm]; omega)) (by first | exact Nat.le_of_ble_eq_true rfl | (simp only [bs_rm, List.map, List.sum_cons, List.sum_nil, Value.category]; omega)) (Nat.zero_le _) (Nat.zero_le _) ?_
    obtain ⟨g28, h⟩ := fg_gdE h
    refine fg_iast dX12_findFars_242 (HM.ss 24 rfl rfl) (fun j => HM.n 24 j rfl rfl rfl) g28 hR h (fun mu29 hR h => ?_)
    refine fg_iinc (m := (nI 1)) dX12_findFars_243 rfl rfl (by decide) ?_
    refine bs_goto (tgt := 183) dX12_findFars_246 (by decide) ?_
    cases h
    refine bs_W.mk [(0, .ref m), (1, .int l1), (2, .int l2), (3, .int l3), (4, .int l4), (5, .int (s.1 + (nI 1)))] (by intro q hq; simp only [List.mem_cons, List.not_mem_nil, or_false] at hq; rcases hq with rfl | rfl | rfl | rfl | rfl | rfl <;> rfl) (by have k := ka _ rfl hR; dsimp only at k; exact k)
theorem wFX12_findFars_l183_L174_L166 {nx : Nat} {sh : bs_Sh} {R : Nat → Nat → Option Nat} {m : Nat} (HM : fg_S (bs_tM m) R m sh) {l1 : Int32} {l2 : Int32} {l3 : Int32} {l4 : Int32} {Ph : bs_Po} {t : bs_Mm} : ∀ n (y0 : Int32) (mu1 : bs_Mm), fg_lp (FX12_findFars_b183_L174_L166 m l1 l2 l3 l4) n (y0, mu1) = some t → fg_R R mu1 → (ke : ∀ s, t = s → fg_R R s → bs_W Ph mX12_findFars (bs_rm 1 0 0) 249 (bs_mk [(0, .ref m), (1, .int l1), (2, .int l2), (3, .int l3), (4, .int l4)]) [] 0 0 nx sh s) → bs_W Ph mX12_findFars (bs_rm 1 0 0) 183 (bs_mk [(0, .ref m), (1, .int l1), (2, .int l2), (3, .int l3), (4, .int l4), (5, .int y0)]) [] 0 0 nx sh mu1 := by
  intro n
  induction n with
  | zero => intro y0 mu1 h; exact absurd h (fun z => fg_lp0 z)
  | succ n ih =>
    intro y0 mu1 h hR ke
    obtain ⟨r, hb, h1, h2⟩ := fg_lpE h
    exact wFX12_findFars_b183_L174_L166 (s := (y0, mu1)) HM (fun s' e hR' => ih s'.1 s'.2 (h1 s' e) hR' ke) (fun s' e => ke s' (h2 _ e).symm) hR hb
noncomputable def FX12_findFars_b174_L166 (m : Nat)  (l1 : Int32) (l2 : Int32) (l3 : Int32) (s : Int32 × bs_Mm) : Option ((Int32 × bs_Mm) ⊕ (bs_Mm)) :=
  if l2 ≤ s.1 then (
    some (.inr s.2)
  ) else (
    fg_bd (fg_lp (FX12_findFars_b183_L174_L166 m l1 l2 l3 s.1) fg_fu ((nI 0), s.2)) (fun t30 => 
      some (.inl ((s.1 + (nI 1)), t30))
    )
  )
set_option maxHeartbeats 4000000 in
theorem wFX12_findFars_b174_L166 {nx : Nat} {sh : bs_Sh} {R : Nat → Nat → Option Nat} {m : Nat} (HM : fg_S (bs_tM m) R m sh) {l1 : Int32} {l2 : Int32} {l3 : Int32} {Ph : bs_Po} {s : Int32 × bs_Mm} {r : (Int32 × bs_Mm) ⊕ (bs_Mm)} (ka : ∀ s, r = .inl s → fg_R R s.2 → bs_W Ph mX12_findFars (bs_rm 1 0 0) 174 (bs_mk [(0, .ref m), (1, .int l1), (2, .int l2), (3, .int l3), (4, .int s.1)]) [] 0 0 nx sh s.2) (ke : ∀ s, r = .inr s → fg_R R s → bs_W Ph mX12_findFars (bs_rm 1 0 0) 255 (bs_mk [(0, .ref m), (1, .int l1), (2, .int l2), (3, .int l3)]) [] 0 0 nx sh s) (hR : fg_R R s.2) (h : FX12_findFars_b174_L166 m l1 l2 l3 s = some r) : bs_W Ph mX12_findFars (bs_rm 1 0 0) 174 (bs_mk [(0, .ref m), (1, .int l1), (2, .int l2), (3, .int l3), (4, .int s.1)]) [] 0 0 nx sh s.2 := by
  unfold FX12_findFars_b174_L166 at h
  refine bs_iload dX12_findFars_174 rfl ?_
  refine bs_iload_n dX12_findFars_176 rfl ?_
  refine bs_icmp_ge (tgt := 255) dX12_findFars_177 (by decide) (fun c => ?_) (fun c => ?_)
  · replace h := fg_ip c h
    cases h
    refine bs_W.mk [(0, .ref m), (1, .int l1), (2, .int l2), (3, .int l3)] (by intro q hq; simp only [List.mem_cons, List.not_mem_nil, or_false] at hq; rcases hq with rfl | rfl | rfl | rfl <;> rfl) (ke _ rfl hR)
  · replace h := fg_iN c h
    refine bs_iconst (v := (nI 0)) dX12_findFars_180 (by decide) ?_
    refine bs_istore dX12_findFars_181 rfl (by decide) ?_
    obtain ⟨t30, k31, h⟩ := fg_bdE h
    refine bs_W.mk [(0, .ref m), (1, .int l1), (2, .int l2), (3, .int l3), (4, .int s.1), (5, .int (nI 0))] (by intro q hq; simp only [List.mem_cons, List.not_mem_nil, or_false] at hq; rcases hq with rfl | rfl | rfl | rfl | rfl | rfl <;> rfl) ?_
    refine wFX12_findFars_l183_L174_L166 HM _ _ _ k31 hR ?_
    intro s e hR
    subst e
    refine fg_iinc (m := (nI 1)) dX12_findFars_249 rfl rfl (by decide) ?_
    refine bs_goto (tgt := 174) dX12_findFars_252 (by decide) ?_
    cases h
    refine bs_W.mk [(0, .ref m), (1, .int l1), (2, .int l2), (3, .int l3), (4, .int (s.1 + (nI 1)))] (by intro q hq; simp only [List.mem_cons, List.not_mem_nil, or_false] at hq; rcases hq with rfl | rfl | rfl | rfl | rfl <;> rfl) (by have k := ka _ rfl hR; dsimp only at k; exact k)
theorem wFX12_findFars_l174_L166 {nx : Nat} {sh : bs_Sh} {R : Nat → Nat → Option Nat} {m : Nat} (HM : fg_S (bs_tM m) R m sh) {l1 : Int32} {l2 : Int32} {l3 : Int32} {Ph : bs_Po} {t : bs_Mm} : ∀ n (y0 : Int32) (mu1 : bs_Mm), fg_lp (FX12_findFars_b174_L166 m l1 l2 l3) n (y0, mu1) = some t → fg_R R mu1 → (ke : ∀ s, t = s → fg_R R s → bs_W Ph mX12_findFars (bs_rm 1 0 0) 255 (bs_mk [(0, .ref m), (1, .int l1), (2, .int l2), (3, .int l3)]) [] 0 0 nx sh s) → bs_W Ph mX12_findFars (bs_rm 1 0 0) 174 (bs_mk [(0, .ref m), (1, .int l1), (2, .int l2), (3, .int l3), (4, .int y0)]) [] 0 0 nx sh mu1 := by
  intro n
  induction n with
  | zero => intro y0 mu1 h; exact absurd h (fun z => fg_lp0 z)
  | succ n ih =>
    intro y0 mu1 h hR ke
    obtain ⟨r, hb, h1, h2⟩ := fg_lpE h
    exact wFX12_findFars_b174_L166 (s := (y0, mu1)) HM (fun s' e hR' => ih s'.1 s'.2 (h1 s' e) hR' ke) (fun s' e => ke s' (h2 _ e).symm) hR hb
noncomputable def FX12_findFars_b166 (m : Nat)  (l1 : Int32) (l2 : Int32) (s : Int32 × bs_Mm) : Option ((Int32 × bs_Mm) ⊕ (bs_Mm)) :=
  if l2 ≤ s.1 then (
    some (.inr s.2)
  ) else (
    fg_bd (fg_lp (FX12_findFars_b174_L166 m l1 l2 s.1) fg_fu ((nI 0), s.2)) (fun t32 => 
      some (.inl ((s.1 + (nI 1)), t32))
    )
  )
set_option maxHeartbeats 4000000 in
theorem wFX12_findFars_b166 {nx : Nat} {sh : bs_Sh} {R : Nat → Nat → Option Nat} {m : Nat} (HM : fg_S (bs_tM m) R m sh) {l1 : Int32} {l2 : Int32} {Ph : bs_Po} {s : Int32 × bs_Mm} {r : (Int32 × bs_Mm) ⊕ (bs_Mm)} (ka : ∀ s, r = .inl s → fg_R R s.2 → bs_W Ph mX12_findFars (bs_rm 1 0 0) 166 (bs_mk [(0, .ref m), (1, .int l1), (2, .int l2), (3, .int s.1)]) [] 0 0 nx sh s.2) (ke : ∀ s, r = .inr s → fg_R R s → bs_W Ph mX12_findFars (bs_rm 1 0 0) 261 (bs_mk [(0, .ref m), (1, .int l1), (2, .int l2)]) [] 0 0 nx sh s) (hR : fg_R R s.2) (h : FX12_findFars_b166 m l1 l2 s = some r) : bs_W Ph mX12_findFars (bs_rm 1 0 0) 166 (bs_mk [(0, .ref m), (1, .int l1), (2, .int l2), (3, .int s.1)]) [] 0 0 nx sh s.2 := by
  unfold FX12_findFars_b166 at h
  refine bs_iload_n dX12_findFars_166 rfl ?_
  refine bs_iload_n dX12_findFars_167 rfl ?_
  refine bs_icmp_ge (tgt := 261) dX12_findFars_168 (by decide) (fun c => ?_) (fun c => ?_)
  · replace h := fg_ip c h
    cases h
    refine bs_W.mk [(0, .ref m), (1, .int l1), (2, .int l2)] (by intro q hq; simp only [List.mem_cons, List.not_mem_nil, or_false] at hq; rcases hq with rfl | rfl | rfl <;> rfl) (ke _ rfl hR)
  · replace h := fg_iN c h
    refine bs_iconst (v := (nI 0)) dX12_findFars_171 (by decide) ?_
    refine bs_istore dX12_findFars_172 rfl (by decide) ?_
    obtain ⟨t32, k33, h⟩ := fg_bdE h
    refine bs_W.mk [(0, .ref m), (1, .int l1), (2, .int l2), (3, .int s.1), (4, .int (nI 0))] (by intro q hq; simp only [List.mem_cons, List.not_mem_nil, or_false] at hq; rcases hq with rfl | rfl | rfl | rfl | rfl <;> rfl) ?_
    refine wFX12_findFars_l174_L166 HM _ _ _ k33 hR ?_
    intro s e hR
    subst e
    refine fg_iinc (m := (nI 1)) dX12_findFars_255 rfl rfl (by decide) ?_
    refine bs_goto (tgt := 166) dX12_findFars_258 (by decide) ?_
    cases h
    refine bs_W.mk [(0, .ref m), (1, .int l1), (2, .int l2), (3, .int (s.1 + (nI 1)))] (by intro q hq; simp only [List.mem_cons, List.not_mem_nil, or_false] at hq; rcases hq with rfl | rfl | rfl | rfl <;> rfl) (by have k := ka _ rfl hR; dsimp only at k; exact k)
theorem wFX12_findFars_l166 {nx : Nat} {sh : bs_Sh} {R : Nat → Nat → Option Nat} {m : Nat} (HM : fg_S (bs_tM m) R m sh) {l1 : Int32} {l2 : Int32} {Ph : bs_Po} {t : bs_Mm} : ∀ n (y0 : Int32) (mu1 : bs_Mm), fg_lp (FX12_findFars_b166 m l1 l2) n (y0, mu1) = some t → fg_R R mu1 → (ke : ∀ s, t = s → fg_R R s → bs_W Ph mX12_findFars (bs_rm 1 0 0) 261 (bs_mk [(0, .ref m), (1, .int l1), (2, .int l2)]) [] 0 0 nx sh s) → bs_W Ph mX12_findFars (bs_rm 1 0 0) 166 (bs_mk [(0, .ref m), (1, .int l1), (2, .int l2), (3, .int y0)]) [] 0 0 nx sh mu1 := by
  intro n
  induction n with
  | zero => intro y0 mu1 h; exact absurd h (fun z => fg_lp0 z)
  | succ n ih =>
    intro y0 mu1 h hR ke
    obtain ⟨r, hb, h1, h2⟩ := fg_lpE h
    exact wFX12_findFars_b166 (s := (y0, mu1)) HM (fun s' e hR' => ih s'.1 s'.2 (h1 s' e) hR' ke) (fun s' e => ke s' (h2 _ e).symm) hR hb
noncomputable def FX12_findFars (m : Nat) (mu : bs_Mm) (p1 : Int32) : Option (bs_Mm) :=
  fg_gd (fg_in p1 13) (
  fg_bd (fg_lp (FX12_findFars_b9 m p1 (bs_iv (mu (m + 9) p1.toNatClampNeg))) fg_fu ((nI 0), mu)) (fun t8 => 
    fg_bd (fg_lp (FX12_findFars_b65 m p1 (bs_iv (mu (m + 9) p1.toNatClampNeg))) fg_fu (((nI 24) * p1), t8)) (fun t23 => 
      fg_bd (fg_lp (FX12_findFars_b166 m p1 (bs_iv (mu (m + 9) p1.toNatClampNeg))) fg_fu ((nI 0), t23)) (fun t34 => 
        some t34
      )
    )
  ))
set_option maxHeartbeats 4000000 in
theorem wX12_findFars {nx : Nat} {sh : bs_Sh} {R : Nat → Nat → Option Nat} {m : Nat} (HM : fg_S (bs_tM m) R m sh) {mu : bs_Mm} (hR : fg_R R mu) {p1 : Int32} {r : bs_Mm} (h : FX12_findFars m mu p1 = some r) : bs_C mX12_findFars (bs_rm 1 0 0) [.ref m, .int p1] nx sh mu (fg_po R nx sh none r) := by
  refine bs_ct (by decide +kernel) (Nat.le_of_ble_eq_true rfl) ?_
  have kr : ∀ q, r = q → fg_R R q → (fg_po R nx sh none r) none nx sh q := fun q e hq => by subst e; exact ⟨rfl, rfl, rfl, rfl, hq⟩
  unfold FX12_findFars at h
  refine bs_aload_n dX12_findFars_0 rfl ?_
  refine fg_getR (b := (m + 9)) dX12_findFars_1 fX12_34 (HM.s 0 rfl rfl rfl) hR (HM.r 0 14 rfl rfl rfl) ?_
  refine bs_iload_n dX12_findFars_4 rfl ?_
  obtain ⟨g1, h⟩ := fg_gdE h
  refine bs_iald dX12_findFars_5 (HM.ss 9 rfl rfl) (fg_in_ix g1) ?_
  refine bs_istore_n dX12_findFars_6 rfl (by decide) ?_
  refine bs_iconst (v := (nI 0)) dX12_findFars_7 (by decide) ?_
  refine bs_istore_n dX12_findFars_8 rfl (by decide) ?_
  obtain ⟨t8, k9, h⟩ := fg_bdE h
  refine bs_W.mk [(0, .ref m), (1, .int p1), (2, .int (bs_iv (mu (m + 9) p1.toNatClampNeg))), (3, .int (nI 0))] (by intro q hq; simp only [List.mem_cons, List.not_mem_nil, or_false] at hq; rcases hq with rfl | rfl | rfl | rfl <;> rfl) ?_
  refine wFX12_findFars_l9 HM _ _ _ k9 hR ?_
  intro s e hR
  subst e
  refine bs_bipush (v := (nI 24)) dX12_findFars_60 (by decide) ?_
  refine bs_iload_n dX12_findFars_62 rfl ?_
  refine bs_imul dX12_findFars_63 ?_
  refine bs_istore_n dX12_findFars_64 rfl (by decide) ?_
  obtain ⟨t23, k24, h⟩ := fg_bdE h
  refine bs_W.mk [(0, .ref m), (1, .int p1), (2, .int (bs_iv (mu (m + 9) p1.toNatClampNeg))), (3, .int ((nI 24) * p1))] (by intro q hq; simp only [List.mem_cons, List.not_mem_nil, or_false] at hq; rcases hq with rfl | rfl | rfl | rfl <;> rfl) ?_
  refine wFX12_findFars_l65 HM _ _ _ k24 hR ?_
  intro s e hR
  subst e
  refine bs_iconst (v := (nI 0)) dX12_findFars_164 (by decide) ?_
  refine bs_istore_n dX12_findFars_165 rfl (by decide) ?_
  obtain ⟨t34, k35, h⟩ := fg_bdE h
  refine bs_W.mk [(0, .ref m), (1, .int p1), (2, .int (bs_iv (mu (m + 9) p1.toNatClampNeg))), (3, .int (nI 0))] (by intro q hq; simp only [List.mem_cons, List.not_mem_nil, or_false] at hq; rcases hq with rfl | rfl | rfl | rfl <;> rfl) ?_
  refine wFX12_findFars_l166 HM _ _ _ k35 hR ?_
  intro s e hR
  subst e
  cases h
  exact bs_vret dX12_findFars_261 rfl (Nat.zero_le _) (Nat.zero_le _) (kr _ rfl hR)
