/-! SORTS (own): count; air, strain, chance; both sides -/
abbrev bs_So : Type := Nat × (Nat → Nat) × (Nat → Nat) × (Nat → Nat)
def so_ok (S : bs_So) : Prop := S.1 ≤ 6 ∧ ∀ j, j < S.1 → 5 ≤ S.2.1 j ∧ S.2.1 j ≤ 200 ∧ S.2.2.1 j ≤ 9 ∧ S.2.2.2 j ≤ 99
def cSo (x : Nat) (S : bs_So) (mu : bs_Mm) : Prop := bs_iv (mu (x + 1) 3) = nI S.1 ∧ bs_rw mu (x + 2) S.1 S.2.1 ∧ bs_rw mu (x + 3) S.1 S.2.2.1 ∧ bs_rw mu (x + 4) S.1 S.2.2.2
def mSo (m : Nat) (S : bs_So) (mu : bs_Mm) : Prop := bs_iv (mu m 5) = nI S.1 ∧ bs_rw mu (m + 1) S.1 S.2.1 ∧ bs_rw mu (m + 2) S.1 S.2.2.1 ∧ bs_rw mu (m + 3) S.1 S.2.2.2
/-- what sort asks; the sorts with one more; the memory behind it -/
def so_may (S : bs_So) (a b e : Int32) : Prop := bs_in a 5 200 = 1 ∧ bs_in b 0 9 = 1 ∧ bs_in e 0 99 = 1 ∧ S.1 < 6
def so_add (S : bs_So) (a b e : Nat) : bs_So := (S.1 + 1, bs_fn S.2.1 S.1 a, bs_fn S.2.2.1 S.1 b, bs_fn S.2.2.2 S.1 e)
def so_mu (r0 r1 r2 o k n : Nat) (a b e : Int32) (mu : bs_Mm) : bs_Mm := bs_up (bs_up (bs_up (bs_up mu r0 n (.int a)) r1 n (.int b)) r2 n (.int e)) o k (.int (nI (n + 1)))
theorem cSo_add {x : Nat} {S : bs_So} {mu : bs_Mm} (h : cSo x S mu) (a b e : Nat) : cSo x (so_add S a b e) (so_mu (x + 2) (x + 3) (x + 4) (x + 1) 3 S.1 (nI a) (nI b) (nI e) mu) := by
  refine ⟨by unfold so_mu; rw [bs_up_eq]; rfl, (h.2.1.push a).of ?_, (h.2.2.1.push b).of ?_, (h.2.2.2.push e).of ?_⟩ <;> (funext j; unfold so_mu; simp (disch := omega) only [bs_up_f, bs_up])
  all_goals simp
theorem mSo_add {m : Nat} {S : bs_So} {mu : bs_Mm} (h : mSo m S mu) (a b e : Nat) : mSo m (so_add S a b e) (so_mu (m + 1) (m + 2) (m + 3) m 5 S.1 (nI a) (nI b) (nI e) mu) := by
  refine ⟨by unfold so_mu; rw [bs_up_eq]; rfl, (h.2.1.push a).of ?_, (h.2.2.1.push b).of ?_, (h.2.2.2.push e).of ?_⟩ <;> (funext j; unfold so_mu; simp (disch := omega) only [bs_up_f, bs_up])
  all_goals simp
theorem bs_in_nat {v lw hi : Int32} (h : bs_in v lw hi = 1) (hl : 0 ≤ lw) : ∃ j : Nat, v = nI j ∧ lw.toInt ≤ j ∧ (j : Int) ≤ hi.toInt := by
  unfold bs_in at h
  split at h
  · rename_i z
    have h1 := Int32.le_iff_toInt_le.mp z.1
    have h2 := Int32.le_iff_toInt_le.mp z.2
    have h3 := Int32.le_iff_toInt_le.mp hl
    rw [Int32.toInt_zero] at h3
    obtain ⟨j, hj, e⟩ := nI_of (x := v) (by rw [Int32.lt_iff_toInt_lt, Int32.toInt_zero]; omega)
    subst e
    rw [nI_toInt hj] at h1 h2
    exact ⟨j, rfl, h1, h2⟩
  · exact absurd h (by decide)
/-- an answer, and this memory -/
def bs_ex (nx : Nat) (sh : bs_Sh) (v : Value) (mu1 : bs_Mm) : bs_Po := fun r nx' sh' mu' => r = some v ∧ nx' = nx ∧ sh' = sh ∧ mu' = mu1
theorem bs_callVe {Z : bs_Z} {X : bs_M} {rm : Room} {pc : Nat} {lo : bs_L} {st rest : List Value} {nc ns nx : Nat} {sh : bs_Sh} {mu mu1 : bs_Mm} {ix n ci b d0 : Nat} {Y : bs_M} {As : List Value} {w0 : Value} (d : decode X.2.1 pc = .ok (.invokevirtual ix, 3)) (w : bs_cv X.1.cls ix Y n ci) (hC : bs_C Y (bs_rm d0 0 0) (.ref b :: As) nx sh mu (bs_ex nx sh w0 mu1)) (hn : As.length = n) (hb : (sh b).1 = ci) (hst : st = As.reverse ++ .ref b :: rest) (hw : (rest.map fun v => v.category).sum ≤ 8) (hR : bs_cr rm (bs_rm d0 0 0) Y.2.2.1 nc ns)
    (kk : bs_V Z X rm (pc + 3) lo (w0 :: rest) nc ns nx sh mu1) : bs_V Z X rm pc lo st nc ns nx sh mu :=
  bs_callV d w hC hn hb hst hw hR fun v nx' sh' mu' h => by
    obtain ⟨e1, e2, e3, e4⟩ := h
    rw [e1, e2, e3, e4]
    exact kk
theorem n_in1 {nx : Nat} {sh : bs_Sh} {mu : bs_Mm} {v lw hi : Nat} (h1 : lw ≤ v) (h2 : v ≤ hi) (h3 : hi < 2 ^ 31) : bs_C mX12_in (bs_rm 0 0 0) [.int (nI v), .int (nI lw), .int (nI hi)] nx sh mu (bs_no nx sh mu (.int (nI 1))) := by
  have k := m_in (nx := nx) (sh := sh) (mu := mu) (nI v) (nI lw) (nI hi)
  have e : bs_in (nI v) (nI lw) (nI hi) = nI 1 := bs_in_1 (nI_nlt h1 (by omega)) (nI_nlt h2 h3)
  rwa [e] at k
set_option maxHeartbeats 4000000 in
theorem s_makeR {x nx : Nat} {S : bs_So} {sh : bs_Sh} {mu : bs_Mm} (H : bs_St (bs_tS x) x sh mu) (hS : cSo x S mu) (hk : so_ok S) {a b e : Int32} (hr : ¬ so_may S a b e) : bs_C mX8_make (bs_rm 0 0 0) [.ref (x + 1), .int a, .int b, .int e] nx sh mu (bs_no nx sh mu (.int (-1))) := by
  have q1 := hk.1
  refine bs_ct (by decide +kernel) (Nat.le_of_ble_eq_true rfl) ?_
  refine bs_iload_n dX8_make_0 rfl ?_
  refine bs_iconst (v := nI 5) dX8_make_1 (by decide) ?_
  refine bs_icmp_lt (tgt := 22) dX8_make_2 (by decide) (fun c2 => ?_) (fun c2 => ?_)
  · refine bs_iconst (v := (-1)) dX8_make_22 (by decide) ?_
    exact bs_iret dX8_make_23 rfl (by decide) (by decide) ⟨rfl, rfl, rfl, rfl⟩
  · refine bs_iload_n dX8_make_5 rfl ?_
    refine bs_sipush (v := nI 200) dX8_make_6 (by decide) ?_
    refine bs_icmp_gt (tgt := 22) dX8_make_9 (by decide) (fun c9 => ?_) (fun c9 => ?_)
    · refine bs_iconst (v := (-1)) dX8_make_22 (by decide) ?_
      exact bs_iret dX8_make_23 rfl (by decide) (by decide) ⟨rfl, rfl, rfl, rfl⟩
    · refine bs_iload_n dX8_make_12 rfl ?_
      refine bs_if_lt (tgt := 22) dX8_make_13 (by decide) (fun c13 => ?_) (fun c13 => ?_)
      · refine bs_iconst (v := (-1)) dX8_make_22 (by decide) ?_
        exact bs_iret dX8_make_23 rfl (by decide) (by decide) ⟨rfl, rfl, rfl, rfl⟩
      · refine bs_iload_n dX8_make_16 rfl ?_
        refine bs_bipush (v := nI 9) dX8_make_17 (by decide) ?_
        refine bs_icmp_le (tgt := 24) dX8_make_19 (by decide) (fun c19 => ?_) (fun c19 => ?_)
        · refine bs_iload_n dX8_make_24 rfl ?_
          refine bs_if_lt (tgt := 43) dX8_make_25 (by decide) (fun c25 => ?_) (fun c25 => ?_)
          · refine bs_iconst (v := (-1)) dX8_make_43 (by decide) ?_
            exact bs_iret dX8_make_44 rfl (by decide) (by decide) ⟨rfl, rfl, rfl, rfl⟩
          · refine bs_iload_n dX8_make_28 rfl ?_
            refine bs_bipush (v := nI 99) dX8_make_29 (by decide) ?_
            refine bs_icmp_gt (tgt := 43) dX8_make_31 (by decide) (fun c31 => ?_) (fun c31 => ?_)
            · refine bs_iconst (v := (-1)) dX8_make_43 (by decide) ?_
              exact bs_iret dX8_make_44 rfl (by decide) (by decide) ⟨rfl, rfl, rfl, rfl⟩
            · refine bs_aload_n dX8_make_34 rfl ?_
              refine bs_getN (v := S.1) dX8_make_35 fX8_21 (H.s 1 rfl rfl rfl) (hS.1) ?_
              refine bs_bipush (v := nI 6) dX8_make_38 (by decide) ?_
              refine bs_icmp_ltN (tgt := 45) dX8_make_40 (by decide) (by have q0 := hk.1; omega) (by omega) (fun c40 => ?_) (fun c40 => ?_)
              · exact absurd ⟨bs_in_1 c2 c9, bs_in_1 c13 (fun h => absurd (Int32.le_iff_toInt_le.mp c19) (Int.not_le.mpr (Int32.lt_iff_toInt_lt.mp h))), bs_in_1 c25 c31, c40⟩ hr
              · refine bs_iconst (v := (-1)) dX8_make_43 (by decide) ?_
                exact bs_iret dX8_make_44 rfl (by decide) (by decide) ⟨rfl, rfl, rfl, rfl⟩
        · refine bs_iconst (v := (-1)) dX8_make_22 (by decide) ?_
          exact bs_iret dX8_make_23 rfl (by decide) (by decide) ⟨rfl, rfl, rfl, rfl⟩
set_option maxHeartbeats 4000000 in
theorem s_makeA {x nx : Nat} {S : bs_So} {sh : bs_Sh} {mu : bs_Mm} (H : bs_St (bs_tS x) x sh mu) (hS : cSo x S mu) (hk : so_ok S) {a b e : Nat} (ha : 5 ≤ a ∧ a ≤ 200) (hb : b ≤ 9) (he : e ≤ 99) (h6 : S.1 < 6) : bs_C mX8_make (bs_rm 0 0 0) [.ref (x + 1), .int (nI a), .int (nI b), .int (nI e)] nx sh mu (bs_ex nx sh (.int (nI S.1)) (so_mu (x + 2) (x + 3) (x + 4) (x + 1) 3 S.1 (nI a) (nI b) (nI e) mu)) := by
  have q1 := hk.1
  refine bs_ct (by decide +kernel) (Nat.le_of_ble_eq_true rfl) ?_
  refine bs_iload_n dX8_make_0 rfl ?_
  refine bs_iconst (v := nI 5) dX8_make_1 (by decide) ?_
  refine bs_icmp_ltN (tgt := 22) dX8_make_2 (by decide) (by have q0 := ha; omega) (by omega) (fun c2 => ?_) (fun c2 => ?_)
  · omega
  · refine bs_iload_n dX8_make_5 rfl ?_
    refine bs_sipush (v := nI 200) dX8_make_6 (by decide) ?_
    refine bs_icmp_gtN (tgt := 22) dX8_make_9 (by decide) (by have q0 := ha; omega) (by omega) (fun c9 => ?_) (fun c9 => ?_)
    · omega
    · refine bs_iload_n dX8_make_12 rfl ?_
      refine bs_if_ltN (tgt := 22) dX8_make_13 (by decide) (by have q0 := hb; omega) (fun c13 => ?_) (fun c13 => ?_)
      · omega
      · refine bs_iload_n dX8_make_16 rfl ?_
        refine bs_bipush (v := nI 9) dX8_make_17 (by decide) ?_
        refine bs_icmp_leN (tgt := 24) dX8_make_19 (by decide) (by have q0 := hb; omega) (by omega) (fun c19 => ?_) (fun c19 => ?_)
        · refine bs_iload_n dX8_make_24 rfl ?_
          refine bs_if_ltN (tgt := 43) dX8_make_25 (by decide) (by have q0 := he; omega) (fun c25 => ?_) (fun c25 => ?_)
          · omega
          · refine bs_iload_n dX8_make_28 rfl ?_
            refine bs_bipush (v := nI 99) dX8_make_29 (by decide) ?_
            refine bs_icmp_gtN (tgt := 43) dX8_make_31 (by decide) (by have q0 := he; omega) (by omega) (fun c31 => ?_) (fun c31 => ?_)
            · omega
            · refine bs_aload_n dX8_make_34 rfl ?_
              refine bs_getN (v := S.1) dX8_make_35 fX8_21 (H.s 1 rfl rfl rfl) (hS.1) ?_
              refine bs_bipush (v := nI 6) dX8_make_38 (by decide) ?_
              refine bs_icmp_ltN (tgt := 45) dX8_make_40 (by decide) (by have q0 := hk.1; omega) (by omega) (fun c40 => ?_) (fun c40 => ?_)
              · refine bs_aload_n dX8_make_45 rfl ?_
                refine bs_getR (b := (x + 2)) dX8_make_46 fX8_9 (H.s 1 rfl rfl rfl) (H.r 1 0 rfl rfl rfl) ?_
                refine bs_aload_n dX8_make_49 rfl ?_
                refine bs_getN (v := S.1) dX8_make_50 fX8_21 (H.s 1 rfl rfl rfl) (hS.1) ?_
                refine bs_iload_n dX8_make_53 rfl ?_
                refine bs_iastN (n := 6) (j := S.1) dX8_make_54 (H.ss 2 rfl rfl) (by have q0 := hk.1; omega) (by decide) ?_
                refine bs_aload_n dX8_make_55 rfl ?_
                refine bs_getR (b := (x + 3)) dX8_make_56 fX8_15 (H.s 1 rfl rfl rfl) (by simp (disch := omega) only [bs_up_j, bs_up_f, bs_up_eq, bs_iv_i]; exact H.r 1 1 rfl rfl rfl) ?_
                refine bs_aload_n dX8_make_59 rfl ?_
                refine bs_getN (v := S.1) dX8_make_60 fX8_21 (H.s 1 rfl rfl rfl) (by simp (disch := omega) only [bs_up_j, bs_up_f, bs_up_eq, bs_iv_i]; exact hS.1) ?_
                refine bs_iload_n dX8_make_63 rfl ?_
                refine bs_iastN (n := 6) (j := S.1) dX8_make_64 (H.ss 3 rfl rfl) (by have q0 := hk.1; omega) (by decide) ?_
                refine bs_aload_n dX8_make_65 rfl ?_
                refine bs_getR (b := (x + 4)) dX8_make_66 fX8_18 (H.s 1 rfl rfl rfl) (by simp (disch := omega) only [bs_up_j, bs_up_f, bs_up_eq, bs_iv_i]; exact H.r 1 2 rfl rfl rfl) ?_
                refine bs_aload_n dX8_make_69 rfl ?_
                refine bs_getN (v := S.1) dX8_make_70 fX8_21 (H.s 1 rfl rfl rfl) (by simp (disch := omega) only [bs_up_j, bs_up_f, bs_up_eq, bs_iv_i]; exact hS.1) ?_
                refine bs_iload_n dX8_make_73 rfl ?_
                refine bs_iastN (n := 6) (j := S.1) dX8_make_74 (H.ss 4 rfl rfl) (by have q0 := hk.1; omega) (by decide) ?_
                refine bs_aload_n dX8_make_75 rfl ?_
                refine bs_dup dX8_make_76 rfl ?_
                refine bs_getN (v := S.1) dX8_make_77 fX8_21 (H.s 1 rfl rfl rfl) (by simp (disch := omega) only [bs_up_j, bs_up_f, bs_up_eq, bs_iv_i]; exact hS.1) ?_
                refine bs_dup_x1 dX8_make_80 rfl rfl ?_
                refine bs_iconst (v := nI 1) dX8_make_81 (by decide) ?_
                refine bs_iaddN dX8_make_82 ?_
                refine bs_putI dX8_make_83 pX8_21 (H.s 1 rfl rfl rfl) ?_
                exact bs_iret dX8_make_86 rfl (by decide) (by decide) ⟨rfl, rfl, rfl, rfl⟩
              · omega
        · omega
set_option maxHeartbeats 4000000 in
theorem c_sortR {x nx : Nat} {S : bs_So} {sh : bs_Sh} {mu : bs_Mm} (H : bs_St (bs_tS x) x sh mu) (hS : cSo x S mu) (hk : so_ok S) {a b e : Int32} (hr : ¬ so_may S a b e) : bs_C mX11_sort (bs_rm 10 0 0) [.ref x, .int a, .int b, .int e] nx sh mu (bs_no nx sh mu (.int (-1))) := by
  refine bs_ct (by decide +kernel) (Nat.le_of_ble_eq_true rfl) ?_
  refine bs_aload_n dX11_sort_0 rfl ?_
  refine bs_getR (b := (x + 1)) dX11_sort_1 fX11_12 (H.s 0 rfl rfl rfl) (H.r 0 0 rfl rfl rfl) ?_
  refine bs_iload_n dX11_sort_4 rfl ?_
  refine bs_iload_n dX11_sort_5 rfl ?_
  refine bs_iload_n dX11_sort_6 rfl ?_
  refine bs_callVn dX11_sort_7 qX11_93 (s_makeR H hS hk hr) rfl (H.s 1 rfl rfl rfl) rfl (Nat.le_of_ble_eq_true rfl) ⟨⟨by decide, by decide⟩, by decide, by decide⟩ ?_
  exact bs_iret dX11_sort_10 rfl (by decide) (by decide) ⟨rfl, rfl, rfl, rfl⟩
set_option maxHeartbeats 4000000 in
theorem n_sortR {m nx : Nat} {S : bs_So} {sh : bs_Sh} {mu : bs_Mm} (H : bs_St (bs_tM m) m sh mu) (hS : mSo m S mu) (hk : so_ok S) {a b e : Int32} (hr : ¬ so_may S a b e) : bs_C mX12_sort (bs_rm 10 0 0) [.ref m, .int a, .int b, .int e] nx sh mu (bs_no nx sh mu (.int (-1))) := by
  have q1 := hk.1
  refine bs_ct (by decide +kernel) (Nat.le_of_ble_eq_true rfl) ?_
  refine bs_iload_n dX12_sort_0 rfl ?_
  refine bs_iconst (v := nI 5) dX12_sort_1 (by decide) ?_
  refine bs_sipush (v := nI 200) dX12_sort_2 (by decide) ?_
  refine bs_callSn dX12_sort_5 qX12_121 (m_in _ _ _) rfl rfl (Nat.le_of_ble_eq_true rfl) ⟨⟨by decide, by decide⟩, by decide, by decide⟩ ?_
  refine bs_if_eq (tgt := 40) dX12_sort_8 (by decide) (fun c8 => ?_) (fun c8 => ?_)
  · refine bs_iconst (v := (-1)) dX12_sort_40 (by decide) ?_
    exact bs_iret dX12_sort_41 rfl (by decide) (by decide) ⟨rfl, rfl, rfl, rfl⟩
  · refine bs_iload_n dX12_sort_11 rfl ?_
    refine bs_iconst (v := nI 0) dX12_sort_12 (by decide) ?_
    refine bs_bipush (v := nI 9) dX12_sort_13 (by decide) ?_
    refine bs_callSn dX12_sort_15 qX12_121 (m_in _ _ _) rfl rfl (Nat.le_of_ble_eq_true rfl) ⟨⟨by decide, by decide⟩, by decide, by decide⟩ ?_
    refine bs_if_eq (tgt := 40) dX12_sort_18 (by decide) (fun c18 => ?_) (fun c18 => ?_)
    · refine bs_iconst (v := (-1)) dX12_sort_40 (by decide) ?_
      exact bs_iret dX12_sort_41 rfl (by decide) (by decide) ⟨rfl, rfl, rfl, rfl⟩
    · refine bs_iload_n dX12_sort_21 rfl ?_
      refine bs_iconst (v := nI 0) dX12_sort_22 (by decide) ?_
      refine bs_bipush (v := nI 99) dX12_sort_23 (by decide) ?_
      refine bs_callSn dX12_sort_25 qX12_121 (m_in _ _ _) rfl rfl (Nat.le_of_ble_eq_true rfl) ⟨⟨by decide, by decide⟩, by decide, by decide⟩ ?_
      refine bs_if_eq (tgt := 40) dX12_sort_28 (by decide) (fun c28 => ?_) (fun c28 => ?_)
      · refine bs_iconst (v := (-1)) dX12_sort_40 (by decide) ?_
        exact bs_iret dX12_sort_41 rfl (by decide) (by decide) ⟨rfl, rfl, rfl, rfl⟩
      · refine bs_aload_n dX12_sort_31 rfl ?_
        refine bs_getN (v := S.1) dX12_sort_32 fX12_125 (H.s 0 rfl rfl rfl) (hS.1) ?_
        refine bs_bipush (v := nI 6) dX12_sort_35 (by decide) ?_
        refine bs_icmp_neN (tgt := 42) dX12_sort_37 (by decide) (by have q0 := hk.1; omega) (by omega) (fun c37 => ?_) (fun c37 => ?_)
        · exact absurd ⟨(bs_in_z _ _ _).resolve_left c8, (bs_in_z _ _ _).resolve_left c18, (bs_in_z _ _ _).resolve_left c28, by have := hk.1; omega⟩ hr
        · refine bs_iconst (v := (-1)) dX12_sort_40 (by decide) ?_
          exact bs_iret dX12_sort_41 rfl (by decide) (by decide) ⟨rfl, rfl, rfl, rfl⟩
set_option maxHeartbeats 4000000 in
theorem c_sortA {x nx : Nat} {S : bs_So} {sh : bs_Sh} {mu : bs_Mm} (H : bs_St (bs_tS x) x sh mu) (hS : cSo x S mu) (hk : so_ok S) {a b e : Nat} (ha : 5 ≤ a ∧ a ≤ 200) (hb : b ≤ 9) (he : e ≤ 99) (h6 : S.1 < 6) : bs_C mX11_sort (bs_rm 10 0 0) [.ref x, .int (nI a), .int (nI b), .int (nI e)] nx sh mu (bs_ex nx sh (.int (nI S.1)) (so_mu (x + 2) (x + 3) (x + 4) (x + 1) 3 S.1 (nI a) (nI b) (nI e) mu)) := by
  refine bs_ct (by decide +kernel) (Nat.le_of_ble_eq_true rfl) ?_
  refine bs_aload_n dX11_sort_0 rfl ?_
  refine bs_getR (b := (x + 1)) dX11_sort_1 fX11_12 (H.s 0 rfl rfl rfl) (H.r 0 0 rfl rfl rfl) ?_
  refine bs_iload_n dX11_sort_4 rfl ?_
  refine bs_iload_n dX11_sort_5 rfl ?_
  refine bs_iload_n dX11_sort_6 rfl ?_
  refine bs_callVe dX11_sort_7 qX11_93 (s_makeA H hS hk ha hb he h6) rfl (H.s 1 rfl rfl rfl) rfl (Nat.le_of_ble_eq_true rfl) ⟨⟨by decide, by decide⟩, by decide, by decide⟩ ?_
  exact bs_iret dX11_sort_10 rfl (by decide) (by decide) ⟨rfl, rfl, rfl, rfl⟩
set_option maxHeartbeats 4000000 in
theorem n_sortA {m nx : Nat} {S : bs_So} {sh : bs_Sh} {mu : bs_Mm} (H : bs_St (bs_tM m) m sh mu) (hS : mSo m S mu) (hk : so_ok S) {a b e : Nat} (ha : 5 ≤ a ∧ a ≤ 200) (hb : b ≤ 9) (he : e ≤ 99) (h6 : S.1 < 6) : bs_C mX12_sort (bs_rm 10 0 0) [.ref m, .int (nI a), .int (nI b), .int (nI e)] nx sh mu (bs_ex nx sh (.int (nI S.1)) (so_mu (m + 1) (m + 2) (m + 3) m 5 S.1 (nI a) (nI b) (nI e) mu)) := by
  have q1 := hk.1
  refine bs_ct (by decide +kernel) (Nat.le_of_ble_eq_true rfl) ?_
  refine bs_iload_n dX12_sort_0 rfl ?_
  refine bs_iconst (v := nI 5) dX12_sort_1 (by decide) ?_
  refine bs_sipush (v := nI 200) dX12_sort_2 (by decide) ?_
  refine bs_callSn dX12_sort_5 qX12_121 (n_in1 (by omega) (by omega) (by decide)) rfl rfl (Nat.le_of_ble_eq_true rfl) ⟨⟨by decide, by decide⟩, by decide, by decide⟩ ?_
  refine bs_if_eqN (tgt := 40) dX12_sort_8 (by decide) (by omega) (fun c8 => ?_) (fun c8 => ?_)
  · omega
  · refine bs_iload_n dX12_sort_11 rfl ?_
    refine bs_iconst (v := nI 0) dX12_sort_12 (by decide) ?_
    refine bs_bipush (v := nI 9) dX12_sort_13 (by decide) ?_
    refine bs_callSn dX12_sort_15 qX12_121 (n_in1 (by omega) (by omega) (by decide)) rfl rfl (Nat.le_of_ble_eq_true rfl) ⟨⟨by decide, by decide⟩, by decide, by decide⟩ ?_
    refine bs_if_eqN (tgt := 40) dX12_sort_18 (by decide) (by omega) (fun c18 => ?_) (fun c18 => ?_)
    · omega
    · refine bs_iload_n dX12_sort_21 rfl ?_
      refine bs_iconst (v := nI 0) dX12_sort_22 (by decide) ?_
      refine bs_bipush (v := nI 99) dX12_sort_23 (by decide) ?_
      refine bs_callSn dX12_sort_25 qX12_121 (n_in1 (by omega) (by omega) (by decide)) rfl rfl (Nat.le_of_ble_eq_true rfl) ⟨⟨by decide, by decide⟩, by decide, by decide⟩ ?_
      refine bs_if_eqN (tgt := 40) dX12_sort_28 (by decide) (by omega) (fun c28 => ?_) (fun c28 => ?_)
      · omega
      · refine bs_aload_n dX12_sort_31 rfl ?_
        refine bs_getN (v := S.1) dX12_sort_32 fX12_125 (H.s 0 rfl rfl rfl) (hS.1) ?_
        refine bs_bipush (v := nI 6) dX12_sort_35 (by decide) ?_
        refine bs_icmp_neN (tgt := 42) dX12_sort_37 (by decide) (by have q0 := hk.1; omega) (by omega) (fun c37 => ?_) (fun c37 => ?_)
        · refine bs_aload_n dX12_sort_42 rfl ?_
          refine bs_getR (b := (m + 1)) dX12_sort_43 fX12_9 (H.s 0 rfl rfl rfl) (H.r 0 1 rfl rfl rfl) ?_
          refine bs_aload_n dX12_sort_46 rfl ?_
          refine bs_getN (v := S.1) dX12_sort_47 fX12_125 (H.s 0 rfl rfl rfl) (hS.1) ?_
          refine bs_iload_n dX12_sort_50 rfl ?_
          refine bs_iastN (n := 6) (j := S.1) dX12_sort_51 (H.ss 1 rfl rfl) (by have q0 := hk.1; omega) (by decide) ?_
          refine bs_aload_n dX12_sort_52 rfl ?_
          refine bs_getR (b := (m + 2)) dX12_sort_53 fX12_13 (H.s 0 rfl rfl rfl) (by simp (disch := omega) only [bs_up_j, bs_up_f, bs_up_eq, bs_iv_i]; exact H.r 0 2 rfl rfl rfl) ?_
          refine bs_aload_n dX12_sort_56 rfl ?_
          refine bs_getN (v := S.1) dX12_sort_57 fX12_125 (H.s 0 rfl rfl rfl) (by simp (disch := omega) only [bs_up_j, bs_up_f, bs_up_eq, bs_iv_i]; exact hS.1) ?_
          refine bs_iload_n dX12_sort_60 rfl ?_
          refine bs_iastN (n := 6) (j := S.1) dX12_sort_61 (H.ss 2 rfl rfl) (by have q0 := hk.1; omega) (by decide) ?_
          refine bs_aload_n dX12_sort_62 rfl ?_
          refine bs_getR (b := (m + 3)) dX12_sort_63 fX12_16 (H.s 0 rfl rfl rfl) (by simp (disch := omega) only [bs_up_j, bs_up_f, bs_up_eq, bs_iv_i]; exact H.r 0 3 rfl rfl rfl) ?_
          refine bs_aload_n dX12_sort_66 rfl ?_
          refine bs_getN (v := S.1) dX12_sort_67 fX12_125 (H.s 0 rfl rfl rfl) (by simp (disch := omega) only [bs_up_j, bs_up_f, bs_up_eq, bs_iv_i]; exact hS.1) ?_
          refine bs_iload_n dX12_sort_70 rfl ?_
          refine bs_iastN (n := 6) (j := S.1) dX12_sort_71 (H.ss 3 rfl rfl) (by have q0 := hk.1; omega) (by decide) ?_
          refine bs_aload_n dX12_sort_72 rfl ?_
          refine bs_dup dX12_sort_73 rfl ?_
          refine bs_getN (v := S.1) dX12_sort_74 fX12_125 (H.s 0 rfl rfl rfl) (by simp (disch := omega) only [bs_up_j, bs_up_f, bs_up_eq, bs_iv_i]; exact hS.1) ?_
          refine bs_iconst (v := nI 1) dX12_sort_77 (by decide) ?_
          refine bs_iaddN dX12_sort_78 ?_
          refine bs_putI dX12_sort_79 pX12_125 (H.s 0 rfl rfl rfl) ?_
          refine bs_aload_n dX12_sort_82 rfl ?_
          refine bs_getN (v := (S.1 + 1)) dX12_sort_83 fX12_125 (H.s 0 rfl rfl rfl) (by simp (disch := omega) only [bs_up_j, bs_up_f, bs_up_eq, bs_iv_i]) ?_
          refine bs_iconst (v := nI 1) dX12_sort_86 (by decide) ?_
          refine bs_isubN dX12_sort_87 (by have q0 := hk.1; omega) ?_
          exact bs_iret dX12_sort_88 rfl (by decide) (by decide) ⟨rfl, rfl, rfl, rfl⟩
        · omega
