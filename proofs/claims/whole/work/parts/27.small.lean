/-! end, pace, close, stock (own), for every state, both sides -/
def en_may (L : Nat) (a : Int32) : Prop := ¬ a < 0 ∧ a ≤ nI L
def pa_may (a b : Int32) : Prop := bs_in a 1 9 = 1 ∧ bs_in b 0 9 = 1
set_option maxHeartbeats 4000000 in
theorem c_endR {x nx : Nat} {sh : bs_Sh} {mu : bs_Mm} (H : bs_St (bs_tS x) x sh mu) {L : Nat} (hL : bs_iv (mu (x + 5) 1) = nI L) (h2 : L ≤ 200) {a : Int32} (hr : ¬ en_may L a) : bs_C mX11_end (bs_rm 10 0 0) [.ref x, .int a] nx sh mu (bs_no nx sh mu (.int (nI 0))) := by
  refine bs_ct (by decide +kernel) (Nat.le_of_ble_eq_true rfl) ?_
  refine bs_iload_n dX11_end_0 rfl ?_
  refine bs_if_lt (tgt := 15) dX11_end_1 (by decide) (fun c1 => ?_) (fun c1 => ?_)
  · refine bs_iconst (v := nI 0) dX11_end_15 (by decide) ?_
    exact bs_zret dX11_end_16 rfl (by decide) (by decide) (by decide) ⟨rfl, rfl, rfl, rfl⟩
  · refine bs_iload_n dX11_end_4 rfl ?_
    refine bs_aload_n dX11_end_5 rfl ?_
    refine bs_getR (b := (x + 5)) dX11_end_6 fX11_19 (H.s 0 rfl rfl rfl) (H.r 0 1 rfl rfl rfl) ?_
    refine bs_getN (v := L) dX11_end_9 fX11_101 (H.s 5 rfl rfl rfl) (hL) ?_
    refine bs_icmp_le (tgt := 17) dX11_end_12 (by decide) (fun c12 => ?_) (fun c12 => ?_)
    · exact absurd ⟨c1, c12⟩ hr
    · refine bs_iconst (v := nI 0) dX11_end_15 (by decide) ?_
      exact bs_zret dX11_end_16 rfl (by decide) (by decide) (by decide) ⟨rfl, rfl, rfl, rfl⟩
set_option maxHeartbeats 4000000 in
theorem c_endA {x nx : Nat} {sh : bs_Sh} {mu : bs_Mm} (H : bs_St (bs_tS x) x sh mu) {L : Nat} (hL : bs_iv (mu (x + 5) 1) = nI L) (h2 : L ≤ 200) {k : Nat} (hk : k ≤ L) : bs_C mX11_end (bs_rm 10 0 0) [.ref x, .int (nI k)] nx sh mu (bs_ex nx sh (.int (nI 1)) (bs_up mu (x + 5) 1 (.int (nI k)))) := by
  refine bs_ct (by decide +kernel) (Nat.le_of_ble_eq_true rfl) ?_
  refine bs_iload_n dX11_end_0 rfl ?_
  refine bs_if_ltN (tgt := 15) dX11_end_1 (by decide) (by have q0 := hk; have q1 := h2; omega) (fun c1 => ?_) (fun c1 => ?_)
  · omega
  · refine bs_iload_n dX11_end_4 rfl ?_
    refine bs_aload_n dX11_end_5 rfl ?_
    refine bs_getR (b := (x + 5)) dX11_end_6 fX11_19 (H.s 0 rfl rfl rfl) (H.r 0 1 rfl rfl rfl) ?_
    refine bs_getN (v := L) dX11_end_9 fX11_101 (H.s 5 rfl rfl rfl) (hL) ?_
    refine bs_icmp_leN (tgt := 17) dX11_end_12 (by decide) (by have q0 := hk; have q1 := h2; omega) (by have q0 := h2; omega) (fun c12 => ?_) (fun c12 => ?_)
    · refine bs_aload_n dX11_end_17 rfl ?_
      refine bs_getR (b := (x + 5)) dX11_end_18 fX11_19 (H.s 0 rfl rfl rfl) (H.r 0 1 rfl rfl rfl) ?_
      refine bs_iload_n dX11_end_21 rfl ?_
      refine bs_putI dX11_end_22 pX11_101 (H.s 5 rfl rfl rfl) ?_
      refine bs_iconst (v := nI 1) dX11_end_25 (by decide) ?_
      exact bs_zret dX11_end_26 rfl (by decide) (by decide) (by decide) ⟨rfl, rfl, rfl, rfl⟩
    · omega
set_option maxHeartbeats 4000000 in
theorem n_endR {m nx : Nat} {sh : bs_Sh} {mu : bs_Mm} (H : bs_St (bs_tM m) m sh mu) {L : Nat} (hL : bs_iv (mu m 7) = nI L) (h2 : L ≤ 200) {a : Int32} (hr : ¬ en_may L a) : bs_C mX12_end (bs_rm 10 0 0) [.ref m, .int a] nx sh mu (bs_no nx sh mu (.int (nI 0))) := by
  refine bs_ct (by decide +kernel) (Nat.le_of_ble_eq_true rfl) ?_
  refine bs_iload_n dX12_end_0 rfl ?_
  refine bs_if_lt (tgt := 12) dX12_end_1 (by decide) (fun c1 => ?_) (fun c1 => ?_)
  · refine bs_iconst (v := nI 0) dX12_end_12 (by decide) ?_
    exact bs_zret dX12_end_13 rfl (by decide) (by decide) (by decide) ⟨rfl, rfl, rfl, rfl⟩
  · refine bs_iload_n dX12_end_4 rfl ?_
    refine bs_aload_n dX12_end_5 rfl ?_
    refine bs_getN (v := L) dX12_end_6 fX12_132 (H.s 0 rfl rfl rfl) (hL) ?_
    refine bs_icmp_le (tgt := 14) dX12_end_9 (by decide) (fun c9 => ?_) (fun c9 => ?_)
    · exact absurd ⟨c1, c9⟩ hr
    · refine bs_iconst (v := nI 0) dX12_end_12 (by decide) ?_
      exact bs_zret dX12_end_13 rfl (by decide) (by decide) (by decide) ⟨rfl, rfl, rfl, rfl⟩
set_option maxHeartbeats 4000000 in
theorem n_endA {m nx : Nat} {sh : bs_Sh} {mu : bs_Mm} (H : bs_St (bs_tM m) m sh mu) {L : Nat} (hL : bs_iv (mu m 7) = nI L) (h2 : L ≤ 200) {k : Nat} (hk : k ≤ L) : bs_C mX12_end (bs_rm 10 0 0) [.ref m, .int (nI k)] nx sh mu (bs_ex nx sh (.int (nI 1)) (bs_up mu m 7 (.int (nI k)))) := by
  refine bs_ct (by decide +kernel) (Nat.le_of_ble_eq_true rfl) ?_
  refine bs_iload_n dX12_end_0 rfl ?_
  refine bs_if_ltN (tgt := 12) dX12_end_1 (by decide) (by have q0 := hk; have q1 := h2; omega) (fun c1 => ?_) (fun c1 => ?_)
  · omega
  · refine bs_iload_n dX12_end_4 rfl ?_
    refine bs_aload_n dX12_end_5 rfl ?_
    refine bs_getN (v := L) dX12_end_6 fX12_132 (H.s 0 rfl rfl rfl) (hL) ?_
    refine bs_icmp_leN (tgt := 14) dX12_end_9 (by decide) (by have q0 := hk; have q1 := h2; omega) (by have q0 := h2; omega) (fun c9 => ?_) (fun c9 => ?_)
    · refine bs_aload_n dX12_end_14 rfl ?_
      refine bs_iload_n dX12_end_15 rfl ?_
      refine bs_putI dX12_end_16 pX12_132 (H.s 0 rfl rfl rfl) ?_
      refine bs_iconst (v := nI 1) dX12_end_19 (by decide) ?_
      exact bs_zret dX12_end_20 rfl (by decide) (by decide) (by decide) ⟨rfl, rfl, rfl, rfl⟩
    · omega
set_option maxHeartbeats 4000000 in
theorem c_paceR {x nx : Nat} {sh : bs_Sh} {mu : bs_Mm} (H : bs_St (bs_tS x) x sh mu) {a b : Int32} (hr : ¬ pa_may a b) : bs_C mX11_pace (bs_rm 10 0 0) [.ref x, .int a, .int b] nx sh mu (bs_no nx sh mu (.int (nI 0))) := by
  refine bs_ct (by decide +kernel) (Nat.le_of_ble_eq_true rfl) ?_
  refine bs_iload_n dX11_pace_0 rfl ?_
  refine bs_iconst (v := nI 1) dX11_pace_1 (by decide) ?_
  refine bs_icmp_lt (tgt := 21) dX11_pace_2 (by decide) (fun c2 => ?_) (fun c2 => ?_)
  · refine bs_iconst (v := nI 0) dX11_pace_21 (by decide) ?_
    exact bs_zret dX11_pace_22 rfl (by decide) (by decide) (by decide) ⟨rfl, rfl, rfl, rfl⟩
  · refine bs_iload_n dX11_pace_5 rfl ?_
    refine bs_bipush (v := nI 9) dX11_pace_6 (by decide) ?_
    refine bs_icmp_gt (tgt := 21) dX11_pace_8 (by decide) (fun c8 => ?_) (fun c8 => ?_)
    · refine bs_iconst (v := nI 0) dX11_pace_21 (by decide) ?_
      exact bs_zret dX11_pace_22 rfl (by decide) (by decide) (by decide) ⟨rfl, rfl, rfl, rfl⟩
    · refine bs_iload_n dX11_pace_11 rfl ?_
      refine bs_if_lt (tgt := 21) dX11_pace_12 (by decide) (fun c12 => ?_) (fun c12 => ?_)
      · refine bs_iconst (v := nI 0) dX11_pace_21 (by decide) ?_
        exact bs_zret dX11_pace_22 rfl (by decide) (by decide) (by decide) ⟨rfl, rfl, rfl, rfl⟩
      · refine bs_iload_n dX11_pace_15 rfl ?_
        refine bs_bipush (v := nI 9) dX11_pace_16 (by decide) ?_
        refine bs_icmp_le (tgt := 23) dX11_pace_18 (by decide) (fun c18 => ?_) (fun c18 => ?_)
        · exact absurd ⟨bs_in_1 c2 c8, bs_in_1 c12 (fun h => absurd (Int32.le_iff_toInt_le.mp c18) (Int.not_le.mpr (Int32.lt_iff_toInt_lt.mp h)))⟩ hr
        · refine bs_iconst (v := nI 0) dX11_pace_21 (by decide) ?_
          exact bs_zret dX11_pace_22 rfl (by decide) (by decide) (by decide) ⟨rfl, rfl, rfl, rfl⟩
set_option maxHeartbeats 4000000 in
theorem c_paceA {x nx : Nat} {sh : bs_Sh} {mu : bs_Mm} (H : bs_St (bs_tS x) x sh mu) {a b : Nat} (ha : 1 ≤ a ∧ a ≤ 9) (hb : b ≤ 9) : bs_C mX11_pace (bs_rm 10 0 0) [.ref x, .int (nI a), .int (nI b)] nx sh mu (bs_ex nx sh (.int (nI 1)) (bs_up (bs_up mu (x + 50) 1 (.int (nI a))) (x + 50) 2 (.int (nI b)))) := by
  refine bs_ct (by decide +kernel) (Nat.le_of_ble_eq_true rfl) ?_
  refine bs_iload_n dX11_pace_0 rfl ?_
  refine bs_iconst (v := nI 1) dX11_pace_1 (by decide) ?_
  refine bs_icmp_ltN (tgt := 21) dX11_pace_2 (by decide) (by have q0 := ha; omega) (by omega) (fun c2 => ?_) (fun c2 => ?_)
  · omega
  · refine bs_iload_n dX11_pace_5 rfl ?_
    refine bs_bipush (v := nI 9) dX11_pace_6 (by decide) ?_
    refine bs_icmp_gtN (tgt := 21) dX11_pace_8 (by decide) (by have q0 := ha; omega) (by omega) (fun c8 => ?_) (fun c8 => ?_)
    · omega
    · refine bs_iload_n dX11_pace_11 rfl ?_
      refine bs_if_ltN (tgt := 21) dX11_pace_12 (by decide) (by have q0 := hb; omega) (fun c12 => ?_) (fun c12 => ?_)
      · omega
      · refine bs_iload_n dX11_pace_15 rfl ?_
        refine bs_bipush (v := nI 9) dX11_pace_16 (by decide) ?_
        refine bs_icmp_leN (tgt := 23) dX11_pace_18 (by decide) (by have q0 := hb; omega) (by omega) (fun c18 => ?_) (fun c18 => ?_)
        · refine bs_aload_n dX11_pace_23 rfl ?_
          refine bs_getR (b := (x + 50)) dX11_pace_24 fX11_80 (H.s 0 rfl rfl rfl) (H.r 0 10 rfl rfl rfl) ?_
          refine bs_iload_n dX11_pace_27 rfl ?_
          refine bs_putI dX11_pace_28 pX11_296 (H.s 50 rfl rfl rfl) ?_
          refine bs_aload_n dX11_pace_31 rfl ?_
          refine bs_getR (b := (x + 50)) dX11_pace_32 fX11_80 (H.s 0 rfl rfl rfl) (by simp (disch := omega) only [bs_up_j, bs_up_f, bs_up_eq, bs_iv_i]; exact H.r 0 10 rfl rfl rfl) ?_
          refine bs_iload_n dX11_pace_35 rfl ?_
          refine bs_putI dX11_pace_36 pX11_299 (H.s 50 rfl rfl rfl) ?_
          refine bs_iconst (v := nI 1) dX11_pace_39 (by decide) ?_
          exact bs_zret dX11_pace_40 rfl (by decide) (by decide) (by decide) ⟨rfl, rfl, rfl, rfl⟩
        · omega
set_option maxHeartbeats 4000000 in
theorem n_paceR {m nx : Nat} {sh : bs_Sh} {mu : bs_Mm} (H : bs_St (bs_tM m) m sh mu) {a b : Int32} (hr : ¬ pa_may a b) : bs_C mX12_pace (bs_rm 10 0 0) [.ref m, .int a, .int b] nx sh mu (bs_no nx sh mu (.int (nI 0))) := by
  refine bs_ct (by decide +kernel) (Nat.le_of_ble_eq_true rfl) ?_
  refine bs_iload_n dX12_pace_0 rfl ?_
  refine bs_iconst (v := nI 1) dX12_pace_1 (by decide) ?_
  refine bs_bipush (v := nI 9) dX12_pace_2 (by decide) ?_
  refine bs_callSn dX12_pace_4 qX12_121 (m_in _ _ _) rfl rfl (Nat.le_of_ble_eq_true rfl) ⟨⟨by decide, by decide⟩, by decide, by decide⟩ ?_
  refine bs_if_eq (tgt := 20) dX12_pace_7 (by decide) (fun c7 => ?_) (fun c7 => ?_)
  · refine bs_iconst (v := nI 0) dX12_pace_20 (by decide) ?_
    exact bs_zret dX12_pace_21 rfl (by decide) (by decide) (by decide) ⟨rfl, rfl, rfl, rfl⟩
  · refine bs_iload_n dX12_pace_10 rfl ?_
    refine bs_iconst (v := nI 0) dX12_pace_11 (by decide) ?_
    refine bs_bipush (v := nI 9) dX12_pace_12 (by decide) ?_
    refine bs_callSn dX12_pace_14 qX12_121 (m_in _ _ _) rfl rfl (Nat.le_of_ble_eq_true rfl) ⟨⟨by decide, by decide⟩, by decide, by decide⟩ ?_
    refine bs_if_ne (tgt := 22) dX12_pace_17 (by decide) (fun c17 => ?_) (fun c17 => ?_)
    · exact absurd ⟨(bs_in_z _ _ _).resolve_left c7, (bs_in_z _ _ _).resolve_left c17⟩ hr
    · refine bs_iconst (v := nI 0) dX12_pace_20 (by decide) ?_
      exact bs_zret dX12_pace_21 rfl (by decide) (by decide) (by decide) ⟨rfl, rfl, rfl, rfl⟩
set_option maxHeartbeats 4000000 in
theorem n_paceA {m nx : Nat} {sh : bs_Sh} {mu : bs_Mm} (H : bs_St (bs_tM m) m sh mu) {a b : Nat} (ha : 1 ≤ a ∧ a ≤ 9) (hb : b ≤ 9) : bs_C mX12_pace (bs_rm 10 0 0) [.ref m, .int (nI a), .int (nI b)] nx sh mu (bs_ex nx sh (.int (nI 1)) (bs_up (bs_up mu m 47 (.int (nI a))) m 48 (.int (nI b)))) := by
  refine bs_ct (by decide +kernel) (Nat.le_of_ble_eq_true rfl) ?_
  refine bs_iload_n dX12_pace_0 rfl ?_
  refine bs_iconst (v := nI 1) dX12_pace_1 (by decide) ?_
  refine bs_bipush (v := nI 9) dX12_pace_2 (by decide) ?_
  refine bs_callSn dX12_pace_4 qX12_121 (n_in1 (by omega) (by omega) (by decide)) rfl rfl (Nat.le_of_ble_eq_true rfl) ⟨⟨by decide, by decide⟩, by decide, by decide⟩ ?_
  refine bs_if_eqN (tgt := 20) dX12_pace_7 (by decide) (by omega) (fun c7 => ?_) (fun c7 => ?_)
  · omega
  · refine bs_iload_n dX12_pace_10 rfl ?_
    refine bs_iconst (v := nI 0) dX12_pace_11 (by decide) ?_
    refine bs_bipush (v := nI 9) dX12_pace_12 (by decide) ?_
    refine bs_callSn dX12_pace_14 qX12_121 (n_in1 (by omega) (by omega) (by decide)) rfl rfl (Nat.le_of_ble_eq_true rfl) ⟨⟨by decide, by decide⟩, by decide, by decide⟩ ?_
    refine bs_if_neN (tgt := 22) dX12_pace_17 (by decide) (by omega) (fun c17 => ?_) (fun c17 => ?_)
    · refine bs_aload_n dX12_pace_22 rfl ?_
      refine bs_iload_n dX12_pace_23 rfl ?_
      refine bs_putI dX12_pace_24 pX12_108 (H.s 0 rfl rfl rfl) ?_
      refine bs_aload_n dX12_pace_27 rfl ?_
      refine bs_iload_n dX12_pace_28 rfl ?_
      refine bs_putI dX12_pace_29 pX12_390 (H.s 0 rfl rfl rfl) ?_
      refine bs_iconst (v := nI 1) dX12_pace_32 (by decide) ?_
      exact bs_zret dX12_pace_33 rfl (by decide) (by decide) (by decide) ⟨rfl, rfl, rfl, rfl⟩
    · omega
set_option maxHeartbeats 4000000 in
theorem s_clear {x nx : Nat} {sh : bs_Sh} {mu : bs_Mm} (H : bs_St (bs_tS x) x sh mu) {q : Nat} (hq : bs_iv (mu (x + 50) 3) = nI q) (h2 : q ≤ 30) : bs_C mX9_clear (bs_rm 0 0 0) [.ref (x + 50)] nx sh mu (bs_ex nx sh (.int (nI q)) (bs_up (bs_up mu (x + 50) 3 (.int (nI 0))) (x + 50) 4 (.int (nI 0)))) := by
  refine bs_ct (by decide +kernel) (Nat.le_of_ble_eq_true rfl) ?_
  refine bs_aload_n dX9_clear_0 rfl ?_
  refine bs_getN (v := q) dX9_clear_1 fX9_46 (H.s 50 rfl rfl rfl) (hq) ?_
  refine bs_istore_n dX9_clear_4 rfl (by decide) ?_
  refine bs_aload_n dX9_clear_5 rfl ?_
  refine bs_iconst (v := nI 0) dX9_clear_6 (by decide) ?_
  refine bs_putI dX9_clear_7 pX9_46 (H.s 50 rfl rfl rfl) ?_
  refine bs_aload_n dX9_clear_10 rfl ?_
  refine bs_iconst (v := nI 0) dX9_clear_11 (by decide) ?_
  refine bs_putI dX9_clear_12 pX9_49 (H.s 50 rfl rfl rfl) ?_
  refine bs_iload_n dX9_clear_15 rfl ?_
  exact bs_iret dX9_clear_16 rfl (by decide) (by decide) ⟨rfl, rfl, rfl, rfl⟩
set_option maxHeartbeats 4000000 in
theorem c_close {x nx : Nat} {sh : bs_Sh} {mu : bs_Mm} (H : bs_St (bs_tS x) x sh mu) {q : Nat} (hq : bs_iv (mu (x + 50) 3) = nI q) (h2 : q ≤ 30) : bs_C mX11_close (bs_rm 10 0 0) [.ref x] nx sh mu (bs_ex nx sh (.int (nI q)) (bs_up (bs_up mu (x + 50) 3 (.int (nI 0))) (x + 50) 4 (.int (nI 0)))) := by
  refine bs_ct (by decide +kernel) (Nat.le_of_ble_eq_true rfl) ?_
  refine bs_aload_n dX11_close_0 rfl ?_
  refine bs_getR (b := (x + 50)) dX11_close_1 fX11_80 (H.s 0 rfl rfl rfl) (H.r 0 10 rfl rfl rfl) ?_
  refine bs_callVe dX11_close_4 qX11_305 (s_clear H hq h2) rfl (H.s 50 rfl rfl rfl) rfl (Nat.le_of_ble_eq_true rfl) ⟨⟨by decide, by decide⟩, by decide, by decide⟩ ?_
  exact bs_iret dX11_close_7 rfl (by decide) (by decide) ⟨rfl, rfl, rfl, rfl⟩
set_option maxHeartbeats 4000000 in
theorem n_close {m nx : Nat} {sh : bs_Sh} {mu : bs_Mm} (H : bs_St (bs_tM m) m sh mu) {q : Nat} (hq : bs_iv (mu m 45) = nI q) (h2 : q ≤ 30) : bs_C mX12_close (bs_rm 10 0 0) [.ref m] nx sh mu (bs_ex nx sh (.int (nI q)) (bs_up (bs_up mu m 45 (.int (nI 0))) m 46 (.int (nI 0)))) := by
  refine bs_ct (by decide +kernel) (Nat.le_of_ble_eq_true rfl) ?_
  refine bs_aload_n dX12_close_0 rfl ?_
  refine bs_getN (v := q) dX12_close_1 fX12_393 (H.s 0 rfl rfl rfl) (hq) ?_
  refine bs_istore_n dX12_close_4 rfl (by decide) ?_
  refine bs_aload_n dX12_close_5 rfl ?_
  refine bs_iconst (v := nI 0) dX12_close_6 (by decide) ?_
  refine bs_putI dX12_close_7 pX12_393 (H.s 0 rfl rfl rfl) ?_
  refine bs_aload_n dX12_close_10 rfl ?_
  refine bs_iconst (v := nI 0) dX12_close_11 (by decide) ?_
  refine bs_putI dX12_close_12 pX12_396 (H.s 0 rfl rfl rfl) ?_
  refine bs_iload_n dX12_close_15 rfl ?_
  exact bs_iret dX12_close_16 rfl (by decide) (by decide) ⟨rfl, rfl, rfl, rfl⟩
