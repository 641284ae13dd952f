/-! stock (own), for every state, both sides -/
set_option maxHeartbeats 4000000 in
theorem s_hasR {x nx : Nat} {S : bs_So} {sh : bs_Sh} {mu : bs_Mm} (H : bs_St (bs_tS x) x sh mu) (hS : cSo x S mu) (hk : so_ok S) {a : Int32} (ha : a < 0 ∨ nI S.1 ≤ a) : bs_C mX8_has (bs_rm 0 0 0) [.ref (x + 1), .int a] nx sh mu (bs_no nx sh mu (.int (nI 0))) := by
  have q1 := hk.1
  refine bs_ct (by decide +kernel) (Nat.le_of_ble_eq_true rfl) ?_
  refine bs_iload_n dX8_has_0 rfl ?_
  refine bs_if_lt (tgt := 16) dX8_has_1 (by decide) (fun c1 => ?_) (fun c1 => ?_)
  · refine bs_iconst (v := nI 0) dX8_has_16 (by decide) ?_
    exact bs_zret dX8_has_17 rfl (by decide) (by decide) (by decide) ⟨rfl, rfl, rfl, rfl⟩
  · refine bs_iload_n dX8_has_4 rfl ?_
    refine bs_aload_n dX8_has_5 rfl ?_
    refine bs_getN (v := S.1) dX8_has_6 fX8_21 (H.s 1 rfl rfl rfl) (hS.1) ?_
    refine bs_icmp_ge (tgt := 16) dX8_has_9 (by decide) (fun c9 => ?_) (fun c9 => ?_)
    · refine bs_iconst (v := nI 0) dX8_has_16 (by decide) ?_
      exact bs_zret dX8_has_17 rfl (by decide) (by decide) (by decide) ⟨rfl, rfl, rfl, rfl⟩
    · refine bs_iconst (v := nI 1) dX8_has_12 (by decide) ?_
      refine bs_goto (tgt := 17) dX8_has_13 (by decide) ?_
      exact bs_zret dX8_has_17 rfl (by decide) (by decide) (by decide) (absurd ha (fun z => z.elim c1 c9))
set_option maxHeartbeats 4000000 in
theorem s_hasA {x nx : Nat} {S : bs_So} {sh : bs_Sh} {mu : bs_Mm} (H : bs_St (bs_tS x) x sh mu) (hS : cSo x S mu) (hk : so_ok S) {k : Nat} (hy : k < S.1) : bs_C mX8_has (bs_rm 0 0 0) [.ref (x + 1), .int (nI k)] nx sh mu (bs_no nx sh mu (.int (nI 1))) := by
  have q1 := hk.1
  refine bs_ct (by decide +kernel) (Nat.le_of_ble_eq_true rfl) ?_
  refine bs_iload_n dX8_has_0 rfl ?_
  refine bs_if_ltN (tgt := 16) dX8_has_1 (by decide) (by have q0 := hy; have q1 := hk.1; omega) (fun c1 => ?_) (fun c1 => ?_)
  · omega
  · refine bs_iload_n dX8_has_4 rfl ?_
    refine bs_aload_n dX8_has_5 rfl ?_
    refine bs_getN (v := S.1) dX8_has_6 fX8_21 (H.s 1 rfl rfl rfl) (hS.1) ?_
    refine bs_icmp_geN (tgt := 16) dX8_has_9 (by decide) (by have q0 := hy; have q1 := hk.1; omega) (by have q0 := hk.1; omega) (fun c9 => ?_) (fun c9 => ?_)
    · omega
    · refine bs_iconst (v := nI 1) dX8_has_12 (by decide) ?_
      refine bs_goto (tgt := 17) dX8_has_13 (by decide) ?_
      exact bs_zret dX8_has_17 rfl (by decide) (by decide) (by decide) ⟨rfl, rfl, rfl, rfl⟩
set_option maxHeartbeats 4000000 in
theorem c_stockN {x nx : Nat} {S : bs_So} {sh : bs_Sh} {mu : bs_Mm} (H : bs_St (bs_tS x) x sh mu) (hS : cSo x S mu) (hk : so_ok S) {a : Int32} (ha : a < 0 ∨ nI S.1 ≤ a) (b : Int32) : bs_C mX11_stock (bs_rm 10 0 0) [.ref x, .int a, .int b] nx sh mu (bs_no nx sh mu (.int (nI 0))) := by
  refine bs_ct (by decide +kernel) (Nat.le_of_ble_eq_true rfl) ?_
  refine bs_aload_n dX11_stock_0 rfl ?_
  refine bs_getR (b := (x + 1)) dX11_stock_1 fX11_12 (H.s 0 rfl rfl rfl) (H.r 0 0 rfl rfl rfl) ?_
  refine bs_iload_n dX11_stock_4 rfl ?_
  refine bs_callVn dX11_stock_5 qX11_277 (s_hasR H hS hk ha) rfl (H.s 1 rfl rfl rfl) rfl (Nat.le_of_ble_eq_true rfl) ⟨⟨by decide, by decide⟩, by decide, by decide⟩ ?_
  refine bs_if_eqN (tgt := 21) dX11_stock_8 (by decide) (by omega) (fun c8 => ?_) (fun c8 => ?_)
  · refine bs_iconst (v := nI 0) dX11_stock_21 (by decide) ?_
    exact bs_zret dX11_stock_22 rfl (by decide) (by decide) (by decide) ⟨rfl, rfl, rfl, rfl⟩
  · exact absurd rfl c8
set_option maxHeartbeats 4000000 in
theorem c_stockB {x nx : Nat} {S : bs_So} {sh : bs_Sh} {mu : bs_Mm} (H : bs_St (bs_tS x) x sh mu) (hS : cSo x S mu) (hk : so_ok S) {k : Nat} (hy : k < S.1) {b : Int32} (hb : ¬ bs_in b 0 99 = 1) : bs_C mX11_stock (bs_rm 10 0 0) [.ref x, .int (nI k), .int b] nx sh mu (bs_no nx sh mu (.int (nI 0))) := by
  refine bs_ct (by decide +kernel) (Nat.le_of_ble_eq_true rfl) ?_
  refine bs_aload_n dX11_stock_0 rfl ?_
  refine bs_getR (b := (x + 1)) dX11_stock_1 fX11_12 (H.s 0 rfl rfl rfl) (H.r 0 0 rfl rfl rfl) ?_
  refine bs_iload_n dX11_stock_4 rfl ?_
  refine bs_callVn dX11_stock_5 qX11_277 (s_hasA H hS hk hy) rfl (H.s 1 rfl rfl rfl) rfl (Nat.le_of_ble_eq_true rfl) ⟨⟨by decide, by decide⟩, by decide, by decide⟩ ?_
  refine bs_if_eqN (tgt := 21) dX11_stock_8 (by decide) (by omega) (fun c8 => ?_) (fun c8 => ?_)
  · omega
  · refine bs_iload_n dX11_stock_11 rfl ?_
    refine bs_if_lt (tgt := 21) dX11_stock_12 (by decide) (fun c12 => ?_) (fun c12 => ?_)
    · refine bs_iconst (v := nI 0) dX11_stock_21 (by decide) ?_
      exact bs_zret dX11_stock_22 rfl (by decide) (by decide) (by decide) ⟨rfl, rfl, rfl, rfl⟩
    · refine bs_iload_n dX11_stock_15 rfl ?_
      refine bs_bipush (v := nI 99) dX11_stock_16 (by decide) ?_
      refine bs_icmp_le (tgt := 23) dX11_stock_18 (by decide) (fun c18 => ?_) (fun c18 => ?_)
      · exact absurd (bs_in_1 c12 (fun h => absurd (Int32.le_iff_toInt_le.mp c18) (Int.not_le.mpr (Int32.lt_iff_toInt_lt.mp h)))) hb
      · refine bs_iconst (v := nI 0) dX11_stock_21 (by decide) ?_
        exact bs_zret dX11_stock_22 rfl (by decide) (by decide) (by decide) ⟨rfl, rfl, rfl, rfl⟩
set_option maxHeartbeats 4000000 in
theorem c_stockA {x nx : Nat} {S : bs_So} {sh : bs_Sh} {mu : bs_Mm} (H : bs_St (bs_tS x) x sh mu) (hS : cSo x S mu) (hk : so_ok S) {k : Nat} (hy : k < S.1) {b : Nat} (hb : b ≤ 99) : bs_C mX11_stock (bs_rm 10 0 0) [.ref x, .int (nI k), .int (nI b)] nx sh mu (bs_ex nx sh (.int (nI 1)) (bs_up mu (x + 51) k (.int (nI b)))) := by
  refine bs_ct (by decide +kernel) (Nat.le_of_ble_eq_true rfl) ?_
  refine bs_aload_n dX11_stock_0 rfl ?_
  refine bs_getR (b := (x + 1)) dX11_stock_1 fX11_12 (H.s 0 rfl rfl rfl) (H.r 0 0 rfl rfl rfl) ?_
  refine bs_iload_n dX11_stock_4 rfl ?_
  refine bs_callVn dX11_stock_5 qX11_277 (s_hasA H hS hk hy) rfl (H.s 1 rfl rfl rfl) rfl (Nat.le_of_ble_eq_true rfl) ⟨⟨by decide, by decide⟩, by decide, by decide⟩ ?_
  refine bs_if_eqN (tgt := 21) dX11_stock_8 (by decide) (by omega) (fun c8 => ?_) (fun c8 => ?_)
  · omega
  · refine bs_iload_n dX11_stock_11 rfl ?_
    refine bs_if_ltN (tgt := 21) dX11_stock_12 (by decide) (by have q0 := hb; omega) (fun c12 => ?_) (fun c12 => ?_)
    · omega
    · refine bs_iload_n dX11_stock_15 rfl ?_
      refine bs_bipush (v := nI 99) dX11_stock_16 (by decide) ?_
      refine bs_icmp_leN (tgt := 23) dX11_stock_18 (by decide) (by have q0 := hb; omega) (by omega) (fun c18 => ?_) (fun c18 => ?_)
      · refine bs_aload_n dX11_stock_23 rfl ?_
        refine bs_getR (b := (x + 50)) dX11_stock_24 fX11_80 (H.s 0 rfl rfl rfl) (H.r 0 10 rfl rfl rfl) ?_
        refine bs_getR (b := (x + 51)) dX11_stock_27 fX11_293 (H.s 50 rfl rfl rfl) (H.r 50 0 rfl rfl rfl) ?_
        refine bs_iload_n dX11_stock_30 rfl ?_
        refine bs_iload_n dX11_stock_31 rfl ?_
        refine bs_iastN (n := 6) (j := k) dX11_stock_32 (H.ss 51 rfl rfl) (by have q0 := hy; have q1 := hk.1; omega) (by decide) ?_
        refine bs_iconst (v := nI 1) dX11_stock_33 (by decide) ?_
        exact bs_zret dX11_stock_34 rfl (by decide) (by decide) (by decide) ⟨rfl, rfl, rfl, rfl⟩
      · omega
set_option maxHeartbeats 4000000 in
theorem n_isSortR {m nx : Nat} {S : bs_So} {sh : bs_Sh} {mu : bs_Mm} (H : bs_St (bs_tM m) m sh mu) (hS : mSo m S mu) (hk : so_ok S) {a : Int32} (ha : a < 0 ∨ nI S.1 ≤ a) : bs_C mX12_isSort (bs_rm 1 0 0) [.ref m, .int a] nx sh mu (bs_no nx sh mu (.int (nI 0))) := by
  refine bs_ct (by decide +kernel) (Nat.le_of_ble_eq_true rfl) ?_
  refine bs_iload_n dX12_isSort_0 rfl ?_
  refine bs_iconst (v := nI 0) dX12_isSort_1 (by decide) ?_
  refine bs_aload_n dX12_isSort_2 rfl ?_
  refine bs_getN (v := S.1) dX12_isSort_3 fX12_125 (H.s 0 rfl rfl rfl) (hS.1) ?_
  refine bs_iconst (v := nI 1) dX12_isSort_6 (by decide) ?_
  refine bs_isub dX12_isSort_7 ?_
  refine bs_callSn dX12_isSort_8 qX12_121 (n_inN (by have := hk.1; omega) ha) rfl rfl (Nat.le_of_ble_eq_true rfl) ⟨⟨by decide, by decide⟩, by decide, by decide⟩ ?_
  exact bs_zret dX12_isSort_11 rfl (by decide) (by decide) (by decide) ⟨rfl, rfl, rfl, rfl⟩
set_option maxHeartbeats 4000000 in
theorem n_isSortA {m nx : Nat} {S : bs_So} {sh : bs_Sh} {mu : bs_Mm} (H : bs_St (bs_tM m) m sh mu) (hS : mSo m S mu) (hk : so_ok S) {k : Nat} (hy : k < S.1) : bs_C mX12_isSort (bs_rm 1 0 0) [.ref m, .int (nI k)] nx sh mu (bs_no nx sh mu (.int (nI 1))) := by
  refine bs_ct (by decide +kernel) (Nat.le_of_ble_eq_true rfl) ?_
  refine bs_iload_n dX12_isSort_0 rfl ?_
  refine bs_iconst (v := nI 0) dX12_isSort_1 (by decide) ?_
  refine bs_aload_n dX12_isSort_2 rfl ?_
  refine bs_getN (v := S.1) dX12_isSort_3 fX12_125 (H.s 0 rfl rfl rfl) (hS.1) ?_
  refine bs_iconst (v := nI 1) dX12_isSort_6 (by decide) ?_
  refine bs_isubN dX12_isSort_7 (by have q0 := hk.1; omega) ?_
  refine bs_callSn dX12_isSort_8 qX12_121 (n_inY (by have := hk.1; omega) hy) rfl rfl (Nat.le_of_ble_eq_true rfl) ⟨⟨by decide, by decide⟩, by decide, by decide⟩ ?_
  exact bs_zret dX12_isSort_11 rfl (by decide) (by decide) (by decide) ⟨rfl, rfl, rfl, rfl⟩
set_option maxHeartbeats 4000000 in
theorem n_stockN {m nx : Nat} {S : bs_So} {sh : bs_Sh} {mu : bs_Mm} (H : bs_St (bs_tM m) m sh mu) (hS : mSo m S mu) (hk : so_ok S) {a : Int32} (ha : a < 0 ∨ nI S.1 ≤ a) (b : Int32) : bs_C mX12_stock (bs_rm 10 0 0) [.ref m, .int a, .int b] nx sh mu (bs_no nx sh mu (.int (nI 0))) := by
  refine bs_ct (by decide +kernel) (Nat.le_of_ble_eq_true rfl) ?_
  refine bs_aload_n dX12_stock_0 rfl ?_
  refine bs_iload_n dX12_stock_1 rfl ?_
  refine bs_callVn dX12_stock_2 qX12_375 (n_isSortR H hS hk ha) rfl (H.s 0 rfl rfl rfl) rfl (Nat.le_of_ble_eq_true rfl) ⟨⟨by decide, by decide⟩, by decide, by decide⟩ ?_
  refine bs_if_eqN (tgt := 18) dX12_stock_5 (by decide) (by omega) (fun c5 => ?_) (fun c5 => ?_)
  · refine bs_iconst (v := nI 0) dX12_stock_18 (by decide) ?_
    exact bs_zret dX12_stock_19 rfl (by decide) (by decide) (by decide) ⟨rfl, rfl, rfl, rfl⟩
  · exact absurd rfl c5
set_option maxHeartbeats 4000000 in
theorem n_stockB {m nx : Nat} {S : bs_So} {sh : bs_Sh} {mu : bs_Mm} (H : bs_St (bs_tM m) m sh mu) (hS : mSo m S mu) (hk : so_ok S) {k : Nat} (hy : k < S.1) {b : Int32} (hb : ¬ bs_in b 0 99 = 1) : bs_C mX12_stock (bs_rm 10 0 0) [.ref m, .int (nI k), .int b] nx sh mu (bs_no nx sh mu (.int (nI 0))) := by
  refine bs_ct (by decide +kernel) (Nat.le_of_ble_eq_true rfl) ?_
  refine bs_aload_n dX12_stock_0 rfl ?_
  refine bs_iload_n dX12_stock_1 rfl ?_
  refine bs_callVn dX12_stock_2 qX12_375 (n_isSortA H hS hk hy) rfl (H.s 0 rfl rfl rfl) rfl (Nat.le_of_ble_eq_true rfl) ⟨⟨by decide, by decide⟩, by decide, by decide⟩ ?_
  refine bs_if_eqN (tgt := 18) dX12_stock_5 (by decide) (by omega) (fun c5 => ?_) (fun c5 => ?_)
  · omega
  · refine bs_iload_n dX12_stock_8 rfl ?_
    refine bs_iconst (v := nI 0) dX12_stock_9 (by decide) ?_
    refine bs_bipush (v := nI 99) dX12_stock_10 (by decide) ?_
    refine bs_callSn dX12_stock_12 qX12_121 (m_in _ _ _) rfl rfl (Nat.le_of_ble_eq_true rfl) ⟨⟨by decide, by decide⟩, by decide, by decide⟩ ?_
    refine bs_if_ne (tgt := 20) dX12_stock_15 (by decide) (fun c15 => ?_) (fun c15 => ?_)
    · exact absurd ((bs_in_z _ _ _).resolve_left c15) hb
    · refine bs_iconst (v := nI 0) dX12_stock_18 (by decide) ?_
      exact bs_zret dX12_stock_19 rfl (by decide) (by decide) (by decide) ⟨rfl, rfl, rfl, rfl⟩
set_option maxHeartbeats 4000000 in
theorem n_stockA {m nx : Nat} {S : bs_So} {sh : bs_Sh} {mu : bs_Mm} (H : bs_St (bs_tM m) m sh mu) (hS : mSo m S mu) (hk : so_ok S) {k : Nat} (hy : k < S.1) {b : Nat} (hb : b ≤ 99) : bs_C mX12_stock (bs_rm 10 0 0) [.ref m, .int (nI k), .int (nI b)] nx sh mu (bs_ex nx sh (.int (nI 1)) (bs_up mu (m + 4) k (.int (nI b)))) := by
  refine bs_ct (by decide +kernel) (Nat.le_of_ble_eq_true rfl) ?_
  refine bs_aload_n dX12_stock_0 rfl ?_
  refine bs_iload_n dX12_stock_1 rfl ?_
  refine bs_callVn dX12_stock_2 qX12_375 (n_isSortA H hS hk hy) rfl (H.s 0 rfl rfl rfl) rfl (Nat.le_of_ble_eq_true rfl) ⟨⟨by decide, by decide⟩, by decide, by decide⟩ ?_
  refine bs_if_eqN (tgt := 18) dX12_stock_5 (by decide) (by omega) (fun c5 => ?_) (fun c5 => ?_)
  · omega
  · refine bs_iload_n dX12_stock_8 rfl ?_
    refine bs_iconst (v := nI 0) dX12_stock_9 (by decide) ?_
    refine bs_bipush (v := nI 99) dX12_stock_10 (by decide) ?_
    refine bs_callSn dX12_stock_12 qX12_121 (n_in1 (by omega) (by omega) (by decide)) rfl rfl (Nat.le_of_ble_eq_true rfl) ⟨⟨by decide, by decide⟩, by decide, by decide⟩ ?_
    refine bs_if_neN (tgt := 20) dX12_stock_15 (by decide) (by omega) (fun c15 => ?_) (fun c15 => ?_)
    · refine bs_aload_n dX12_stock_20 rfl ?_
      refine bs_getR (b := (m + 4)) dX12_stock_21 fX12_19 (H.s 0 rfl rfl rfl) (H.r 0 4 rfl rfl rfl) ?_
      refine bs_iload_n dX12_stock_24 rfl ?_
      refine bs_iload_n dX12_stock_25 rfl ?_
      refine bs_iastN (n := 6) (j := k) dX12_stock_26 (H.ss 4 rfl rfl) (by have q0 := hy; have q1 := hk.1; omega) (by decide) ?_
      refine bs_iconst (v := nI 1) dX12_stock_27 (by decide) ?_
      exact bs_zret dX12_stock_28 rfl (by decide) (by decide) (by decide) ⟨rfl, rfl, rfl, rfl⟩
    · omega
