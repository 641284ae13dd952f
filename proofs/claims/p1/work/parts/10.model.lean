def bs_gM (h : Nat) : List Value := [.null, .ref (h + 1), .ref (h + 2), .ref (h + 3), .ref (h + 4), .null, .ref (h + 5), .null, .null, .null, .null, .ref (h + 6), .ref (h + 7), .ref (h + 8), .ref (h + 9), .ref (h + 10), .ref (h + 11), .ref (h + 12), .ref (h + 13), .ref (h + 14), .null, .ref (h + 15), .ref (h + 16), .null, .null, .null, .ref (h + 17), .ref (h + 18), .ref (h + 19), .ref (h + 20), .ref (h + 21), .null, .null, .null, .ref (h + 22), .ref (h + 23), .ref (h + 24), .ref (h + 25), .ref (h + 26), .ref (h + 27), .ref (h + 28), .ref (h + 29), .ref (h + 30), .ref (h + 31), .ref (h + 32), .null, .null, .int 1, .null, .ref (h + 33), .ref (h + 34), .null]
def bs_cM (h : Nat) : List bs_Ce := [((14, 6), fun _ => .null), ((14, 6), fun _ => .null), ((14, 6), fun _ => .null), ((14, 6), fun _ => .null), ((14, 200), fun _ => .null), ((14, 13), fun _ => .null), ((14, 78), fun _ => .null), ((14, 13), fun _ => .null), ((14, 13), fun _ => .null), ((14, 312), fun _ => .null), ((14, 312), fun _ => .null), ((14, 312), fun _ => .null), ((14, 312), fun _ => .null), ((14, 13), fun _ => .null), ((14, 60), fun _ => .null), ((14, 8), fun _ => .null), ((14, 60), fun _ => .null), ((14, 2800), fun _ => .null), ((14, 7), fun _ => .null), ((14, 448), fun _ => .null), ((14, 448), fun _ => .null), ((15, 400), fun _ => .null), ((14, 8), fun _ => .null), ((14, 3600), fun _ => .null), ((14, 1024), fun _ => .null), ((16, 1024), fun _ => .null), ((14, 24), fun _ => .null), ((14, 30), fun _ => .null), ((14, 30), fun _ => .null), ((14, 30), fun _ => .null), ((14, 120), fun _ => .null), ((14, 6), fun _ => .null), ((14, 24), fun _ => .null), ((14, 24), fun _ => .null)]
def bs_tM (x : Nat) : List bs_Ce := ((12, 52), bs_li0 (bs_gM x)) :: bs_cM x
def bs_in (v lw hi : Int32) : Int32 := if lw ≤ v ∧ v ≤ hi then 1 else 0
theorem bs_in_1 {v lw hi : Int32} (h1 : ¬ v < lw) (h2 : ¬ hi < v) : bs_in v lw hi = 1 := if_pos ⟨Int32.not_lt.mp h1, Int32.not_lt.mp h2⟩
theorem bs_in_a {v lw hi : Int32} (h1 : v < lw) : bs_in v lw hi = 0 := if_neg fun h => Int32.not_lt.mpr h.1 h1
theorem bs_in_b {v lw hi : Int32} (h1 : hi < v) : bs_in v lw hi = 0 := if_neg fun h => Int32.not_lt.mpr h.2 h1
theorem bs_in_n (v : Int32) : bs_in v 0 (0 - 1) = 0 := if_neg fun h => by
  have h1 := Int32.le_iff_toInt_le.mp h.1
  have h2 := Int32.le_iff_toInt_le.mp h.2
  have e1 : (0 : Int32).toInt = 0 := by decide
  have e2 : (0 - 1 : Int32).toInt = -1 := by decide
  omega
theorem bs_in_z (v lw hi : Int32) : bs_in v lw hi = 0 ∨ bs_in v lw hi = 1 := by
  unfold bs_in
  split
  · exact Or.inr rfl
  · exact Or.inl rfl
/-- an answer; the memory may be another one, of the same shape -/
def bs_an (nx : Nat) (sh : bs_Sh) (v : Value) : bs_Po := fun r nx' sh' mu' => r = some v ∧ nx' = nx ∧ sh' = sh
/-- what pace, count, end answer on a new object -/
def bs_pk (a b : Int32) : Int32 := if bs_in a 1 9 = 1 ∧ bs_in b 0 9 = 1 then 1 else 0
theorem bs_pk_a {a b : Int32} (h : bs_in a 1 9 = 0) : bs_pk a b = 0 := if_neg fun z => by rw [h] at z; exact absurd z.1 (by decide)
theorem bs_pk_b {a b : Int32} (h : bs_in b 0 9 = 0) : bs_pk a b = 0 := if_neg fun z => by rw [h] at z; exact absurd z.2 (by decide)
theorem bs_pk_1 {a b : Int32} (h : ¬ bs_in a 1 9 = 0) (h2 : ¬ bs_in b 0 9 = 0) : bs_pk a b = 1 := if_pos ⟨(bs_in_z a 1 9).resolve_left h, (bs_in_z b 0 9).resolve_left h2⟩
def bs_ck (a : Int32) : Int32 := if a.toInt < 0 ∨ 4 < a.toInt then -1 else 0
theorem bs_ck_n {a : Int32} (h : a.toInt < 0 ∨ 4 < a.toInt) : bs_ck a = -1 := if_pos h
theorem bs_ck_0 {a : Int32} (h : ¬ (a.toInt < 0 ∨ 4 < a.toInt)) : bs_ck a = 0 := if_neg h
def bs_ek (a : Int32) : Int32 := if a < 0 ∨ ¬ a ≤ 0 then 0 else 1
theorem bs_ek_a {a : Int32} (h : a < 0) : bs_ek a = 0 := if_pos (Or.inl h)
theorem bs_ek_b {a : Int32} (h : ¬ a ≤ 0) : bs_ek a = 0 := if_pos (Or.inr h)
theorem bs_ek_1 {a : Int32} (h : ¬ a < 0) (h2 : a ≤ 0) : bs_ek a = 1 := if_neg fun z => z.elim h fun y => y h2
theorem bs_swi {a : Int32} {lw hi : Int} (h : ¬ (a.toInt < lw ∨ hi < a.toInt)) (h2 : lw ≤ hi) : ∃ j : Nat, j ≤ (hi - lw).toNat ∧ (a.toInt - lw).toNat = j := ⟨(a.toInt - lw).toNat, by omega, rfl⟩
set_option maxHeartbeats 4000000 in
set_option maxRecDepth 100000 in
theorem m_in {nx : Nat} {sh : bs_Sh} {mu : bs_Mm} (v lw hi : Int32) : bs_C mX12_in (bs_rm 0 0 0) [.int v, .int lw, .int hi] nx sh mu (bs_no nx sh mu (.int (bs_in v lw hi))) := by
  refine bs_ct (by decide +kernel) (Nat.le_of_ble_eq_true rfl) ?_
  refine bs_iload_n dX12_in_0 rfl ?_
  refine bs_iload_n dX12_in_1 rfl ?_
  refine bs_icmp_lt (tgt := 14) dX12_in_2 (by decide) (fun c2 => ?_) (fun c2 => ?_)
  · refine bs_iconst (v := 0) dX12_in_14 (by decide) ?_
    exact bs_zret dX12_in_15 rfl (Or.inl rfl) (by decide) (by decide) ⟨by rw [bs_in_a c2], rfl, rfl, rfl⟩
  · refine bs_iload_n dX12_in_5 rfl ?_
    refine bs_iload_n dX12_in_6 rfl ?_
    refine bs_icmp_gt (tgt := 14) dX12_in_7 (by decide) (fun c7 => ?_) (fun c7 => ?_)
    · refine bs_iconst (v := 0) dX12_in_14 (by decide) ?_
      exact bs_zret dX12_in_15 rfl (Or.inl rfl) (by decide) (by decide) ⟨by rw [bs_in_b c7], rfl, rfl, rfl⟩
    · refine bs_iconst (v := 1) dX12_in_10 (by decide) ?_
      refine bs_goto (tgt := 15) dX12_in_11 (by decide) ?_
      exact bs_zret dX12_in_15 rfl (Or.inr rfl) (by decide) (by decide) ⟨by rw [bs_in_1 c2 c7], rfl, rfl, rfl⟩
set_option maxHeartbeats 4000000 in
set_option maxRecDepth 100000 in
theorem m_isFig {x nx : Nat} {sh : bs_Sh} {mu : bs_Mm} (G : bs_Fr (bs_tM x) x sh mu) (n : Int32) : bs_C mX12_isFigure (bs_rm 1 0 0) [.ref x, .int n] nx sh mu (bs_no nx sh mu (.int 0)) := by
  have H := G.st
  refine bs_ct (by decide +kernel) (Nat.le_of_ble_eq_true rfl) ?_
  refine bs_iload_n dX12_isFigure_0 rfl ?_
  refine bs_iconst (v := 0) dX12_isFigure_1 (by decide) ?_
  refine bs_aload_n dX12_isFigure_2 rfl ?_
  refine bs_getI dX12_isFigure_3 fX12_252 (H.s 0 rfl rfl rfl) ?_
  refine bs_topq (x' := 0) (G.i 0 20 rfl rfl rfl) ?_
  refine bs_iconst (v := 1) dX12_isFigure_6 (by decide) ?_
  refine bs_isub dX12_isFigure_7 ?_
  refine bs_callS dX12_isFigure_8 qX12_121 (m_in _ _ _) rfl rfl (Nat.le_of_ble_eq_true rfl) ⟨⟨by decide, by decide⟩, by decide, by decide⟩ (fun v1 nx1 sh1 mu1 hp1 => ?_)
  obtain ⟨rfl, rfl, rfl, rfl⟩ := hp1
  refine bs_topq (x' := 0) (bs_in_n n) ?_
  exact bs_zret dX12_isFigure_11 rfl (Or.inl rfl) (by decide) (by decide) ⟨rfl, rfl, rfl, rfl⟩
set_option maxHeartbeats 4000000 in
set_option maxRecDepth 100000 in
theorem m_isSort {x nx : Nat} {sh : bs_Sh} {mu : bs_Mm} (G : bs_Fr (bs_tM x) x sh mu) (n : Int32) : bs_C mX12_isSort (bs_rm 1 0 0) [.ref x, .int n] nx sh mu (bs_no nx sh mu (.int 0)) := by
  have H := G.st
  refine bs_ct (by decide +kernel) (Nat.le_of_ble_eq_true rfl) ?_
  refine bs_iload_n dX12_isSort_0 rfl ?_
  refine bs_iconst (v := 0) dX12_isSort_1 (by decide) ?_
  refine bs_aload_n dX12_isSort_2 rfl ?_
  refine bs_getI dX12_isSort_3 fX12_125 (H.s 0 rfl rfl rfl) ?_
  refine bs_topq (x' := 0) (G.i 0 5 rfl rfl rfl) ?_
  refine bs_iconst (v := 1) dX12_isSort_6 (by decide) ?_
  refine bs_isub dX12_isSort_7 ?_
  refine bs_callS dX12_isSort_8 qX12_121 (m_in _ _ _) rfl rfl (Nat.le_of_ble_eq_true rfl) ⟨⟨by decide, by decide⟩, by decide, by decide⟩ (fun v1 nx1 sh1 mu1 hp1 => ?_)
  obtain ⟨rfl, rfl, rfl, rfl⟩ := hp1
  refine bs_topq (x' := 0) (bs_in_n n) ?_
  exact bs_zret dX12_isSort_11 rfl (Or.inl rfl) (by decide) (by decide) ⟨rfl, rfl, rfl, rfl⟩
set_option maxHeartbeats 4000000 in
set_option maxRecDepth 100000 in
theorem m_isPoi {x nx : Nat} {sh : bs_Sh} {mu : bs_Mm} (G : bs_Fr (bs_tM x) x sh mu) (n k : Int32) : bs_C mX12_isPoint (bs_rm 2 0 0) [.ref x, .int n, .int k] nx sh mu (bs_no nx sh mu (.int 0)) := by
  have H := G.st
  refine bs_ct (by decide +kernel) (Nat.le_of_ble_eq_true rfl) ?_
  refine bs_aload_n dX12_isPoint_0 rfl ?_
  refine bs_iload_n dX12_isPoint_1 rfl ?_
  refine bs_callV dX12_isPoint_2 qX12_284 (m_isFig G _) rfl (H.s 0 rfl rfl rfl) rfl (Nat.le_of_ble_eq_true rfl) ⟨⟨by decide, by decide⟩, by decide, by decide⟩ (fun v1 nx1 sh1 mu1 hp1 => ?_)
  obtain ⟨rfl, rfl, rfl, rfl⟩ := hp1
  refine bs_if_eq (tgt := 28) dX12_isPoint_5 (by decide) (fun c5 => ?_) (fun c5 => ?_)
  · refine bs_iconst (v := 0) dX12_isPoint_28 (by decide) ?_
    exact bs_zret dX12_isPoint_29 rfl (Or.inl rfl) (by decide) (by decide) ⟨rfl, rfl, rfl, rfl⟩
  · exact absurd rfl c5
set_option maxHeartbeats 4000000 in
set_option maxRecDepth 100000 in
theorem m_isBub {x nx : Nat} {sh : bs_Sh} {mu : bs_Mm} (G : bs_Fr (bs_tM x) x sh mu) (n k : Int32) : bs_C mX12_isBubble (bs_rm 2 0 0) [.ref x, .int n, .int k] nx sh mu (bs_no nx sh mu (.int 0)) := by
  have H := G.st
  refine bs_ct (by decide +kernel) (Nat.le_of_ble_eq_true rfl) ?_
  refine bs_aload_n dX12_isBubble_0 rfl ?_
  refine bs_iload_n dX12_isBubble_1 rfl ?_
  refine bs_callV dX12_isBubble_2 qX12_284 (m_isFig G _) rfl (H.s 0 rfl rfl rfl) rfl (Nat.le_of_ble_eq_true rfl) ⟨⟨by decide, by decide⟩, by decide, by decide⟩ (fun v1 nx1 sh1 mu1 hp1 => ?_)
  obtain ⟨rfl, rfl, rfl, rfl⟩ := hp1
  refine bs_if_eq (tgt := 28) dX12_isBubble_5 (by decide) (fun c5 => ?_) (fun c5 => ?_)
  · refine bs_iconst (v := 0) dX12_isBubble_28 (by decide) ?_
    exact bs_zret dX12_isBubble_29 rfl (Or.inl rfl) (by decide) (by decide) ⟨rfl, rfl, rfl, rfl⟩
  · exact absurd rfl c5
set_option maxHeartbeats 4000000 in
set_option maxRecDepth 100000 in
theorem m_isBal {x nx : Nat} {sh : bs_Sh} {mu : bs_Mm} (G : bs_Fr (bs_tM x) x sh mu) (n k : Int32) : bs_C mX12_isBalloon (bs_rm 2 0 0) [.ref x, .int n, .int k] nx sh mu (bs_no nx sh mu (.int 0)) := by
  have H := G.st
  refine bs_ct (by decide +kernel) (Nat.le_of_ble_eq_true rfl) ?_
  refine bs_aload_n dX12_isBalloon_0 rfl ?_
  refine bs_iload_n dX12_isBalloon_1 rfl ?_
  refine bs_callV dX12_isBalloon_2 qX12_284 (m_isFig G _) rfl (H.s 0 rfl rfl rfl) rfl (Nat.le_of_ble_eq_true rfl) ⟨⟨by decide, by decide⟩, by decide, by decide⟩ (fun v1 nx1 sh1 mu1 hp1 => ?_)
  obtain ⟨rfl, rfl, rfl, rfl⟩ := hp1
  refine bs_if_eq (tgt := 28) dX12_isBalloon_5 (by decide) (fun c5 => ?_) (fun c5 => ?_)
  · refine bs_iconst (v := 0) dX12_isBalloon_28 (by decide) ?_
    exact bs_zret dX12_isBalloon_29 rfl (Or.inl rfl) (by decide) (by decide) ⟨rfl, rfl, rfl, rfl⟩
  · exact absurd rfl c5
set_option maxHeartbeats 4000000 in
set_option maxRecDepth 100000 in
theorem m_many {x nx : Nat} {sh : bs_Sh} {mu : bs_Mm} (G : bs_Fr (bs_tM x) x sh mu) (a b : Int32) : bs_C mX12_many (bs_rm 9 0 0) [.ref x, .int a, .int b] nx sh mu (bs_no nx sh mu (.int (-1))) := by
  have H := G.st
  refine bs_ct (by decide +kernel) (Nat.le_of_ble_eq_true rfl) ?_
  refine bs_aload_n dX12_many_0 rfl ?_
  refine bs_iload_n dX12_many_1 rfl ?_
  refine bs_callV dX12_many_2 qX12_284 (m_isFig G _) rfl (H.s 0 rfl rfl rfl) rfl (Nat.le_of_ble_eq_true rfl) ⟨⟨by decide, by decide⟩, by decide, by decide⟩ (fun v1 nx1 sh1 mu1 hp1 => ?_)
  obtain ⟨rfl, rfl, rfl, rfl⟩ := hp1
  refine bs_if_eq (tgt := 17) dX12_many_5 (by decide) (fun c5 => ?_) (fun c5 => ?_)
  · refine bs_iconst (v := (-1)) dX12_many_17 (by decide) ?_
    exact bs_iret dX12_many_18 rfl (by decide) (by decide) ⟨rfl, rfl, rfl, rfl⟩
  · exact absurd rfl c5
set_option maxHeartbeats 4000000 in
set_option maxRecDepth 100000 in
theorem m_ends {x nx : Nat} {sh : bs_Sh} {mu : bs_Mm} (G : bs_Fr (bs_tM x) x sh mu) (a b : Int32) : bs_C mX12_ends (bs_rm 9 0 0) [.ref x, .int a, .int b] nx sh mu (bs_no nx sh mu (.int (-1))) := by
  have H := G.st
  refine bs_ct (by decide +kernel) (Nat.le_of_ble_eq_true rfl) ?_
  refine bs_aload_n dX12_ends_0 rfl ?_
  refine bs_iload_n dX12_ends_1 rfl ?_
  refine bs_iload_n dX12_ends_2 rfl ?_
  refine bs_callV dX12_ends_3 qX12_307 (m_isPoi G _ _) rfl (H.s 0 rfl rfl rfl) rfl (Nat.le_of_ble_eq_true rfl) ⟨⟨by decide, by decide⟩, by decide, by decide⟩ (fun v1 nx1 sh1 mu1 hp1 => ?_)
  obtain ⟨rfl, rfl, rfl, rfl⟩ := hp1
  refine bs_if_eq (tgt := 23) dX12_ends_6 (by decide) (fun c6 => ?_) (fun c6 => ?_)
  · refine bs_iconst (v := (-1)) dX12_ends_23 (by decide) ?_
    exact bs_iret dX12_ends_24 rfl (by decide) (by decide) ⟨rfl, rfl, rfl, rfl⟩
  · exact absurd rfl c6
set_option maxHeartbeats 4000000 in
set_option maxRecDepth 100000 in
theorem m_bursts {x nx : Nat} {sh : bs_Sh} {mu : bs_Mm} (G : bs_Fr (bs_tM x) x sh mu) (a b : Int32) : bs_C mX12_bursts (bs_rm 9 0 0) [.ref x, .int a, .int b] nx sh mu (bs_no nx sh mu (.int (-1))) := by
  have H := G.st
  refine bs_ct (by decide +kernel) (Nat.le_of_ble_eq_true rfl) ?_
  refine bs_aload_n dX12_bursts_0 rfl ?_
  refine bs_iload_n dX12_bursts_1 rfl ?_
  refine bs_iload_n dX12_bursts_2 rfl ?_
  refine bs_callV dX12_bursts_3 qX12_310 (m_isBal G _ _) rfl (H.s 0 rfl rfl rfl) rfl (Nat.le_of_ble_eq_true rfl) ⟨⟨by decide, by decide⟩, by decide, by decide⟩ (fun v1 nx1 sh1 mu1 hp1 => ?_)
  obtain ⟨rfl, rfl, rfl, rfl⟩ := hp1
  refine bs_if_ne (tgt := 11) dX12_bursts_6 (by decide) (fun c6 => ?_) (fun c6 => ?_)
  · exact absurd rfl c6
  · refine bs_iconst (v := (-1)) dX12_bursts_9 (by decide) ?_
    exact bs_iret dX12_bursts_10 rfl (by decide) (by decide) ⟨rfl, rfl, rfl, rfl⟩
set_option maxHeartbeats 4000000 in
set_option maxRecDepth 100000 in
theorem m_rest {x nx : Nat} {sh : bs_Sh} {mu : bs_Mm} (G : bs_Fr (bs_tM x) x sh mu) (a b : Int32) : bs_C mX12_rest (bs_rm 9 0 0) [.ref x, .int a, .int b] nx sh mu (bs_no nx sh mu (.int (-1))) := by
  have H := G.st
  refine bs_ct (by decide +kernel) (Nat.le_of_ble_eq_true rfl) ?_
  refine bs_aload_n dX12_rest_0 rfl ?_
  refine bs_iload_n dX12_rest_1 rfl ?_
  refine bs_iload_n dX12_rest_2 rfl ?_
  refine bs_callV dX12_rest_3 qX12_310 (m_isBal G _ _) rfl (H.s 0 rfl rfl rfl) rfl (Nat.le_of_ble_eq_true rfl) ⟨⟨by decide, by decide⟩, by decide, by decide⟩ (fun v1 nx1 sh1 mu1 hp1 => ?_)
  obtain ⟨rfl, rfl, rfl, rfl⟩ := hp1
  refine bs_if_ne (tgt := 11) dX12_rest_6 (by decide) (fun c6 => ?_) (fun c6 => ?_)
  · exact absurd rfl c6
  · refine bs_iconst (v := (-1)) dX12_rest_9 (by decide) ?_
    exact bs_iret dX12_rest_10 rfl (by decide) (by decide) ⟨rfl, rfl, rfl, rfl⟩
set_option maxHeartbeats 4000000 in
set_option maxRecDepth 100000 in
theorem m_hands {x nx : Nat} {sh : bs_Sh} {mu : bs_Mm} (G : bs_Fr (bs_tM x) x sh mu) (a : Int32) : bs_C mX12_hands (bs_rm 9 0 0) [.ref x, .int a] nx sh mu (bs_no nx sh mu (.int (-1))) := by
  have H := G.st
  refine bs_ct (by decide +kernel) (Nat.le_of_ble_eq_true rfl) ?_
  refine bs_aload_n dX12_hands_0 rfl ?_
  refine bs_iload_n dX12_hands_1 rfl ?_
  refine bs_callV dX12_hands_2 qX12_284 (m_isFig G _) rfl (H.s 0 rfl rfl rfl) rfl (Nat.le_of_ble_eq_true rfl) ⟨⟨by decide, by decide⟩, by decide, by decide⟩ (fun v1 nx1 sh1 mu1 hp1 => ?_)
  obtain ⟨rfl, rfl, rfl, rfl⟩ := hp1
  refine bs_if_eq (tgt := 17) dX12_hands_5 (by decide) (fun c5 => ?_) (fun c5 => ?_)
  · refine bs_iconst (v := (-1)) dX12_hands_17 (by decide) ?_
    exact bs_iret dX12_hands_18 rfl (by decide) (by decide) ⟨rfl, rfl, rfl, rfl⟩
  · exact absurd rfl c5
set_option maxHeartbeats 4000000 in
set_option maxRecDepth 100000 in
theorem m_holds {x nx : Nat} {sh : bs_Sh} {mu : bs_Mm} (G : bs_Fr (bs_tM x) x sh mu) (a b : Int32) : bs_C mX12_holds (bs_rm 9 0 0) [.ref x, .int a, .int b] nx sh mu (bs_no nx sh mu (.int (-1))) := by
  have H := G.st
  refine bs_ct (by decide +kernel) (Nat.le_of_ble_eq_true rfl) ?_
  refine bs_aload_n dX12_holds_0 rfl ?_
  refine bs_iload_n dX12_holds_1 rfl ?_
  refine bs_iload_n dX12_holds_2 rfl ?_
  refine bs_callV dX12_holds_3 qX12_304 (m_isBub G _ _) rfl (H.s 0 rfl rfl rfl) rfl (Nat.le_of_ble_eq_true rfl) ⟨⟨by decide, by decide⟩, by decide, by decide⟩ (fun v1 nx1 sh1 mu1 hp1 => ?_)
  obtain ⟨rfl, rfl, rfl, rfl⟩ := hp1
  refine bs_if_eq (tgt := 35) dX12_holds_6 (by decide) (fun c6 => ?_) (fun c6 => ?_)
  · refine bs_iconst (v := (-1)) dX12_holds_35 (by decide) ?_
    exact bs_iret dX12_holds_36 rfl (by decide) (by decide) ⟨rfl, rfl, rfl, rfl⟩
  · exact absurd rfl c6
set_option maxHeartbeats 4000000 in
set_option maxRecDepth 100000 in
theorem m_plain {x nx : Nat} {sh : bs_Sh} {mu : bs_Mm} (G : bs_Fr (bs_tM x) x sh mu) (a : Int32) : bs_C mX12_plain (bs_rm 9 0 0) [.ref x, .int a] nx sh mu (bs_no nx sh mu (.int (-1))) := by
  have H := G.st
  refine bs_ct (by decide +kernel) (Nat.le_of_ble_eq_true rfl) ?_
  refine bs_aload_n dX12_plain_0 rfl ?_
  refine bs_iload_n dX12_plain_1 rfl ?_
  refine bs_callV dX12_plain_2 qX12_284 (m_isFig G _) rfl (H.s 0 rfl rfl rfl) rfl (Nat.le_of_ble_eq_true rfl) ⟨⟨by decide, by decide⟩, by decide, by decide⟩ (fun v1 nx1 sh1 mu1 hp1 => ?_)
  obtain ⟨rfl, rfl, rfl, rfl⟩ := hp1
  refine bs_if_eq (tgt := 17) dX12_plain_5 (by decide) (fun c5 => ?_) (fun c5 => ?_)
  · refine bs_iconst (v := (-1)) dX12_plain_17 (by decide) ?_
    exact bs_iret dX12_plain_18 rfl (by decide) (by decide) ⟨rfl, rfl, rfl, rfl⟩
  · exact absurd rfl c5
set_option maxHeartbeats 4000000 in
set_option maxRecDepth 100000 in
theorem m_pop {x nx : Nat} {sh : bs_Sh} {mu : bs_Mm} (G : bs_Fr (bs_tM x) x sh mu) (a b e : Int32) : bs_C mX12_pop (bs_rm 9 0 0) [.ref x, .int a, .int b, .int e] nx sh mu (bs_no nx sh mu (.int (-1))) := by
  have H := G.st
  refine bs_ct (by decide +kernel) (Nat.le_of_ble_eq_true rfl) ?_
  refine bs_aload_n dX12_pop_0 rfl ?_
  refine bs_iload_n dX12_pop_1 rfl ?_
  refine bs_iload_n dX12_pop_2 rfl ?_
  refine bs_callV dX12_pop_3 qX12_304 (m_isBub G _ _) rfl (H.s 0 rfl rfl rfl) rfl (Nat.le_of_ble_eq_true rfl) ⟨⟨by decide, by decide⟩, by decide, by decide⟩ (fun v1 nx1 sh1 mu1 hp1 => ?_)
  obtain ⟨rfl, rfl, rfl, rfl⟩ := hp1
  refine bs_if_eq (tgt := 18) dX12_pop_6 (by decide) (fun c6 => ?_) (fun c6 => ?_)
  · refine bs_iconst (v := (-1)) dX12_pop_18 (by decide) ?_
    exact bs_iret dX12_pop_19 rfl (by decide) (by decide) ⟨rfl, rfl, rfl, rfl⟩
  · exact absurd rfl c6
set_option maxHeartbeats 4000000 in
set_option maxRecDepth 100000 in
theorem m_weakest {x nx : Nat} {sh : bs_Sh} {mu : bs_Mm} (G : bs_Fr (bs_tM x) x sh mu) (a : Int32) : bs_C mX12_weakest (bs_rm 9 0 0) [.ref x, .int a] nx sh mu (bs_no nx sh mu (.int (-1))) := by
  have H := G.st
  refine bs_ct (by decide +kernel) (Nat.le_of_ble_eq_true rfl) ?_
  refine bs_aload_n dX12_weakest_0 rfl ?_
  refine bs_iload_n dX12_weakest_1 rfl ?_
  refine bs_callV dX12_weakest_2 qX12_284 (m_isFig G _) rfl (H.s 0 rfl rfl rfl) rfl (Nat.le_of_ble_eq_true rfl) ⟨⟨by decide, by decide⟩, by decide, by decide⟩ (fun v1 nx1 sh1 mu1 hp1 => ?_)
  obtain ⟨rfl, rfl, rfl, rfl⟩ := hp1
  refine bs_if_ne (tgt := 10) dX12_weakest_5 (by decide) (fun c5 => ?_) (fun c5 => ?_)
  · exact absurd rfl c5
  · refine bs_iconst (v := (-1)) dX12_weakest_8 (by decide) ?_
    exact bs_iret dX12_weakest_9 rfl (by decide) (by decide) ⟨rfl, rfl, rfl, rfl⟩
set_option maxHeartbeats 4000000 in
set_option maxRecDepth 100000 in
theorem m_add {x nx : Nat} {sh : bs_Sh} {mu : bs_Mm} (G : bs_Fr (bs_tM x) x sh mu) (a b e f : Int32) : bs_C mX12_add (bs_rm 9 0 0) [.ref x, .int a, .int b, .int e, .int f] nx sh mu (bs_no nx sh mu (.int (-1))) := by
  have H := G.st
  refine bs_ct (by decide +kernel) (Nat.le_of_ble_eq_true rfl) ?_
  refine bs_aload_n dX12_add_0 rfl ?_
  refine bs_iload_n dX12_add_1 rfl ?_
  refine bs_iload_n dX12_add_2 rfl ?_
  refine bs_callV dX12_add_3 qX12_307 (m_isPoi G _ _) rfl (H.s 0 rfl rfl rfl) rfl (Nat.le_of_ble_eq_true rfl) ⟨⟨by decide, by decide⟩, by decide, by decide⟩ (fun v1 nx1 sh1 mu1 hp1 => ?_)
  obtain ⟨rfl, rfl, rfl, rfl⟩ := hp1
  refine bs_if_eq (tgt := 64) dX12_add_6 (by decide) (fun c6 => ?_) (fun c6 => ?_)
  · refine bs_iconst (v := (-1)) dX12_add_64 (by decide) ?_
    exact bs_iret dX12_add_65 rfl (by decide) (by decide) ⟨rfl, rfl, rfl, rfl⟩
  · exact absurd rfl c6
set_option maxHeartbeats 4000000 in
set_option maxRecDepth 100000 in
theorem m_mayMatch {x nx : Nat} {sh : bs_Sh} {mu : bs_Mm} (G : bs_Fr (bs_tM x) x sh mu) (a b : Int32) : bs_C mX12_mayMatch (bs_rm 4 0 0) [.ref x, .int a, .int b] nx sh mu (bs_no nx sh mu (.int 0)) := by
  have H := G.st
  refine bs_ct (by decide +kernel) (Nat.le_of_ble_eq_true rfl) ?_
  refine bs_aload_n dX12_mayMatch_0 rfl ?_
  refine bs_iload_n dX12_mayMatch_1 rfl ?_
  refine bs_callV dX12_mayMatch_2 qX12_284 (m_isFig G _) rfl (H.s 0 rfl rfl rfl) rfl (Nat.le_of_ble_eq_true rfl) ⟨⟨by decide, by decide⟩, by decide, by decide⟩ (fun v1 nx1 sh1 mu1 hp1 => ?_)
  obtain ⟨rfl, rfl, rfl, rfl⟩ := hp1
  refine bs_if_eq (tgt := 42) dX12_mayMatch_5 (by decide) (fun c5 => ?_) (fun c5 => ?_)
  · refine bs_iconst (v := 0) dX12_mayMatch_42 (by decide) ?_
    exact bs_zret dX12_mayMatch_43 rfl (Or.inl rfl) (by decide) (by decide) ⟨rfl, rfl, rfl, rfl⟩
  · exact absurd rfl c5
set_option maxHeartbeats 4000000 in
set_option maxRecDepth 100000 in
theorem m_alike {x nx : Nat} {sh : bs_Sh} {mu : bs_Mm} (G : bs_Fr (bs_tM x) x sh mu) (a b : Int32) : bs_C mX12_alike (bs_rm 9 0 0) [.ref x, .int a, .int b] nx sh mu (bs_no nx sh mu (.int (-1))) := by
  have H := G.st
  refine bs_ct (by decide +kernel) (Nat.le_of_ble_eq_true rfl) ?_
  refine bs_aload_n dX12_alike_0 rfl ?_
  refine bs_iload_n dX12_alike_1 rfl ?_
  refine bs_iload_n dX12_alike_2 rfl ?_
  refine bs_callV dX12_alike_3 qX12_359 (m_mayMatch G _ _) rfl (H.s 0 rfl rfl rfl) rfl (Nat.le_of_ble_eq_true rfl) ⟨⟨by decide, by decide⟩, by decide, by decide⟩ (fun v1 nx1 sh1 mu1 hp1 => ?_)
  obtain ⟨rfl, rfl, rfl, rfl⟩ := hp1
  refine bs_if_eq (tgt := 26) dX12_alike_6 (by decide) (fun c6 => ?_) (fun c6 => ?_)
  · refine bs_iconst (v := (-1)) dX12_alike_26 (by decide) ?_
    exact bs_iret dX12_alike_27 rfl (by decide) (by decide) ⟨rfl, rfl, rfl, rfl⟩
  · exact absurd rfl c6
set_option maxHeartbeats 4000000 in
set_option maxRecDepth 100000 in
theorem m_match {x nx : Nat} {sh : bs_Sh} {mu : bs_Mm} (G : bs_Fr (bs_tM x) x sh mu) (a b e : Int32) : bs_C mX12_match (bs_rm 9 0 0) [.ref x, .int a, .int b, .int e] nx sh mu (bs_no nx sh mu (.int (-1))) := by
  have H := G.st
  refine bs_ct (by decide +kernel) (Nat.le_of_ble_eq_true rfl) ?_
  refine bs_aload_n dX12_match_0 rfl ?_
  refine bs_iload_n dX12_match_1 rfl ?_
  refine bs_iload_n dX12_match_2 rfl ?_
  refine bs_callV dX12_match_3 qX12_359 (m_mayMatch G _ _) rfl (H.s 0 rfl rfl rfl) rfl (Nat.le_of_ble_eq_true rfl) ⟨⟨by decide, by decide⟩, by decide, by decide⟩ (fun v1 nx1 sh1 mu1 hp1 => ?_)
  obtain ⟨rfl, rfl, rfl, rfl⟩ := hp1
  refine bs_if_eq (tgt := 36) dX12_match_6 (by decide) (fun c6 => ?_) (fun c6 => ?_)
  · refine bs_iconst (v := (-1)) dX12_match_36 (by decide) ?_
    exact bs_iret dX12_match_37 rfl (by decide) (by decide) ⟨rfl, rfl, rfl, rfl⟩
  · exact absurd rfl c6
set_option maxHeartbeats 4000000 in
set_option maxRecDepth 100000 in
theorem m_far {x nx : Nat} {sh : bs_Sh} {mu : bs_Mm} (G : bs_Fr (bs_tM x) x sh mu) (a b e : Int32) : bs_C mX12_far (bs_rm 9 0 0) [.ref x, .int a, .int b, .int e] nx sh mu (bs_no nx sh mu (.int (-1))) := by
  have H := G.st
  refine bs_ct (by decide +kernel) (Nat.le_of_ble_eq_true rfl) ?_
  refine bs_aload_n dX12_far_0 rfl ?_
  refine bs_iload_n dX12_far_1 rfl ?_
  refine bs_iload_n dX12_far_2 rfl ?_
  refine bs_callV dX12_far_3 qX12_307 (m_isPoi G _ _) rfl (H.s 0 rfl rfl rfl) rfl (Nat.le_of_ble_eq_true rfl) ⟨⟨by decide, by decide⟩, by decide, by decide⟩ (fun v1 nx1 sh1 mu1 hp1 => ?_)
  obtain ⟨rfl, rfl, rfl, rfl⟩ := hp1
  refine bs_if_eq (tgt := 18) dX12_far_6 (by decide) (fun c6 => ?_) (fun c6 => ?_)
  · refine bs_iconst (v := (-1)) dX12_far_18 (by decide) ?_
    exact bs_iret dX12_far_19 rfl (by decide) (by decide) ⟨rfl, rfl, rfl, rfl⟩
  · exact absurd rfl c6
set_option maxHeartbeats 4000000 in
set_option maxRecDepth 100000 in
theorem m_span {x nx : Nat} {sh : bs_Sh} {mu : bs_Mm} (G : bs_Fr (bs_tM x) x sh mu) (a : Int32) : bs_C mX12_span (bs_rm 9 0 0) [.ref x, .int a] nx sh mu (bs_no nx sh mu (.int (-1))) := by
  have H := G.st
  refine bs_ct (by decide +kernel) (Nat.le_of_ble_eq_true rfl) ?_
  refine bs_aload_n dX12_span_0 rfl ?_
  refine bs_iload_n dX12_span_1 rfl ?_
  refine bs_callV dX12_span_2 qX12_284 (m_isFig G _) rfl (H.s 0 rfl rfl rfl) rfl (Nat.le_of_ble_eq_true rfl) ⟨⟨by decide, by decide⟩, by decide, by decide⟩ (fun v1 nx1 sh1 mu1 hp1 => ?_)
  obtain ⟨rfl, rfl, rfl, rfl⟩ := hp1
  refine bs_if_ne (tgt := 10) dX12_span_5 (by decide) (fun c5 => ?_) (fun c5 => ?_)
  · exact absurd rfl c5
  · refine bs_iconst (v := (-1)) dX12_span_8 (by decide) ?_
    exact bs_iret dX12_span_9 rfl (by decide) (by decide) ⟨rfl, rfl, rfl, rfl⟩
set_option maxHeartbeats 4000000 in
set_option maxRecDepth 100000 in
theorem m_strokes {x nx : Nat} {sh : bs_Sh} {mu : bs_Mm} (G : bs_Fr (bs_tM x) x sh mu) (a : Int32) : bs_C mX12_strokes (bs_rm 9 0 0) [.ref x, .int a] nx sh mu (bs_no nx sh mu (.int (-1))) := by
  have H := G.st
  refine bs_ct (by decide +kernel) (Nat.le_of_ble_eq_true rfl) ?_
  refine bs_aload_n dX12_strokes_0 rfl ?_
  refine bs_iload_n dX12_strokes_1 rfl ?_
  refine bs_callV dX12_strokes_2 qX12_284 (m_isFig G _) rfl (H.s 0 rfl rfl rfl) rfl (Nat.le_of_ble_eq_true rfl) ⟨⟨by decide, by decide⟩, by decide, by decide⟩ (fun v1 nx1 sh1 mu1 hp1 => ?_)
  obtain ⟨rfl, rfl, rfl, rfl⟩ := hp1
  refine bs_if_ne (tgt := 10) dX12_strokes_5 (by decide) (fun c5 => ?_) (fun c5 => ?_)
  · exact absurd rfl c5
  · refine bs_iconst (v := (-1)) dX12_strokes_8 (by decide) ?_
    exact bs_iret dX12_strokes_9 rfl (by decide) (by decide) ⟨rfl, rfl, rfl, rfl⟩
set_option maxHeartbeats 4000000 in
set_option maxRecDepth 100000 in
theorem m_mayBeMade {x nx : Nat} {sh : bs_Sh} {mu : bs_Mm} (G : bs_Fr (bs_tM x) x sh mu) (a b : Int32) : bs_C mX12_mayBeMade (bs_rm 4 0 0) [.ref x, .int a, .int b] nx sh mu (bs_no nx sh mu (.int 0)) := by
  have H := G.st
  refine bs_ct (by decide +kernel) (Nat.le_of_ble_eq_true rfl) ?_
  refine bs_aload_n dX12_mayBeMade_0 rfl ?_
  refine bs_iload_n dX12_mayBeMade_1 rfl ?_
  refine bs_callV dX12_mayBeMade_2 qX12_284 (m_isFig G _) rfl (H.s 0 rfl rfl rfl) rfl (Nat.le_of_ble_eq_true rfl) ⟨⟨by decide, by decide⟩, by decide, by decide⟩ (fun v1 nx1 sh1 mu1 hp1 => ?_)
  obtain ⟨rfl, rfl, rfl, rfl⟩ := hp1
  refine bs_if_eq (tgt := 27) dX12_mayBeMade_5 (by decide) (fun c5 => ?_) (fun c5 => ?_)
  · refine bs_iconst (v := 0) dX12_mayBeMade_27 (by decide) ?_
    exact bs_zret dX12_mayBeMade_28 rfl (Or.inl rfl) (by decide) (by decide) ⟨rfl, rfl, rfl, rfl⟩
  · exact absurd rfl c5
set_option maxHeartbeats 4000000 in
set_option maxRecDepth 100000 in
theorem m_made {x nx : Nat} {sh : bs_Sh} {mu : bs_Mm} (G : bs_Fr (bs_tM x) x sh mu) (a b : Int32) : bs_C mX12_made (bs_rm 9 0 0) [.ref x, .int a, .int b] nx sh mu (bs_no nx sh mu (.int (-1))) := by
  have H := G.st
  refine bs_ct (by decide +kernel) (Nat.le_of_ble_eq_true rfl) ?_
  refine bs_aload_n dX12_made_0 rfl ?_
  refine bs_iload_n dX12_made_1 rfl ?_
  refine bs_iload_n dX12_made_2 rfl ?_
  refine bs_callV dX12_made_3 qX12_381 (m_mayBeMade G _ _) rfl (H.s 0 rfl rfl rfl) rfl (Nat.le_of_ble_eq_true rfl) ⟨⟨by decide, by decide⟩, by decide, by decide⟩ (fun v1 nx1 sh1 mu1 hp1 => ?_)
  obtain ⟨rfl, rfl, rfl, rfl⟩ := hp1
  refine bs_if_eq (tgt := 22) dX12_made_6 (by decide) (fun c6 => ?_) (fun c6 => ?_)
  · refine bs_iconst (v := (-1)) dX12_made_22 (by decide) ?_
    exact bs_iret dX12_made_23 rfl (by decide) (by decide) ⟨rfl, rfl, rfl, rfl⟩
  · exact absurd rfl c6
set_option maxHeartbeats 4000000 in
set_option maxRecDepth 100000 in
theorem m_set {x nx : Nat} {sh : bs_Sh} {mu : bs_Mm} (G : bs_Fr (bs_tM x) x sh mu) (a b e : Int32) : bs_C mX12_set (bs_rm 9 0 0) [.ref x, .int a, .int b, .int e] nx sh mu (bs_no nx sh mu (.int (-1))) := by
  have H := G.st
  refine bs_ct (by decide +kernel) (Nat.le_of_ble_eq_true rfl) ?_
  refine bs_aload_n dX12_set_0 rfl ?_
  refine bs_iload_n dX12_set_1 rfl ?_
  refine bs_iload_n dX12_set_2 rfl ?_
  refine bs_callV dX12_set_3 qX12_381 (m_mayBeMade G _ _) rfl (H.s 0 rfl rfl rfl) rfl (Nat.le_of_ble_eq_true rfl) ⟨⟨by decide, by decide⟩, by decide, by decide⟩ (fun v1 nx1 sh1 mu1 hp1 => ?_)
  obtain ⟨rfl, rfl, rfl, rfl⟩ := hp1
  refine bs_if_eq (tgt := 29) dX12_set_6 (by decide) (fun c6 => ?_) (fun c6 => ?_)
  · refine bs_iconst (v := (-1)) dX12_set_29 (by decide) ?_
    exact bs_iret dX12_set_30 rfl (by decide) (by decide) ⟨rfl, rfl, rfl, rfl⟩
  · exact absurd rfl c6
set_option maxHeartbeats 4000000 in
set_option maxRecDepth 100000 in
theorem m_twice {x nx : Nat} {sh : bs_Sh} {mu : bs_Mm} (G : bs_Fr (bs_tM x) x sh mu) (a : Int32) : bs_C mX12_twice (bs_rm 9 0 0) [.ref x, .int a] nx sh mu (bs_no nx sh mu (.int (-1))) := by
  have H := G.st
  refine bs_ct (by decide +kernel) (Nat.le_of_ble_eq_true rfl) ?_
  refine bs_aload_n dX12_twice_0 rfl ?_
  refine bs_iload_n dX12_twice_1 rfl ?_
  refine bs_callV dX12_twice_2 qX12_284 (m_isFig G _) rfl (H.s 0 rfl rfl rfl) rfl (Nat.le_of_ble_eq_true rfl) ⟨⟨by decide, by decide⟩, by decide, by decide⟩ (fun v1 nx1 sh1 mu1 hp1 => ?_)
  obtain ⟨rfl, rfl, rfl, rfl⟩ := hp1
  refine bs_if_eq (tgt := 33) dX12_twice_5 (by decide) (fun c5 => ?_) (fun c5 => ?_)
  · refine bs_iconst (v := (-1)) dX12_twice_33 (by decide) ?_
    exact bs_iret dX12_twice_34 rfl (by decide) (by decide) ⟨rfl, rfl, rfl, rfl⟩
  · exact absurd rfl c5
set_option maxHeartbeats 4000000 in
set_option maxRecDepth 100000 in
theorem m_aged {x nx : Nat} {sh : bs_Sh} {mu : bs_Mm} (G : bs_Fr (bs_tM x) x sh mu) (a b e f : Int32) : bs_C mX12_aged (bs_rm 9 0 0) [.ref x, .int a, .int b, .int e, .int f] nx sh mu (bs_no nx sh mu (.int (-1))) := by
  have H := G.st
  refine bs_ct (by decide +kernel) (Nat.le_of_ble_eq_true rfl) ?_
  refine bs_aload_n dX12_aged_0 rfl ?_
  refine bs_iload_n dX12_aged_1 rfl ?_
  refine bs_iload dX12_aged_2 rfl ?_
  refine bs_callV dX12_aged_4 qX12_304 (m_isBub G _ _) rfl (H.s 0 rfl rfl rfl) rfl (Nat.le_of_ble_eq_true rfl) ⟨⟨by decide, by decide⟩, by decide, by decide⟩ (fun v1 nx1 sh1 mu1 hp1 => ?_)
  obtain ⟨rfl, rfl, rfl, rfl⟩ := hp1
  refine bs_if_eq (tgt := 34) dX12_aged_7 (by decide) (fun c7 => ?_) (fun c7 => ?_)
  · refine bs_iconst (v := (-1)) dX12_aged_34 (by decide) ?_
    exact bs_iret dX12_aged_35 rfl (by decide) (by decide) ⟨rfl, rfl, rfl, rfl⟩
  · exact absurd rfl c7
set_option maxHeartbeats 4000000 in
set_option maxRecDepth 100000 in
theorem m_falls {x nx : Nat} {sh : bs_Sh} {mu : bs_Mm} (G : bs_Fr (bs_tM x) x sh mu) (a b e : Int32) : bs_C mX12_falls (bs_rm 9 0 0) [.ref x, .int a, .int b, .int e] nx sh mu (bs_no nx sh mu (.int (-1))) := by
  have H := G.st
  refine bs_ct (by decide +kernel) (Nat.le_of_ble_eq_true rfl) ?_
  refine bs_aload_n dX12_falls_0 rfl ?_
  refine bs_iload_n dX12_falls_1 rfl ?_
  refine bs_callV dX12_falls_2 qX12_284 (m_isFig G _) rfl (H.s 0 rfl rfl rfl) rfl (Nat.le_of_ble_eq_true rfl) ⟨⟨by decide, by decide⟩, by decide, by decide⟩ (fun v1 nx1 sh1 mu1 hp1 => ?_)
  obtain ⟨rfl, rfl, rfl, rfl⟩ := hp1
  refine bs_if_eq (tgt := 40) dX12_falls_5 (by decide) (fun c5 => ?_) (fun c5 => ?_)
  · refine bs_iconst (v := (-1)) dX12_falls_40 (by decide) ?_
    exact bs_iret dX12_falls_41 rfl (by decide) (by decide) ⟨rfl, rfl, rfl, rfl⟩
  · exact absurd rfl c5
set_option maxHeartbeats 4000000 in
set_option maxRecDepth 100000 in
theorem m_comes {x nx : Nat} {sh : bs_Sh} {mu : bs_Mm} (G : bs_Fr (bs_tM x) x sh mu) (a b e : Int32) : bs_C mX12_comes (bs_rm 9 0 0) [.ref x, .int a, .int b, .int e] nx sh mu (bs_no nx sh mu (.int (-1))) := by
  have H := G.st
  refine bs_ct (by decide +kernel) (Nat.le_of_ble_eq_true rfl) ?_
  refine bs_aload_n dX12_comes_0 rfl ?_
  refine bs_iload_n dX12_comes_1 rfl ?_
  refine bs_callV dX12_comes_2 qX12_284 (m_isFig G _) rfl (H.s 0 rfl rfl rfl) rfl (Nat.le_of_ble_eq_true rfl) ⟨⟨by decide, by decide⟩, by decide, by decide⟩ (fun v1 nx1 sh1 mu1 hp1 => ?_)
  obtain ⟨rfl, rfl, rfl, rfl⟩ := hp1
  refine bs_if_eq (tgt := 60) dX12_comes_5 (by decide) (fun c5 => ?_) (fun c5 => ?_)
  · refine bs_iconst (v := (-1)) dX12_comes_60 (by decide) ?_
    exact bs_iret dX12_comes_61 rfl (by decide) (by decide) ⟨rfl, rfl, rfl, rfl⟩
  · exact absurd rfl c5
set_option maxHeartbeats 4000000 in
set_option maxRecDepth 100000 in
theorem m_stock {x nx : Nat} {sh : bs_Sh} {mu : bs_Mm} (G : bs_Fr (bs_tM x) x sh mu) (a b : Int32) : bs_C mX12_stock (bs_rm 9 0 0) [.ref x, .int a, .int b] nx sh mu (bs_no nx sh mu (.int 0)) := by
  have H := G.st
  refine bs_ct (by decide +kernel) (Nat.le_of_ble_eq_true rfl) ?_
  refine bs_aload_n dX12_stock_0 rfl ?_
  refine bs_iload_n dX12_stock_1 rfl ?_
  refine bs_callV dX12_stock_2 qX12_375 (m_isSort G _) rfl (H.s 0 rfl rfl rfl) rfl (Nat.le_of_ble_eq_true rfl) ⟨⟨by decide, by decide⟩, by decide, by decide⟩ (fun v1 nx1 sh1 mu1 hp1 => ?_)
  obtain ⟨rfl, rfl, rfl, rfl⟩ := hp1
  refine bs_if_eq (tgt := 18) dX12_stock_5 (by decide) (fun c5 => ?_) (fun c5 => ?_)
  · refine bs_iconst (v := 0) dX12_stock_18 (by decide) ?_
    exact bs_zret dX12_stock_19 rfl (Or.inl rfl) (by decide) (by decide) ⟨rfl, rfl, rfl, rfl⟩
  · exact absurd rfl c5
set_option maxHeartbeats 4000000 in
set_option maxRecDepth 100000 in
theorem m_thrown {x nx : Nat} {sh : bs_Sh} {mu : bs_Mm} (G : bs_Fr (bs_tM x) x sh mu) : bs_C mX12_thrown (bs_rm 0 0 0) [.ref x] nx sh mu (bs_no nx sh mu (.int (bs_iv (mu x 0)))) := by
  have H := G.st
  refine bs_ct (by decide +kernel) (Nat.le_of_ble_eq_true rfl) ?_
  refine bs_aload_n dX12_thrown_0 rfl ?_
  refine bs_getI dX12_thrown_1 fX12_118 (H.s 0 rfl rfl rfl) ?_
  exact bs_iret dX12_thrown_4 rfl (by decide) (by decide) ⟨rfl, rfl, rfl, rfl⟩
set_option maxHeartbeats 4000000 in
set_option maxRecDepth 100000 in
theorem m_close {x nx : Nat} {sh : bs_Sh} {mu : bs_Mm} (G : bs_Fr (bs_tM x) x sh mu) : bs_C mX12_close (bs_rm 0 0 0) [.ref x] nx sh mu (bs_an nx sh (.int 0)) := by
  have H := G.st
  refine bs_ct (by decide +kernel) (Nat.le_of_ble_eq_true rfl) ?_
  refine bs_aload_n dX12_close_0 rfl ?_
  refine bs_getI dX12_close_1 fX12_393 (H.s 0 rfl rfl rfl) ?_
  refine bs_topq (x' := 0) (G.i 0 45 rfl rfl rfl) ?_
  refine bs_istore_n dX12_close_4 rfl (by decide) ?_
  refine bs_aload_n dX12_close_5 rfl ?_
  refine bs_iconst (v := 0) dX12_close_6 (by decide) ?_
  refine bs_putI dX12_close_7 pX12_393 (H.s 0 rfl rfl rfl) ?_
  refine bs_aload_n dX12_close_10 rfl ?_
  refine bs_iconst (v := 0) dX12_close_11 (by decide) ?_
  refine bs_putI dX12_close_12 pX12_396 (H.s 0 rfl rfl rfl) ?_
  refine bs_iload_n dX12_close_15 rfl ?_
  exact bs_iret dX12_close_16 rfl (by decide) (by decide) ⟨rfl, rfl, rfl⟩
set_option maxHeartbeats 4000000 in
set_option maxRecDepth 100000 in
theorem m_pace {x nx : Nat} {sh : bs_Sh} {mu : bs_Mm} (G : bs_Fr (bs_tM x) x sh mu) (a b : Int32) : bs_C mX12_pace (bs_rm 9 0 0) [.ref x, .int a, .int b] nx sh mu (bs_an nx sh (.int (bs_pk a b))) := by
  have H := G.st
  refine bs_ct (by decide +kernel) (Nat.le_of_ble_eq_true rfl) ?_
  refine bs_iload_n dX12_pace_0 rfl ?_
  refine bs_iconst (v := 1) dX12_pace_1 (by decide) ?_
  refine bs_bipush (v := 9) dX12_pace_2 (by decide) ?_
  refine bs_callS dX12_pace_4 qX12_121 (m_in _ _ _) rfl rfl (Nat.le_of_ble_eq_true rfl) ⟨⟨by decide, by decide⟩, by decide, by decide⟩ (fun v1 nx1 sh1 mu1 hp1 => ?_)
  obtain ⟨rfl, rfl, rfl, rfl⟩ := hp1
  refine bs_if_eq (tgt := 20) dX12_pace_7 (by decide) (fun c7 => ?_) (fun c7 => ?_)
  · refine bs_iconst (v := 0) dX12_pace_20 (by decide) ?_
    exact bs_zret dX12_pace_21 rfl (Or.inl rfl) (by decide) (by decide) ⟨by rw [show bs_pk a b = 0 from bs_pk_a c7], rfl, rfl⟩
  · refine bs_iload_n dX12_pace_10 rfl ?_
    refine bs_iconst (v := 0) dX12_pace_11 (by decide) ?_
    refine bs_bipush (v := 9) dX12_pace_12 (by decide) ?_
    refine bs_callS dX12_pace_14 qX12_121 (m_in _ _ _) rfl rfl (Nat.le_of_ble_eq_true rfl) ⟨⟨by decide, by decide⟩, by decide, by decide⟩ (fun v1 nx1 sh1 mu1 hp1 => ?_)
    obtain ⟨rfl, rfl, rfl, rfl⟩ := hp1
    refine bs_if_ne (tgt := 22) dX12_pace_17 (by decide) (fun c17 => ?_) (fun c17 => ?_)
    · refine bs_aload_n dX12_pace_22 rfl ?_
      refine bs_iload_n dX12_pace_23 rfl ?_
      refine bs_putI dX12_pace_24 pX12_108 (H.s 0 rfl rfl rfl) ?_
      refine bs_aload_n dX12_pace_27 rfl ?_
      refine bs_iload_n dX12_pace_28 rfl ?_
      refine bs_putI dX12_pace_29 pX12_390 (H.s 0 rfl rfl rfl) ?_
      refine bs_iconst (v := 1) dX12_pace_32 (by decide) ?_
      exact bs_zret dX12_pace_33 rfl (Or.inr rfl) (by decide) (by decide) ⟨by rw [show bs_pk a b = 1 from bs_pk_1 c7 c17], rfl, rfl⟩
    · refine bs_iconst (v := 0) dX12_pace_20 (by decide) ?_
      exact bs_zret dX12_pace_21 rfl (Or.inl rfl) (by decide) (by decide) ⟨by rw [show bs_pk a b = 0 from bs_pk_b c17], rfl, rfl⟩
set_option maxHeartbeats 4000000 in
set_option maxRecDepth 100000 in
theorem m_count {x nx : Nat} {sh : bs_Sh} {mu : bs_Mm} (G : bs_Fr (bs_tM x) x sh mu) (a : Int32) : bs_C mX12_count (bs_rm 0 0 0) [.ref x, .int a] nx sh mu (bs_no nx sh mu (.int (bs_ck a))) := by
  have H := G.st
  refine bs_ct (by decide +kernel) (Nat.le_of_ble_eq_true rfl) ?_
  refine bs_iload_n dX12_count_0 rfl ?_
  by_cases hsw : (a).toInt < 0 ∨ 4 < (a).toInt
  · refine bs_tableOut (tgt := 61) dX12_count_1 hsw (by decide) ?_
    refine bs_iconst (v := (-1)) dX12_count_61 (by decide) ?_
    exact bs_iret dX12_count_62 rfl (by decide) (by decide) ⟨by rw [show bs_ck a = -1 from bs_ck_n hsw], rfl, rfl, rfl⟩
  · obtain ⟨jsw, hjsw, ejsw⟩ := bs_swi hsw (by decide)
    have hjc : jsw = 0 ∨ jsw = 1 ∨ jsw = 2 ∨ jsw = 3 ∨ jsw = 4 := by omega
    rcases hjc with rfl | rfl | rfl | rfl | rfl
    · refine bs_tableIn (off := 35) (tgt := 36) dX12_count_1 (fun h => hsw (Or.inl h)) (fun h => hsw (Or.inr h)) (by rw [ejsw]; rfl) (by decide) ?_
      refine bs_aload_n dX12_count_36 rfl ?_
      refine bs_getI dX12_count_37 fX12_125 (H.s 0 rfl rfl rfl) ?_
      refine bs_topq (x' := 0) (G.i 0 5 rfl rfl rfl) ?_
      exact bs_iret dX12_count_40 rfl (by decide) (by decide) ⟨by rw [show bs_ck a = 0 from bs_ck_0 hsw], rfl, rfl, rfl⟩
    · refine bs_tableIn (off := 40) (tgt := 41) dX12_count_1 (fun h => hsw (Or.inl h)) (fun h => hsw (Or.inr h)) (by rw [ejsw]; rfl) (by decide) ?_
      refine bs_aload_n dX12_count_41 rfl ?_
      refine bs_getI dX12_count_42 fX12_252 (H.s 0 rfl rfl rfl) ?_
      refine bs_topq (x' := 0) (G.i 0 20 rfl rfl rfl) ?_
      exact bs_iret dX12_count_45 rfl (by decide) (by decide) ⟨by rw [show bs_ck a = 0 from bs_ck_0 hsw], rfl, rfl, rfl⟩
    · refine bs_tableIn (off := 45) (tgt := 46) dX12_count_1 (fun h => hsw (Or.inl h)) (fun h => hsw (Or.inr h)) (by rw [ejsw]; rfl) (by decide) ?_
      refine bs_aload_n dX12_count_46 rfl ?_
      refine bs_getI dX12_count_47 fX12_393 (H.s 0 rfl rfl rfl) ?_
      refine bs_topq (x' := 0) (G.i 0 45 rfl rfl rfl) ?_
      exact bs_iret dX12_count_50 rfl (by decide) (by decide) ⟨by rw [show bs_ck a = 0 from bs_ck_0 hsw], rfl, rfl, rfl⟩
    · refine bs_tableIn (off := 50) (tgt := 51) dX12_count_1 (fun h => hsw (Or.inl h)) (fun h => hsw (Or.inr h)) (by rw [ejsw]; rfl) (by decide) ?_
      refine bs_aload_n dX12_count_51 rfl ?_
      refine bs_getI dX12_count_52 fX12_132 (H.s 0 rfl rfl rfl) ?_
      refine bs_topq (x' := 0) (G.i 0 7 rfl rfl rfl) ?_
      exact bs_iret dX12_count_55 rfl (by decide) (by decide) ⟨by rw [show bs_ck a = 0 from bs_ck_0 hsw], rfl, rfl, rfl⟩
    · refine bs_tableIn (off := 55) (tgt := 56) dX12_count_1 (fun h => hsw (Or.inl h)) (fun h => hsw (Or.inr h)) (by rw [ejsw]; rfl) (by decide) ?_
      refine bs_aload_n dX12_count_56 rfl ?_
      refine bs_getI dX12_count_57 fX12_255 (H.s 0 rfl rfl rfl) ?_
      refine bs_topq (x' := 0) (G.i 0 31 rfl rfl rfl) ?_
      exact bs_iret dX12_count_60 rfl (by decide) (by decide) ⟨by rw [show bs_ck a = 0 from bs_ck_0 hsw], rfl, rfl, rfl⟩
set_option maxHeartbeats 4000000 in
set_option maxRecDepth 100000 in
theorem m_end {x nx : Nat} {sh : bs_Sh} {mu : bs_Mm} (G : bs_Fr (bs_tM x) x sh mu) (a : Int32) : bs_C mX12_end (bs_rm 0 0 0) [.ref x, .int a] nx sh mu (bs_an nx sh (.int (bs_ek a))) := by
  have H := G.st
  refine bs_ct (by decide +kernel) (Nat.le_of_ble_eq_true rfl) ?_
  refine bs_iload_n dX12_end_0 rfl ?_
  refine bs_if_lt (tgt := 12) dX12_end_1 (by decide) (fun c1 => ?_) (fun c1 => ?_)
  · refine bs_iconst (v := 0) dX12_end_12 (by decide) ?_
    exact bs_zret dX12_end_13 rfl (Or.inl rfl) (by decide) (by decide) ⟨by rw [bs_ek_a c1], rfl, rfl⟩
  · refine bs_iload_n dX12_end_4 rfl ?_
    refine bs_aload_n dX12_end_5 rfl ?_
    refine bs_getI dX12_end_6 fX12_132 (H.s 0 rfl rfl rfl) ?_
    refine bs_topq (x' := 0) (G.i 0 7 rfl rfl rfl) ?_
    refine bs_icmp_le (tgt := 14) dX12_end_9 (by decide) (fun c9 => ?_) (fun c9 => ?_)
    · refine bs_aload_n dX12_end_14 rfl ?_
      refine bs_iload_n dX12_end_15 rfl ?_
      refine bs_putI dX12_end_16 pX12_132 (H.s 0 rfl rfl rfl) ?_
      refine bs_iconst (v := 1) dX12_end_19 (by decide) ?_
      exact bs_zret dX12_end_20 rfl (Or.inr rfl) (by decide) (by decide) ⟨by rw [bs_ek_1 c1 c9], rfl, rfl⟩
    · refine bs_iconst (v := 0) dX12_end_12 (by decide) ?_
      exact bs_zret dX12_end_13 rfl (Or.inl rfl) (by decide) (by decide) ⟨by rw [bs_ek_b c9], rfl, rfl⟩
