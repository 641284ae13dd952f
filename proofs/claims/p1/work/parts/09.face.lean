/-! STATES (own): the cells of a BalloonStall at x, of a model at x; what of them never changes -/
def bs_tS (x : Nat) : List bs_Ce := ((11, 15), bs_li0 (bs_gS x)) :: bs_cS x 12 6
/-- kinds, and the references laid by the constructor -/
def bs_St (T : List bs_Ce) (x : Nat) (sh : bs_Sh) (mu : bs_Mm) : Prop := ∀ i q, T[i]? = some q → sh (x + i) = q.1 ∧ ∀ k b, bs_rv (q.2 k) = some b → bs_rv (mu (x + i) k) = some b
/-- all as the constructor laid it -/
def bs_Fr (T : List bs_Ce) (x : Nat) (sh : bs_Sh) (mu : bs_Mm) : Prop := ∀ i q, T[i]? = some q → sh (x + i) = q.1 ∧ mu (x + i) = q.2
section BST
variable {T : List bs_Ce} {x a : Nat} {sh : bs_Sh} {mu : bs_Mm}
theorem bs_Fr.st (H : bs_Fr T x sh mu) : bs_St T x sh mu := fun i q hq => ⟨(H i q hq).1, fun k b hb => by rw [(H i q hq).2]; exact hb⟩
theorem bs_Fr.i (H : bs_Fr T x sh mu) (i k : Nat) {q : bs_Ce} {v : Int32} (hq : T[i]? = some q) (ha : a = x + i) (hv : bs_iv (q.2 k) = v) : bs_iv (mu a k) = v := by
  subst ha; rw [(H i q hq).2]; exact hv
theorem bs_St.s (H : bs_St T x sh mu) (i : Nat) {q : bs_Ce} {c : Nat} (hq : T[i]? = some q) (ha : a = x + i) (hc : q.1.1 = c) : (sh a).1 = c := by
  subst ha; rw [(H i q hq).1]; exact hc
theorem bs_St.ss (H : bs_St T x sh mu) (i : Nat) {q : bs_Ce} (hq : T[i]? = some q) (ha : a = x + i) : sh a = q.1 := by
  subst ha; exact (H i q hq).1
theorem bs_St.r (H : bs_St T x sh mu) (i k : Nat) {q : bs_Ce} {b : Nat} (hq : T[i]? = some q) (ha : a = x + i) (hb : bs_rv (q.2 k) = some b) : bs_rv (mu a k) = some b := by
  subst ha; exact (H i q hq).2 k b hb
theorem bs_Fr_of {h : Nat} {ob : Nat × Nat} {g : Nat → Value} {cells : List bs_Ce} {sh0 : bs_Sh} {mu0 : bs_Mm} (H : bs_cr1 h ob g cells sh mu sh0 mu0) : bs_Fr ((ob, g) :: cells) h sh mu := by
  intro i q hq
  cases i with
  | zero => cases hq; exact ⟨H.1, H.2.1⟩
  | succ i =>
    have := H.2.2.1 i q hq
    rw [show h + (i + 1) = h + 1 + i by omega]
    exact this
/-- another memory that is the same here -/
theorem bs_Fr.same (H : bs_Fr T x sh mu) {sh' : bs_Sh} {mu' : bs_Mm} (h : ∀ a, x ≤ a → a < x + T.length → sh' a = sh a ∧ mu' a = mu a) : bs_Fr T x sh' mu' := fun i q hq => by
  have hl := (List.getElem?_eq_some_iff.mp hq).1
  obtain ⟨e1, e2⟩ := h (x + i) (by omega) (by omega)
  rw [e1, e2]
  exact H i q hq
end BST
/-- an answer, and nothing else changed -/
def bs_no (nx : Nat) (sh : bs_Sh) (mu : bs_Mm) (v : Value) : bs_Po := fun r nx' sh' mu' => r = some v ∧ nx' = nx ∧ sh' = sh ∧ mu' = mu

set_option maxHeartbeats 4000000 in
set_option maxRecDepth 100000 in
theorem s_figN {x nx : Nat} {sh : bs_Sh} {mu : bs_Mm} (H : bs_St (bs_tS x) x sh mu) (hfc : bs_iv (mu x 13) = 0) (n : Int32) : bs_C mX11_figureAt (bs_rm 0 0 0) [.ref x, .int n] nx sh mu (bs_no nx sh mu (.null)) := by
  refine bs_ct (by decide +kernel) (Nat.le_of_ble_eq_true rfl) ?_
  refine bs_iload_n dX11_figureAt_0 rfl ?_
  refine bs_if_lt (tgt := 12) dX11_figureAt_1 (by decide) (fun c1 => ?_) (fun c1 => ?_)
  · refine bs_null dX11_figureAt_12 ?_
    refine bs_goto (tgt := 22) dX11_figureAt_13 (by decide) ?_
    exact bs_aret dX11_figureAt_22 rfl (Or.inl ⟨_, rfl⟩) (Or.inl rfl) (by decide) (by decide) ⟨rfl, rfl, rfl, rfl⟩
  · refine bs_iload_n dX11_figureAt_4 rfl ?_
    refine bs_aload_n dX11_figureAt_5 rfl ?_
    refine bs_getI dX11_figureAt_6 fX11_131 (H.s 0 rfl rfl rfl) ?_
    refine bs_topq (x' := 0) hfc ?_
    refine bs_icmp_lt (tgt := 16) dX11_figureAt_9 (by decide) (fun c9 => ?_) (fun c9 => ?_)
    · exact absurd c9 c1
    · refine bs_null dX11_figureAt_12 ?_
      refine bs_goto (tgt := 22) dX11_figureAt_13 (by decide) ?_
      exact bs_aret dX11_figureAt_22 rfl (Or.inl ⟨_, rfl⟩) (Or.inl rfl) (by decide) (by decide) ⟨rfl, rfl, rfl, rfl⟩
set_option maxHeartbeats 4000000 in
set_option maxRecDepth 100000 in
theorem s_rulN {x nx : Nat} {sh : bs_Sh} {mu : bs_Mm} (H : bs_St (bs_tS x) x sh mu) (hrc : bs_iv (mu x 14) = 0) (n : Int32) : bs_C mX11_ruleAt (bs_rm 0 0 0) [.ref x, .int n] nx sh mu (bs_no nx sh mu (.null)) := by
  refine bs_ct (by decide +kernel) (Nat.le_of_ble_eq_true rfl) ?_
  refine bs_iload_n dX11_ruleAt_0 rfl ?_
  refine bs_if_lt (tgt := 12) dX11_ruleAt_1 (by decide) (fun c1 => ?_) (fun c1 => ?_)
  · refine bs_null dX11_ruleAt_12 ?_
    refine bs_goto (tgt := 22) dX11_ruleAt_13 (by decide) ?_
    exact bs_aret dX11_ruleAt_22 rfl (Or.inl ⟨_, rfl⟩) (Or.inl rfl) (by decide) (by decide) ⟨rfl, rfl, rfl, rfl⟩
  · refine bs_iload_n dX11_ruleAt_4 rfl ?_
    refine bs_aload_n dX11_ruleAt_5 rfl ?_
    refine bs_getI dX11_ruleAt_6 fX11_134 (H.s 0 rfl rfl rfl) ?_
    refine bs_topq (x' := 0) hrc ?_
    refine bs_icmp_lt (tgt := 16) dX11_ruleAt_9 (by decide) (fun c9 => ?_) (fun c9 => ?_)
    · exact absurd c9 c1
    · refine bs_null dX11_ruleAt_12 ?_
      refine bs_goto (tgt := 22) dX11_ruleAt_13 (by decide) ?_
      exact bs_aret dX11_ruleAt_22 rfl (Or.inl ⟨_, rfl⟩) (Or.inl rfl) (by decide) (by decide) ⟨rfl, rfl, rfl, rfl⟩
set_option maxHeartbeats 4000000 in
set_option maxRecDepth 100000 in
theorem s_freeN {x nx : Nat} {sh : bs_Sh} {mu : bs_Mm} (H : bs_St (bs_tS x) x sh mu) (hfc : bs_iv (mu x 13) = 0) : bs_C mX11_freeFigure (bs_rm 0 0 0) [.ref x] nx sh mu (bs_no nx sh mu (.ref (x + 63))) := by
  refine bs_ct (by decide +kernel) (Nat.le_of_ble_eq_true rfl) ?_
  refine bs_aload_n dX11_freeFigure_0 rfl ?_
  refine bs_getI dX11_freeFigure_1 fX11_131 (H.s 0 rfl rfl rfl) ?_
  refine bs_topq (x' := 0) hfc ?_
  refine bs_bipush (v := 12) dX11_freeFigure_4 (by decide) ?_
  refine bs_icmp_ge (tgt := 21) dX11_freeFigure_6 (by decide) (fun c6 => ?_) (fun c6 => ?_)
  · exact absurd c6 (by decide)
  · refine bs_aload_n dX11_freeFigure_9 rfl ?_
    refine bs_getR dX11_freeFigure_10 fX11_25 (H.s 0 rfl rfl rfl) (H.r 0 2 rfl rfl rfl) ?_
    refine bs_aload_n dX11_freeFigure_13 rfl ?_
    refine bs_getI dX11_freeFigure_14 fX11_131 (H.s 0 rfl rfl rfl) ?_
    refine bs_topq (x' := 0) hfc ?_
    refine bs_aaldR (n := 12) dX11_freeFigure_17 (H.ss 7 rfl rfl) (Or.inl rfl) (j := 0) (bs_ix_n (by decide) (by decide)) (H.r 7 0 rfl rfl rfl) ?_
    refine bs_goto (tgt := 22) dX11_freeFigure_18 (by decide) ?_
    exact bs_aret dX11_freeFigure_22 rfl (Or.inl ⟨_, rfl⟩) (Or.inr ⟨_, rfl⟩) (by decide) (by decide) ⟨rfl, rfl, rfl, rfl⟩
set_option maxHeartbeats 4000000 in
set_option maxRecDepth 100000 in
theorem s_mayN {nx : Nat} {sh : bs_Sh} {mu : bs_Mm} : bs_C mX4_mayCompare (bs_rm 0 0 0) [.null] nx sh mu (bs_no nx sh mu (.int 0)) := by
  refine bs_ct (by decide +kernel) (Nat.le_of_ble_eq_true rfl) ?_
  refine bs_aloadN_n dX4_mayCompare_0 rfl ?_
  refine bs_ifnullN (tgt := 17) dX4_mayCompare_1 (by decide) ?_
  refine bs_iconst (v := 0) dX4_mayCompare_17 (by decide) ?_
  exact bs_zret dX4_mayCompare_18 rfl (Or.inl rfl) (by decide) (by decide) ⟨rfl, rfl, rfl, rfl⟩
set_option maxHeartbeats 4000000 in
set_option maxRecDepth 100000 in
theorem p_many {x nx : Nat} {sh : bs_Sh} {mu : bs_Mm} (H : bs_St (bs_tS x) x sh mu) (hfc : bs_iv (mu x 13) = 0) (a b : Int32) : bs_C mX11_many (bs_rm 10 0 0) [.ref x, .int a, .int b] nx sh mu (bs_no nx sh mu (.int (-1))) := by
  refine bs_ct (by decide +kernel) (Nat.le_of_ble_eq_true rfl) ?_
  refine bs_aload_n dX11_many_0 rfl ?_
  refine bs_iload_n dX11_many_1 rfl ?_
  refine bs_callV dX11_many_2 qX11_143 (s_figN H hfc _) rfl (H.s 0 rfl rfl rfl) rfl (Nat.le_of_ble_eq_true rfl) ⟨⟨by decide, by decide⟩, by decide, by decide⟩ (fun v1 nx1 sh1 mu1 hp1 => ?_)
  obtain ⟨rfl, rfl, rfl, rfl⟩ := hp1
  refine bs_astoreN_n dX11_many_5 rfl (by decide) ?_
  refine bs_aloadN_n dX11_many_6 rfl ?_
  refine bs_ifnonnullN dX11_many_7 ?_
  refine bs_iconst (v := (-1)) dX11_many_10 (by decide) ?_
  exact bs_iret dX11_many_11 rfl (by decide) (by decide) ⟨rfl, rfl, rfl, rfl⟩
set_option maxHeartbeats 4000000 in
set_option maxRecDepth 100000 in
theorem p_ends {x nx : Nat} {sh : bs_Sh} {mu : bs_Mm} (H : bs_St (bs_tS x) x sh mu) (hfc : bs_iv (mu x 13) = 0) (a b : Int32) : bs_C mX11_ends (bs_rm 10 0 0) [.ref x, .int a, .int b] nx sh mu (bs_no nx sh mu (.int (-1))) := by
  refine bs_ct (by decide +kernel) (Nat.le_of_ble_eq_true rfl) ?_
  refine bs_aload_n dX11_ends_0 rfl ?_
  refine bs_iload_n dX11_ends_1 rfl ?_
  refine bs_callV dX11_ends_2 qX11_143 (s_figN H hfc _) rfl (H.s 0 rfl rfl rfl) rfl (Nat.le_of_ble_eq_true rfl) ⟨⟨by decide, by decide⟩, by decide, by decide⟩ (fun v1 nx1 sh1 mu1 hp1 => ?_)
  obtain ⟨rfl, rfl, rfl, rfl⟩ := hp1
  refine bs_astoreN_n dX11_ends_5 rfl (by decide) ?_
  refine bs_aloadN_n dX11_ends_6 rfl ?_
  refine bs_ifnullN (tgt := 18) dX11_ends_7 (by decide) ?_
  refine bs_iconst (v := (-1)) dX11_ends_18 (by decide) ?_
  refine bs_goto (tgt := 28) dX11_ends_19 (by decide) ?_
  exact bs_iret dX11_ends_28 rfl (by decide) (by decide) ⟨rfl, rfl, rfl, rfl⟩
set_option maxHeartbeats 4000000 in
set_option maxRecDepth 100000 in
theorem p_bursts {x nx : Nat} {sh : bs_Sh} {mu : bs_Mm} (H : bs_St (bs_tS x) x sh mu) (hfc : bs_iv (mu x 13) = 0) (a b : Int32) : bs_C mX11_bursts (bs_rm 10 0 0) [.ref x, .int a, .int b] nx sh mu (bs_no nx sh mu (.int (-1))) := by
  refine bs_ct (by decide +kernel) (Nat.le_of_ble_eq_true rfl) ?_
  refine bs_aload_n dX11_bursts_0 rfl ?_
  refine bs_iload_n dX11_bursts_1 rfl ?_
  refine bs_callV dX11_bursts_2 qX11_143 (s_figN H hfc _) rfl (H.s 0 rfl rfl rfl) rfl (Nat.le_of_ble_eq_true rfl) ⟨⟨by decide, by decide⟩, by decide, by decide⟩ (fun v1 nx1 sh1 mu1 hp1 => ?_)
  obtain ⟨rfl, rfl, rfl, rfl⟩ := hp1
  refine bs_astoreN_n dX11_bursts_5 rfl (by decide) ?_
  refine bs_aloadN_n dX11_bursts_6 rfl ?_
  refine bs_ifnullN (tgt := 18) dX11_bursts_7 (by decide) ?_
  refine bs_iconst (v := (-1)) dX11_bursts_18 (by decide) ?_
  exact bs_iret dX11_bursts_19 rfl (by decide) (by decide) ⟨rfl, rfl, rfl, rfl⟩
set_option maxHeartbeats 4000000 in
set_option maxRecDepth 100000 in
theorem p_rest {x nx : Nat} {sh : bs_Sh} {mu : bs_Mm} (H : bs_St (bs_tS x) x sh mu) (hfc : bs_iv (mu x 13) = 0) (a b : Int32) : bs_C mX11_rest (bs_rm 10 0 0) [.ref x, .int a, .int b] nx sh mu (bs_no nx sh mu (.int (-1))) := by
  refine bs_ct (by decide +kernel) (Nat.le_of_ble_eq_true rfl) ?_
  refine bs_aload_n dX11_rest_0 rfl ?_
  refine bs_iload_n dX11_rest_1 rfl ?_
  refine bs_callV dX11_rest_2 qX11_143 (s_figN H hfc _) rfl (H.s 0 rfl rfl rfl) rfl (Nat.le_of_ble_eq_true rfl) ⟨⟨by decide, by decide⟩, by decide, by decide⟩ (fun v1 nx1 sh1 mu1 hp1 => ?_)
  obtain ⟨rfl, rfl, rfl, rfl⟩ := hp1
  refine bs_astoreN_n dX11_rest_5 rfl (by decide) ?_
  refine bs_aloadN_n dX11_rest_6 rfl ?_
  refine bs_ifnullN (tgt := 18) dX11_rest_7 (by decide) ?_
  refine bs_iconst (v := (-1)) dX11_rest_18 (by decide) ?_
  exact bs_iret dX11_rest_19 rfl (by decide) (by decide) ⟨rfl, rfl, rfl, rfl⟩
set_option maxHeartbeats 4000000 in
set_option maxRecDepth 100000 in
theorem p_holds {x nx : Nat} {sh : bs_Sh} {mu : bs_Mm} (H : bs_St (bs_tS x) x sh mu) (hfc : bs_iv (mu x 13) = 0) (a b : Int32) : bs_C mX11_holds (bs_rm 10 0 0) [.ref x, .int a, .int b] nx sh mu (bs_no nx sh mu (.int (-1))) := by
  refine bs_ct (by decide +kernel) (Nat.le_of_ble_eq_true rfl) ?_
  refine bs_aload_n dX11_holds_0 rfl ?_
  refine bs_iload_n dX11_holds_1 rfl ?_
  refine bs_callV dX11_holds_2 qX11_143 (s_figN H hfc _) rfl (H.s 0 rfl rfl rfl) rfl (Nat.le_of_ble_eq_true rfl) ⟨⟨by decide, by decide⟩, by decide, by decide⟩ (fun v1 nx1 sh1 mu1 hp1 => ?_)
  obtain ⟨rfl, rfl, rfl, rfl⟩ := hp1
  refine bs_astoreN_n dX11_holds_5 rfl (by decide) ?_
  refine bs_aloadN_n dX11_holds_6 rfl ?_
  refine bs_ifnullN (tgt := 26) dX11_holds_7 (by decide) ?_
  refine bs_iconst (v := (-1)) dX11_holds_26 (by decide) ?_
  exact bs_iret dX11_holds_27 rfl (by decide) (by decide) ⟨rfl, rfl, rfl, rfl⟩
set_option maxHeartbeats 4000000 in
set_option maxRecDepth 100000 in
theorem p_hands {x nx : Nat} {sh : bs_Sh} {mu : bs_Mm} (H : bs_St (bs_tS x) x sh mu) (hfc : bs_iv (mu x 13) = 0) (a : Int32) : bs_C mX11_hands (bs_rm 10 0 0) [.ref x, .int a] nx sh mu (bs_no nx sh mu (.int (-1))) := by
  refine bs_ct (by decide +kernel) (Nat.le_of_ble_eq_true rfl) ?_
  refine bs_aload_n dX11_hands_0 rfl ?_
  refine bs_iload_n dX11_hands_1 rfl ?_
  refine bs_callV dX11_hands_2 qX11_143 (s_figN H hfc _) rfl (H.s 0 rfl rfl rfl) rfl (Nat.le_of_ble_eq_true rfl) ⟨⟨by decide, by decide⟩, by decide, by decide⟩ (fun v1 nx1 sh1 mu1 hp1 => ?_)
  obtain ⟨rfl, rfl, rfl, rfl⟩ := hp1
  refine bs_astoreN_n dX11_hands_5 rfl (by decide) ?_
  refine bs_aloadN_n dX11_hands_6 rfl ?_
  refine bs_ifnonnullN dX11_hands_7 ?_
  refine bs_iconst (v := (-1)) dX11_hands_10 (by decide) ?_
  refine bs_goto (tgt := 18) dX11_hands_11 (by decide) ?_
  exact bs_iret dX11_hands_18 rfl (by decide) (by decide) ⟨rfl, rfl, rfl, rfl⟩
set_option maxHeartbeats 4000000 in
set_option maxRecDepth 100000 in
theorem p_weakest {x nx : Nat} {sh : bs_Sh} {mu : bs_Mm} (H : bs_St (bs_tS x) x sh mu) (hfc : bs_iv (mu x 13) = 0) (a : Int32) : bs_C mX11_weakest (bs_rm 10 0 0) [.ref x, .int a] nx sh mu (bs_no nx sh mu (.int (-1))) := by
  refine bs_ct (by decide +kernel) (Nat.le_of_ble_eq_true rfl) ?_
  refine bs_aload_n dX11_weakest_0 rfl ?_
  refine bs_iload_n dX11_weakest_1 rfl ?_
  refine bs_callV dX11_weakest_2 qX11_143 (s_figN H hfc _) rfl (H.s 0 rfl rfl rfl) rfl (Nat.le_of_ble_eq_true rfl) ⟨⟨by decide, by decide⟩, by decide, by decide⟩ (fun v1 nx1 sh1 mu1 hp1 => ?_)
  obtain ⟨rfl, rfl, rfl, rfl⟩ := hp1
  refine bs_astoreN_n dX11_weakest_5 rfl (by decide) ?_
  refine bs_aloadN_n dX11_weakest_6 rfl ?_
  refine bs_ifnonnullN dX11_weakest_7 ?_
  refine bs_iconst (v := (-1)) dX11_weakest_10 (by decide) ?_
  refine bs_goto (tgt := 22) dX11_weakest_11 (by decide) ?_
  exact bs_iret dX11_weakest_22 rfl (by decide) (by decide) ⟨rfl, rfl, rfl, rfl⟩
set_option maxHeartbeats 4000000 in
set_option maxRecDepth 100000 in
theorem p_span {x nx : Nat} {sh : bs_Sh} {mu : bs_Mm} (H : bs_St (bs_tS x) x sh mu) (hfc : bs_iv (mu x 13) = 0) (a : Int32) : bs_C mX11_span (bs_rm 10 0 0) [.ref x, .int a] nx sh mu (bs_no nx sh mu (.int (-1))) := by
  refine bs_ct (by decide +kernel) (Nat.le_of_ble_eq_true rfl) ?_
  refine bs_aload_n dX11_span_0 rfl ?_
  refine bs_iload_n dX11_span_1 rfl ?_
  refine bs_callV dX11_span_2 qX11_143 (s_figN H hfc _) rfl (H.s 0 rfl rfl rfl) rfl (Nat.le_of_ble_eq_true rfl) ⟨⟨by decide, by decide⟩, by decide, by decide⟩ (fun v1 nx1 sh1 mu1 hp1 => ?_)
  obtain ⟨rfl, rfl, rfl, rfl⟩ := hp1
  refine bs_astoreN_n dX11_span_5 rfl (by decide) ?_
  refine bs_aloadN_n dX11_span_6 rfl ?_
  refine bs_ifnonnullN dX11_span_7 ?_
  refine bs_iconst (v := (-1)) dX11_span_10 (by decide) ?_
  refine bs_goto (tgt := 22) dX11_span_11 (by decide) ?_
  exact bs_iret dX11_span_22 rfl (by decide) (by decide) ⟨rfl, rfl, rfl, rfl⟩
set_option maxHeartbeats 4000000 in
set_option maxRecDepth 100000 in
theorem p_strokes {x nx : Nat} {sh : bs_Sh} {mu : bs_Mm} (H : bs_St (bs_tS x) x sh mu) (hfc : bs_iv (mu x 13) = 0) (a : Int32) : bs_C mX11_strokes (bs_rm 10 0 0) [.ref x, .int a] nx sh mu (bs_no nx sh mu (.int (-1))) := by
  refine bs_ct (by decide +kernel) (Nat.le_of_ble_eq_true rfl) ?_
  refine bs_aload_n dX11_strokes_0 rfl ?_
  refine bs_iload_n dX11_strokes_1 rfl ?_
  refine bs_callV dX11_strokes_2 qX11_143 (s_figN H hfc _) rfl (H.s 0 rfl rfl rfl) rfl (Nat.le_of_ble_eq_true rfl) ⟨⟨by decide, by decide⟩, by decide, by decide⟩ (fun v1 nx1 sh1 mu1 hp1 => ?_)
  obtain ⟨rfl, rfl, rfl, rfl⟩ := hp1
  refine bs_astoreN_n dX11_strokes_5 rfl (by decide) ?_
  refine bs_aloadN_n dX11_strokes_6 rfl ?_
  refine bs_ifnonnullN dX11_strokes_7 ?_
  refine bs_iconst (v := (-1)) dX11_strokes_10 (by decide) ?_
  refine bs_goto (tgt := 22) dX11_strokes_11 (by decide) ?_
  exact bs_iret dX11_strokes_22 rfl (by decide) (by decide) ⟨rfl, rfl, rfl, rfl⟩
set_option maxHeartbeats 4000000 in
set_option maxRecDepth 100000 in
theorem p_twice {x nx : Nat} {sh : bs_Sh} {mu : bs_Mm} (H : bs_St (bs_tS x) x sh mu) (hfc : bs_iv (mu x 13) = 0) (a : Int32) : bs_C mX11_twice (bs_rm 10 0 0) [.ref x, .int a] nx sh mu (bs_no nx sh mu (.int (-1))) := by
  refine bs_ct (by decide +kernel) (Nat.le_of_ble_eq_true rfl) ?_
  refine bs_aload_n dX11_twice_0 rfl ?_
  refine bs_iload_n dX11_twice_1 rfl ?_
  refine bs_callV dX11_twice_2 qX11_143 (s_figN H hfc _) rfl (H.s 0 rfl rfl rfl) rfl (Nat.le_of_ble_eq_true rfl) ⟨⟨by decide, by decide⟩, by decide, by decide⟩ (fun v1 nx1 sh1 mu1 hp1 => ?_)
  obtain ⟨rfl, rfl, rfl, rfl⟩ := hp1
  refine bs_astoreN_n dX11_twice_5 rfl (by decide) ?_
  refine bs_aloadN_n dX11_twice_6 rfl ?_
  refine bs_ifnonnullN dX11_twice_7 ?_
  refine bs_iconst (v := (-1)) dX11_twice_10 (by decide) ?_
  refine bs_goto (tgt := 22) dX11_twice_11 (by decide) ?_
  exact bs_iret dX11_twice_22 rfl (by decide) (by decide) ⟨rfl, rfl, rfl, rfl⟩
set_option maxHeartbeats 4000000 in
set_option maxRecDepth 100000 in
theorem p_pop {x nx : Nat} {sh : bs_Sh} {mu : bs_Mm} (H : bs_St (bs_tS x) x sh mu) (hfc : bs_iv (mu x 13) = 0) (a b e : Int32) : bs_C mX11_pop (bs_rm 10 0 0) [.ref x, .int a, .int b, .int e] nx sh mu (bs_no nx sh mu (.int (-1))) := by
  refine bs_ct (by decide +kernel) (Nat.le_of_ble_eq_true rfl) ?_
  refine bs_aload_n dX11_pop_0 rfl ?_
  refine bs_iload_n dX11_pop_1 rfl ?_
  refine bs_callV dX11_pop_2 qX11_143 (s_figN H hfc _) rfl (H.s 0 rfl rfl rfl) rfl (Nat.le_of_ble_eq_true rfl) ⟨⟨by decide, by decide⟩, by decide, by decide⟩ (fun v1 nx1 sh1 mu1 hp1 => ?_)
  obtain ⟨rfl, rfl, rfl, rfl⟩ := hp1
  refine bs_astoreN dX11_pop_5 rfl (by decide) ?_
  refine bs_aloadN dX11_pop_7 rfl ?_
  refine bs_ifnullN (tgt := 21) dX11_pop_9 (by decide) ?_
  refine bs_iconst (v := (-1)) dX11_pop_21 (by decide) ?_
  exact bs_iret dX11_pop_22 rfl (by decide) (by decide) ⟨rfl, rfl, rfl, rfl⟩
set_option maxHeartbeats 4000000 in
set_option maxRecDepth 100000 in
theorem p_far {x nx : Nat} {sh : bs_Sh} {mu : bs_Mm} (H : bs_St (bs_tS x) x sh mu) (hfc : bs_iv (mu x 13) = 0) (a b e : Int32) : bs_C mX11_far (bs_rm 10 0 0) [.ref x, .int a, .int b, .int e] nx sh mu (bs_no nx sh mu (.int (-1))) := by
  refine bs_ct (by decide +kernel) (Nat.le_of_ble_eq_true rfl) ?_
  refine bs_aload_n dX11_far_0 rfl ?_
  refine bs_iload_n dX11_far_1 rfl ?_
  refine bs_callV dX11_far_2 qX11_143 (s_figN H hfc _) rfl (H.s 0 rfl rfl rfl) rfl (Nat.le_of_ble_eq_true rfl) ⟨⟨by decide, by decide⟩, by decide, by decide⟩ (fun v1 nx1 sh1 mu1 hp1 => ?_)
  obtain ⟨rfl, rfl, rfl, rfl⟩ := hp1
  refine bs_astoreN dX11_far_5 rfl (by decide) ?_
  refine bs_aloadN dX11_far_7 rfl ?_
  refine bs_ifnullN (tgt := 30) dX11_far_9 (by decide) ?_
  refine bs_iconst (v := (-1)) dX11_far_30 (by decide) ?_
  exact bs_iret dX11_far_31 rfl (by decide) (by decide) ⟨rfl, rfl, rfl, rfl⟩
set_option maxHeartbeats 4000000 in
set_option maxRecDepth 100000 in
theorem p_made {x nx : Nat} {sh : bs_Sh} {mu : bs_Mm} (H : bs_St (bs_tS x) x sh mu) (hfc : bs_iv (mu x 13) = 0) (a b : Int32) : bs_C mX11_made (bs_rm 10 0 0) [.ref x, .int a, .int b] nx sh mu (bs_no nx sh mu (.int (-1))) := by
  refine bs_ct (by decide +kernel) (Nat.le_of_ble_eq_true rfl) ?_
  refine bs_aload_n dX11_made_0 rfl ?_
  refine bs_iload_n dX11_made_1 rfl ?_
  refine bs_callV dX11_made_2 qX11_143 (s_figN H hfc _) rfl (H.s 0 rfl rfl rfl) rfl (Nat.le_of_ble_eq_true rfl) ⟨⟨by decide, by decide⟩, by decide, by decide⟩ (fun v1 nx1 sh1 mu1 hp1 => ?_)
  obtain ⟨rfl, rfl, rfl, rfl⟩ := hp1
  refine bs_astoreN_n dX11_made_5 rfl (by decide) ?_
  refine bs_aloadN_n dX11_made_6 rfl ?_
  refine bs_ifnullN (tgt := 30) dX11_made_7 (by decide) ?_
  refine bs_iconst (v := (-1)) dX11_made_30 (by decide) ?_
  exact bs_iret dX11_made_31 rfl (by decide) (by decide) ⟨rfl, rfl, rfl, rfl⟩
set_option maxHeartbeats 4000000 in
set_option maxRecDepth 100000 in
theorem p_plain {x nx : Nat} {sh : bs_Sh} {mu : bs_Mm} (H : bs_St (bs_tS x) x sh mu) (hfc : bs_iv (mu x 13) = 0) (a : Int32) : bs_C mX11_plain (bs_rm 10 0 0) [.ref x, .int a] nx sh mu (bs_no nx sh mu (.int (-1))) := by
  refine bs_ct (by decide +kernel) (Nat.le_of_ble_eq_true rfl) ?_
  refine bs_aload_n dX11_plain_0 rfl ?_
  refine bs_iload_n dX11_plain_1 rfl ?_
  refine bs_callV dX11_plain_2 qX11_143 (s_figN H hfc _) rfl (H.s 0 rfl rfl rfl) rfl (Nat.le_of_ble_eq_true rfl) ⟨⟨by decide, by decide⟩, by decide, by decide⟩ (fun v1 nx1 sh1 mu1 hp1 => ?_)
  obtain ⟨rfl, rfl, rfl, rfl⟩ := hp1
  refine bs_astoreN_n dX11_plain_5 rfl (by decide) ?_
  refine bs_aload_n dX11_plain_6 rfl ?_
  refine bs_callV dX11_plain_7 qX11_119 (s_freeN H hfc) rfl (H.s 0 rfl rfl rfl) rfl (Nat.le_of_ble_eq_true rfl) ⟨⟨by decide, by decide⟩, by decide, by decide⟩ (fun v1 nx1 sh1 mu1 hp1 => ?_)
  obtain ⟨rfl, rfl, rfl, rfl⟩ := hp1
  refine bs_astore_n dX11_plain_10 rfl (by decide) ?_
  refine bs_aloadN_n dX11_plain_11 rfl ?_
  refine bs_ifnullN (tgt := 19) dX11_plain_12 (by decide) ?_
  refine bs_iconst (v := (-1)) dX11_plain_19 (by decide) ?_
  exact bs_iret dX11_plain_20 rfl (by decide) (by decide) ⟨rfl, rfl, rfl, rfl⟩
set_option maxHeartbeats 4000000 in
set_option maxRecDepth 100000 in
theorem p_add {x nx : Nat} {sh : bs_Sh} {mu : bs_Mm} (H : bs_St (bs_tS x) x sh mu) (hfc : bs_iv (mu x 13) = 0) (a b e f : Int32) : bs_C mX11_add (bs_rm 10 0 0) [.ref x, .int a, .int b, .int e, .int f] nx sh mu (bs_no nx sh mu (.int (-1))) := by
  refine bs_ct (by decide +kernel) (Nat.le_of_ble_eq_true rfl) ?_
  refine bs_aload_n dX11_add_0 rfl ?_
  refine bs_iload_n dX11_add_1 rfl ?_
  refine bs_callV dX11_add_2 qX11_143 (s_figN H hfc _) rfl (H.s 0 rfl rfl rfl) rfl (Nat.le_of_ble_eq_true rfl) ⟨⟨by decide, by decide⟩, by decide, by decide⟩ (fun v1 nx1 sh1 mu1 hp1 => ?_)
  obtain ⟨rfl, rfl, rfl, rfl⟩ := hp1
  refine bs_astoreN dX11_add_5 rfl (by decide) ?_
  refine bs_aload_n dX11_add_7 rfl ?_
  refine bs_iload_n dX11_add_8 rfl ?_
  refine bs_callV dX11_add_9 qX11_143 (s_figN H hfc _) rfl (H.s 0 rfl rfl rfl) rfl (Nat.le_of_ble_eq_true rfl) ⟨⟨by decide, by decide⟩, by decide, by decide⟩ (fun v1 nx1 sh1 mu1 hp1 => ?_)
  obtain ⟨rfl, rfl, rfl, rfl⟩ := hp1
  refine bs_astoreN dX11_add_12 rfl (by decide) ?_
  refine bs_aload_n dX11_add_14 rfl ?_
  refine bs_callV dX11_add_15 qX11_119 (s_freeN H hfc) rfl (H.s 0 rfl rfl rfl) rfl (Nat.le_of_ble_eq_true rfl) ⟨⟨by decide, by decide⟩, by decide, by decide⟩ (fun v1 nx1 sh1 mu1 hp1 => ?_)
  obtain ⟨rfl, rfl, rfl, rfl⟩ := hp1
  refine bs_astore dX11_add_18 rfl (by decide) ?_
  refine bs_aloadN dX11_add_20 rfl ?_
  refine bs_ifnullN (tgt := 54) dX11_add_22 (by decide) ?_
  refine bs_iconst (v := (-1)) dX11_add_54 (by decide) ?_
  exact bs_iret dX11_add_55 rfl (by decide) (by decide) ⟨rfl, rfl, rfl, rfl⟩
set_option maxHeartbeats 4000000 in
set_option maxRecDepth 100000 in
theorem p_alike {x nx : Nat} {sh : bs_Sh} {mu : bs_Mm} (H : bs_St (bs_tS x) x sh mu) (hfc : bs_iv (mu x 13) = 0) (a b : Int32) : bs_C mX11_alike (bs_rm 10 0 0) [.ref x, .int a, .int b] nx sh mu (bs_no nx sh mu (.int (-1))) := by
  refine bs_ct (by decide +kernel) (Nat.le_of_ble_eq_true rfl) ?_
  refine bs_aload_n dX11_alike_0 rfl ?_
  refine bs_iload_n dX11_alike_1 rfl ?_
  refine bs_callV dX11_alike_2 qX11_143 (s_figN H hfc _) rfl (H.s 0 rfl rfl rfl) rfl (Nat.le_of_ble_eq_true rfl) ⟨⟨by decide, by decide⟩, by decide, by decide⟩ (fun v1 nx1 sh1 mu1 hp1 => ?_)
  obtain ⟨rfl, rfl, rfl, rfl⟩ := hp1
  refine bs_astoreN_n dX11_alike_5 rfl (by decide) ?_
  refine bs_aload_n dX11_alike_6 rfl ?_
  refine bs_iload_n dX11_alike_7 rfl ?_
  refine bs_callV dX11_alike_8 qX11_143 (s_figN H hfc _) rfl (H.s 0 rfl rfl rfl) rfl (Nat.le_of_ble_eq_true rfl) ⟨⟨by decide, by decide⟩, by decide, by decide⟩ (fun v1 nx1 sh1 mu1 hp1 => ?_)
  obtain ⟨rfl, rfl, rfl, rfl⟩ := hp1
  refine bs_astoreN dX11_alike_11 rfl (by decide) ?_
  refine bs_aloadN_n dX11_alike_13 rfl ?_
  refine bs_callS dX11_alike_14 qX11_253 (s_mayN) rfl rfl (Nat.le_of_ble_eq_true rfl) ⟨⟨by decide, by decide⟩, by decide, by decide⟩ (fun v1 nx1 sh1 mu1 hp1 => ?_)
  obtain ⟨rfl, rfl, rfl, rfl⟩ := hp1
  refine bs_if_eq (tgt := 28) dX11_alike_17 (by decide) (fun c17 => ?_) (fun c17 => ?_)
  · refine bs_iconst (v := (-1)) dX11_alike_28 (by decide) ?_
    exact bs_iret dX11_alike_29 rfl (by decide) (by decide) ⟨rfl, rfl, rfl, rfl⟩
  · exact absurd rfl c17
set_option maxHeartbeats 4000000 in
set_option maxRecDepth 100000 in
theorem p_match {x nx : Nat} {sh : bs_Sh} {mu : bs_Mm} (H : bs_St (bs_tS x) x sh mu) (hfc : bs_iv (mu x 13) = 0) (a b e : Int32) : bs_C mX11_match (bs_rm 10 0 0) [.ref x, .int a, .int b, .int e] nx sh mu (bs_no nx sh mu (.int (-1))) := by
  refine bs_ct (by decide +kernel) (Nat.le_of_ble_eq_true rfl) ?_
  refine bs_aload_n dX11_match_0 rfl ?_
  refine bs_iload_n dX11_match_1 rfl ?_
  refine bs_callV dX11_match_2 qX11_143 (s_figN H hfc _) rfl (H.s 0 rfl rfl rfl) rfl (Nat.le_of_ble_eq_true rfl) ⟨⟨by decide, by decide⟩, by decide, by decide⟩ (fun v1 nx1 sh1 mu1 hp1 => ?_)
  obtain ⟨rfl, rfl, rfl, rfl⟩ := hp1
  refine bs_astoreN dX11_match_5 rfl (by decide) ?_
  refine bs_aload_n dX11_match_7 rfl ?_
  refine bs_iload_n dX11_match_8 rfl ?_
  refine bs_callV dX11_match_9 qX11_143 (s_figN H hfc _) rfl (H.s 0 rfl rfl rfl) rfl (Nat.le_of_ble_eq_true rfl) ⟨⟨by decide, by decide⟩, by decide, by decide⟩ (fun v1 nx1 sh1 mu1 hp1 => ?_)
  obtain ⟨rfl, rfl, rfl, rfl⟩ := hp1
  refine bs_astoreN dX11_match_12 rfl (by decide) ?_
  refine bs_aloadN dX11_match_14 rfl ?_
  refine bs_callS dX11_match_16 qX11_253 (s_mayN) rfl rfl (Nat.le_of_ble_eq_true rfl) ⟨⟨by decide, by decide⟩, by decide, by decide⟩ (fun v1 nx1 sh1 mu1 hp1 => ?_)
  obtain ⟨rfl, rfl, rfl, rfl⟩ := hp1
  refine bs_if_eq (tgt := 39) dX11_match_19 (by decide) (fun c19 => ?_) (fun c19 => ?_)
  · refine bs_iconst (v := (-1)) dX11_match_39 (by decide) ?_
    exact bs_iret dX11_match_40 rfl (by decide) (by decide) ⟨rfl, rfl, rfl, rfl⟩
  · exact absurd rfl c19
theorem bs_m1 {x : Int32} (h : x < -1) : x < 0 := by
  rw [Int32.lt_iff_toInt_lt] at h ⊢
  have : (-1 : Int32).toInt = -1 := by decide
  have h0 : (0 : Int32).toInt = 0 := by decide
  omega
set_option maxHeartbeats 4000000 in
set_option maxRecDepth 100000 in
theorem p_set {x nx : Nat} {sh : bs_Sh} {mu : bs_Mm} (H : bs_St (bs_tS x) x sh mu) (hfc : bs_iv (mu x 13) = 0) (a b e : Int32) : bs_C mX11_set (bs_rm 11 0 0) [.ref x, .int a, .int b, .int e] nx sh mu (bs_no nx sh mu (.int (-1))) := by
  refine bs_ct (by decide +kernel) (Nat.le_of_ble_eq_true rfl) ?_
  refine bs_aload_n dX11_set_0 rfl ?_
  refine bs_iload_n dX11_set_1 rfl ?_
  refine bs_iload_n dX11_set_2 rfl ?_
  refine bs_callV dX11_set_3 qX11_284 (p_made H hfc _ _) rfl (H.s 0 rfl rfl rfl) rfl (Nat.le_of_ble_eq_true rfl) ⟨⟨by decide, by decide⟩, by decide, by decide⟩ (fun v1 nx1 sh1 mu1 hp1 => ?_)
  obtain ⟨rfl, rfl, rfl, rfl⟩ := hp1
  refine bs_istore dX11_set_6 rfl (by decide) ?_
  refine bs_iload_n dX11_set_8 rfl ?_
  refine bs_if_lt (tgt := 18) dX11_set_9 (by decide) (fun c9 => ?_) (fun c9 => ?_)
  · refine bs_iconst (v := (-1)) dX11_set_18 (by decide) ?_
    refine bs_goto (tgt := 32) dX11_set_19 (by decide) ?_
    exact bs_iret dX11_set_32 rfl (by decide) (by decide) ⟨rfl, rfl, rfl, rfl⟩
  · refine bs_iload_n dX11_set_12 rfl ?_
    refine bs_iload dX11_set_13 rfl ?_
    refine bs_icmp_lt (tgt := 22) dX11_set_15 (by decide) (fun c15 => ?_) (fun c15 => ?_)
    · exact absurd (bs_m1 c15) c9
    · refine bs_iconst (v := (-1)) dX11_set_18 (by decide) ?_
      refine bs_goto (tgt := 32) dX11_set_19 (by decide) ?_
      exact bs_iret dX11_set_32 rfl (by decide) (by decide) ⟨rfl, rfl, rfl, rfl⟩
set_option maxHeartbeats 4000000 in
set_option maxRecDepth 100000 in
theorem p_aged {x nx : Nat} {sh : bs_Sh} {mu : bs_Mm} (H : bs_St (bs_tS x) x sh mu) (hfc : bs_iv (mu x 13) = 0) (hrc : bs_iv (mu x 14) = 0) (a b e f : Int32) : bs_C mX11_aged (bs_rm 10 0 0) [.ref x, .int a, .int b, .int e, .int f] nx sh mu (bs_no nx sh mu (.int (-1))) := by
  refine bs_ct (by decide +kernel) (Nat.le_of_ble_eq_true rfl) ?_
  refine bs_aload_n dX11_aged_0 rfl ?_
  refine bs_iload_n dX11_aged_1 rfl ?_
  refine bs_callV dX11_aged_2 qX11_143 (s_figN H hfc _) rfl (H.s 0 rfl rfl rfl) rfl (Nat.le_of_ble_eq_true rfl) ⟨⟨by decide, by decide⟩, by decide, by decide⟩ (fun v1 nx1 sh1 mu1 hp1 => ?_)
  obtain ⟨rfl, rfl, rfl, rfl⟩ := hp1
  refine bs_astoreN dX11_aged_5 rfl (by decide) ?_
  refine bs_aload_n dX11_aged_7 rfl ?_
  refine bs_iload_n dX11_aged_8 rfl ?_
  refine bs_callV dX11_aged_9 qX11_331 (s_rulN H hrc _) rfl (H.s 0 rfl rfl rfl) rfl (Nat.le_of_ble_eq_true rfl) ⟨⟨by decide, by decide⟩, by decide, by decide⟩ (fun v1 nx1 sh1 mu1 hp1 => ?_)
  obtain ⟨rfl, rfl, rfl, rfl⟩ := hp1
  refine bs_astoreN dX11_aged_12 rfl (by decide) ?_
  refine bs_aloadN dX11_aged_14 rfl ?_
  refine bs_ifnullN (tgt := 44) dX11_aged_16 (by decide) ?_
  refine bs_iconst (v := (-1)) dX11_aged_44 (by decide) ?_
  exact bs_iret dX11_aged_45 rfl (by decide) (by decide) ⟨rfl, rfl, rfl, rfl⟩
set_option maxHeartbeats 4000000 in
set_option maxRecDepth 100000 in
theorem p_falls {x nx : Nat} {sh : bs_Sh} {mu : bs_Mm} (H : bs_St (bs_tS x) x sh mu) (hfc : bs_iv (mu x 13) = 0) (hrc : bs_iv (mu x 14) = 0) (a b e : Int32) : bs_C mX11_falls (bs_rm 10 0 0) [.ref x, .int a, .int b, .int e] nx sh mu (bs_no nx sh mu (.int (-1))) := by
  refine bs_ct (by decide +kernel) (Nat.le_of_ble_eq_true rfl) ?_
  refine bs_aload_n dX11_falls_0 rfl ?_
  refine bs_iload_n dX11_falls_1 rfl ?_
  refine bs_callV dX11_falls_2 qX11_143 (s_figN H hfc _) rfl (H.s 0 rfl rfl rfl) rfl (Nat.le_of_ble_eq_true rfl) ⟨⟨by decide, by decide⟩, by decide, by decide⟩ (fun v1 nx1 sh1 mu1 hp1 => ?_)
  obtain ⟨rfl, rfl, rfl, rfl⟩ := hp1
  refine bs_astoreN dX11_falls_5 rfl (by decide) ?_
  refine bs_aload_n dX11_falls_7 rfl ?_
  refine bs_iload_n dX11_falls_8 rfl ?_
  refine bs_callV dX11_falls_9 qX11_331 (s_rulN H hrc _) rfl (H.s 0 rfl rfl rfl) rfl (Nat.le_of_ble_eq_true rfl) ⟨⟨by decide, by decide⟩, by decide, by decide⟩ (fun v1 nx1 sh1 mu1 hp1 => ?_)
  obtain ⟨rfl, rfl, rfl, rfl⟩ := hp1
  refine bs_astoreN dX11_falls_12 rfl (by decide) ?_
  refine bs_aloadN dX11_falls_14 rfl ?_
  refine bs_ifnullN (tgt := 41) dX11_falls_16 (by decide) ?_
  refine bs_iconst (v := (-1)) dX11_falls_41 (by decide) ?_
  exact bs_iret dX11_falls_42 rfl (by decide) (by decide) ⟨rfl, rfl, rfl, rfl⟩
set_option maxHeartbeats 4000000 in
set_option maxRecDepth 100000 in
theorem p_comes {x nx : Nat} {sh : bs_Sh} {mu : bs_Mm} (H : bs_St (bs_tS x) x sh mu) (hfc : bs_iv (mu x 13) = 0) (a b e : Int32) : bs_C mX11_comes (bs_rm 10 0 0) [.ref x, .int a, .int b, .int e] nx sh mu (bs_no nx sh mu (.int (-1))) := by
  refine bs_ct (by decide +kernel) (Nat.le_of_ble_eq_true rfl) ?_
  refine bs_aload_n dX11_comes_0 rfl ?_
  refine bs_iload_n dX11_comes_1 rfl ?_
  refine bs_callV dX11_comes_2 qX11_143 (s_figN H hfc _) rfl (H.s 0 rfl rfl rfl) rfl (Nat.le_of_ble_eq_true rfl) ⟨⟨by decide, by decide⟩, by decide, by decide⟩ (fun v1 nx1 sh1 mu1 hp1 => ?_)
  obtain ⟨rfl, rfl, rfl, rfl⟩ := hp1
  refine bs_ifnullN (tgt := 30) dX11_comes_5 (by decide) ?_
  refine bs_iconst (v := (-1)) dX11_comes_30 (by decide) ?_
  exact bs_iret dX11_comes_31 rfl (by decide) (by decide) ⟨rfl, rfl, rfl, rfl⟩
