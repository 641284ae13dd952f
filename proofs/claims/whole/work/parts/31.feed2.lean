/-! FEED (own), the class's, for every state -/
theorem ta_w_cn (T : bs_Ta) (v : Int32) : (ta_w T v).1 = T.1 + bs_cn v := by
  unfold ta_w bs_cn
  rw [ta_p_cn, ta_p_cn, ta_p_cn, ta_p_cn]
  omega
/-- the tape behind feed; how many bytes come -/
def ta_f (T : bs_Ta) (a b e f g : Int32) : bs_Ta := ta_w (ta_w (ta_w (ta_w (ta_w T a) b) e) f) g
def ta_n (a b e f g : Int32) : Nat := bs_cn a + bs_cn b + bs_cn e + bs_cn f + bs_cn g
theorem ta_f_n (T : bs_Ta) (a b e f g : Int32) : (ta_f T a b e f g).1 = T.1 + ta_n a b e f g := by
  unfold ta_f ta_n
  rw [ta_w_cn, ta_w_cn, ta_w_cn, ta_w_cn, ta_w_cn]
  omega
set_option maxHeartbeats 4000000 in
set_option maxRecDepth 100000 in
theorem c_feedR {x nx : Nat} {sh : bs_Sh} {mu : bs_Mm} (H : bs_St (bs_tS x) x sh mu) {T : bs_Ta} (hT : bs_iv (mu (x + 5) 1) = nI T.1) (hB : bs_rw mu (x + 6) T.1 T.2) (h2 : T.1 ≤ 200) (a b e f g : Int32) (hr : 200 < T.1 + ta_n a b e f g) : bs_C mX11_feed (bs_rm 10 0 0) [.ref x, .int a, .int b, .int e, .int f, .int g] nx sh mu (bs_no nx sh mu (.int (-1))) := by
  have z0 := bs_cn_le a
  have z1 := bs_cn_le b
  have z2 := bs_cn_le e
  have z3 := bs_cn_le f
  have z4 := bs_cn_le g
  refine bs_ct (by decide +kernel) (Nat.le_of_ble_eq_true rfl) ?_
  refine bs_iload_n dX11_feed_0 rfl ?_
  refine bs_callS dX11_feed_1 qX11_97 (s_filled a) rfl rfl (Nat.le_of_ble_eq_true rfl) ⟨⟨by decide, by decide⟩, by decide, by decide⟩ (fun v1 nx1 sh1 mu1 hp1 => ?_)
  obtain ⟨rfl, rfl, rfl, rfl⟩ := hp1
  refine bs_iload_n dX11_feed_4 rfl ?_
  refine bs_callS dX11_feed_5 qX11_97 (s_filled b) rfl rfl (Nat.le_of_ble_eq_true rfl) ⟨⟨by decide, by decide⟩, by decide, by decide⟩ (fun v2 nx2 sh2 mu2 hp2 => ?_)
  obtain ⟨rfl, rfl, rfl, rfl⟩ := hp2
  refine bs_iadd dX11_feed_8 ?_
  refine bs_topq (x' := nI (bs_cn a + bs_cn b)) (nI_add _ _) ?_
  refine bs_iload_n dX11_feed_9 rfl ?_
  refine bs_callS dX11_feed_10 qX11_97 (s_filled e) rfl rfl (Nat.le_of_ble_eq_true rfl) ⟨⟨by decide, by decide⟩, by decide, by decide⟩ (fun v3 nx3 sh3 mu3 hp3 => ?_)
  obtain ⟨rfl, rfl, rfl, rfl⟩ := hp3
  refine bs_iadd dX11_feed_13 ?_
  refine bs_topq (x' := nI (bs_cn a + bs_cn b + bs_cn e)) (nI_add _ _) ?_
  refine bs_iload dX11_feed_14 rfl ?_
  refine bs_callS dX11_feed_16 qX11_97 (s_filled f) rfl rfl (Nat.le_of_ble_eq_true rfl) ⟨⟨by decide, by decide⟩, by decide, by decide⟩ (fun v4 nx4 sh4 mu4 hp4 => ?_)
  obtain ⟨rfl, rfl, rfl, rfl⟩ := hp4
  refine bs_iadd dX11_feed_19 ?_
  refine bs_topq (x' := nI (bs_cn a + bs_cn b + bs_cn e + bs_cn f)) (nI_add _ _) ?_
  refine bs_iload dX11_feed_20 rfl ?_
  refine bs_callS dX11_feed_22 qX11_97 (s_filled g) rfl rfl (Nat.le_of_ble_eq_true rfl) ⟨⟨by decide, by decide⟩, by decide, by decide⟩ (fun v5 nx5 sh5 mu5 hp5 => ?_)
  obtain ⟨rfl, rfl, rfl, rfl⟩ := hp5
  refine bs_iadd dX11_feed_25 ?_
  refine bs_topq (x' := nI (bs_cn a + bs_cn b + bs_cn e + bs_cn f + bs_cn g)) (nI_add _ _) ?_
  refine bs_istore dX11_feed_26 rfl (by decide) ?_
  refine bs_aload_n dX11_feed_28 rfl ?_
  refine bs_getR dX11_feed_29 fX11_19 (H.s 0 rfl rfl rfl) (H.r 0 1 rfl rfl rfl) ?_
  refine bs_getI dX11_feed_32 fX11_101 (H.s 5 rfl rfl rfl) ?_
  refine bs_topq (x' := nI T.1) hT ?_
  refine bs_iload dX11_feed_35 rfl ?_
  refine bs_iadd dX11_feed_37 ?_
  refine bs_topq (x' := nI (T.1 + (bs_cn a + bs_cn b + bs_cn e + bs_cn f + bs_cn g))) (nI_add _ _) ?_
  refine bs_sipush (v := 200) dX11_feed_38 (by decide) ?_
  refine bs_icmp_le (tgt := 46) dX11_feed_41 (by decide) (fun c41 => ?_) (fun c41 => ?_)
  · exact absurd c41 (nI_ge (b := T.1 + (bs_cn a + bs_cn b + bs_cn e + bs_cn f + bs_cn g)) (a := 200) (by unfold ta_n at hr; omega) (by omega))
  · refine bs_iconst (v := (-1)) dX11_feed_44 (by decide) ?_
    exact bs_iret dX11_feed_45 rfl (by decide) (by decide) ⟨rfl, rfl, rfl, rfl⟩
set_option maxHeartbeats 4000000 in
set_option maxRecDepth 100000 in
theorem c_feedA {x nx : Nat} {sh : bs_Sh} {mu : bs_Mm} (H : bs_St (bs_tS x) x sh mu) {T : bs_Ta} (hT : bs_iv (mu (x + 5) 1) = nI T.1) (hB : bs_rw mu (x + 6) T.1 T.2) (h2 : T.1 ≤ 200) (a b e f g : Int32) (hr : T.1 + ta_n a b e f g ≤ 200) : bs_C mX11_feed (bs_rm 10 0 0) [.ref x, .int a, .int b, .int e, .int f, .int g] nx sh mu (fun r nx' sh' mu' => r = some (.int (nI (ta_f T a b e f g).1)) ∧ nx' = nx ∧ sh' = sh ∧ ta_tp x (ta_f T a b e f g) mu mu') := by
  have z0 := bs_cn_le a
  have z1 := bs_cn_le b
  have z2 := bs_cn_le e
  have z3 := bs_cn_le f
  have z4 := bs_cn_le g
  refine bs_ct (by decide +kernel) (Nat.le_of_ble_eq_true rfl) ?_
  refine bs_iload_n dX11_feed_0 rfl ?_
  refine bs_callS dX11_feed_1 qX11_97 (s_filled a) rfl rfl (Nat.le_of_ble_eq_true rfl) ⟨⟨by decide, by decide⟩, by decide, by decide⟩ (fun v1 nx1 sh1 mu1 hp1 => ?_)
  obtain ⟨rfl, rfl, rfl, rfl⟩ := hp1
  refine bs_iload_n dX11_feed_4 rfl ?_
  refine bs_callS dX11_feed_5 qX11_97 (s_filled b) rfl rfl (Nat.le_of_ble_eq_true rfl) ⟨⟨by decide, by decide⟩, by decide, by decide⟩ (fun v2 nx2 sh2 mu2 hp2 => ?_)
  obtain ⟨rfl, rfl, rfl, rfl⟩ := hp2
  refine bs_iadd dX11_feed_8 ?_
  refine bs_topq (x' := nI (bs_cn a + bs_cn b)) (nI_add _ _) ?_
  refine bs_iload_n dX11_feed_9 rfl ?_
  refine bs_callS dX11_feed_10 qX11_97 (s_filled e) rfl rfl (Nat.le_of_ble_eq_true rfl) ⟨⟨by decide, by decide⟩, by decide, by decide⟩ (fun v3 nx3 sh3 mu3 hp3 => ?_)
  obtain ⟨rfl, rfl, rfl, rfl⟩ := hp3
  refine bs_iadd dX11_feed_13 ?_
  refine bs_topq (x' := nI (bs_cn a + bs_cn b + bs_cn e)) (nI_add _ _) ?_
  refine bs_iload dX11_feed_14 rfl ?_
  refine bs_callS dX11_feed_16 qX11_97 (s_filled f) rfl rfl (Nat.le_of_ble_eq_true rfl) ⟨⟨by decide, by decide⟩, by decide, by decide⟩ (fun v4 nx4 sh4 mu4 hp4 => ?_)
  obtain ⟨rfl, rfl, rfl, rfl⟩ := hp4
  refine bs_iadd dX11_feed_19 ?_
  refine bs_topq (x' := nI (bs_cn a + bs_cn b + bs_cn e + bs_cn f)) (nI_add _ _) ?_
  refine bs_iload dX11_feed_20 rfl ?_
  refine bs_callS dX11_feed_22 qX11_97 (s_filled g) rfl rfl (Nat.le_of_ble_eq_true rfl) ⟨⟨by decide, by decide⟩, by decide, by decide⟩ (fun v5 nx5 sh5 mu5 hp5 => ?_)
  obtain ⟨rfl, rfl, rfl, rfl⟩ := hp5
  refine bs_iadd dX11_feed_25 ?_
  refine bs_topq (x' := nI (bs_cn a + bs_cn b + bs_cn e + bs_cn f + bs_cn g)) (nI_add _ _) ?_
  refine bs_istore dX11_feed_26 rfl (by decide) ?_
  refine bs_aload_n dX11_feed_28 rfl ?_
  refine bs_getR dX11_feed_29 fX11_19 (H.s 0 rfl rfl rfl) (H.r 0 1 rfl rfl rfl) ?_
  refine bs_getI dX11_feed_32 fX11_101 (H.s 5 rfl rfl rfl) ?_
  refine bs_topq (x' := nI T.1) hT ?_
  refine bs_iload dX11_feed_35 rfl ?_
  refine bs_iadd dX11_feed_37 ?_
  refine bs_topq (x' := nI (T.1 + (bs_cn a + bs_cn b + bs_cn e + bs_cn f + bs_cn g))) (nI_add _ _) ?_
  refine bs_sipush (v := 200) dX11_feed_38 (by decide) ?_
  refine bs_icmp_le (tgt := 46) dX11_feed_41 (by decide) (fun c41 => ?_) (fun c41 => ?_)
  · have h0 : ta_tp x T mu5 mu5 := ⟨fun _ _ _ => rfl, hT, H.r 5 0 rfl rfl rfl, hB⟩
    have w1 := ta_w_cn T a
    have w2 := ta_w_cn (ta_w T a) b
    have w3 := ta_w_cn (ta_w (ta_w T a) b) e
    have w4 := ta_w_cn (ta_w (ta_w (ta_w T a) b) e) f
    refine bs_aload_n dX11_feed_46 rfl ?_
    refine bs_getR dX11_feed_47 fX11_19 (H.s 0 rfl rfl rfl) (b := x + 5) (by rw [h0.1 x (by omega) (by omega)]; exact H.r 0 1 rfl rfl rfl) ?_
    refine bs_iload_n dX11_feed_50 rfl ?_
    refine bs_callV dX11_feed_51 qX11_105 (t_put (H.s 5 rfl rfl rfl) (H.ss 6 rfl rfl) a (T) (by unfold ta_n at hr; omega) h0) rfl (H.s 5 rfl rfl rfl) rfl (Nat.le_of_ble_eq_true rfl) ⟨⟨by decide, by decide⟩, by decide, by decide⟩ (fun v11 nx11 sh11 mu11 hp11 => ?_)
    obtain ⟨rfl, rfl, rfl, h1⟩ := hp11
    refine bs_aload_n dX11_feed_54 rfl ?_
    refine bs_getR dX11_feed_55 fX11_19 (H.s 0 rfl rfl rfl) (b := x + 5) (by rw [h1.1 x (by omega) (by omega)]; exact H.r 0 1 rfl rfl rfl) ?_
    refine bs_iload_n dX11_feed_58 rfl ?_
    refine bs_callV dX11_feed_59 qX11_105 (t_put (H.s 5 rfl rfl rfl) (H.ss 6 rfl rfl) b (ta_w (T) a) (by unfold ta_n at hr; omega) h1) rfl (H.s 5 rfl rfl rfl) rfl (Nat.le_of_ble_eq_true rfl) ⟨⟨by decide, by decide⟩, by decide, by decide⟩ (fun v12 nx12 sh12 mu12 hp12 => ?_)
    obtain ⟨rfl, rfl, rfl, h2⟩ := hp12
    refine bs_aload_n dX11_feed_62 rfl ?_
    refine bs_getR dX11_feed_63 fX11_19 (H.s 0 rfl rfl rfl) (b := x + 5) (by rw [h2.1 x (by omega) (by omega)]; exact H.r 0 1 rfl rfl rfl) ?_
    refine bs_iload_n dX11_feed_66 rfl ?_
    refine bs_callV dX11_feed_67 qX11_105 (t_put (H.s 5 rfl rfl rfl) (H.ss 6 rfl rfl) e (ta_w (ta_w (T) a) b) (by unfold ta_n at hr; omega) h2) rfl (H.s 5 rfl rfl rfl) rfl (Nat.le_of_ble_eq_true rfl) ⟨⟨by decide, by decide⟩, by decide, by decide⟩ (fun v13 nx13 sh13 mu13 hp13 => ?_)
    obtain ⟨rfl, rfl, rfl, h3⟩ := hp13
    refine bs_aload_n dX11_feed_70 rfl ?_
    refine bs_getR dX11_feed_71 fX11_19 (H.s 0 rfl rfl rfl) (b := x + 5) (by rw [h3.1 x (by omega) (by omega)]; exact H.r 0 1 rfl rfl rfl) ?_
    refine bs_iload dX11_feed_74 rfl ?_
    refine bs_callV dX11_feed_76 qX11_105 (t_put (H.s 5 rfl rfl rfl) (H.ss 6 rfl rfl) f (ta_w (ta_w (ta_w (T) a) b) e) (by unfold ta_n at hr; omega) h3) rfl (H.s 5 rfl rfl rfl) rfl (Nat.le_of_ble_eq_true rfl) ⟨⟨by decide, by decide⟩, by decide, by decide⟩ (fun v14 nx14 sh14 mu14 hp14 => ?_)
    obtain ⟨rfl, rfl, rfl, h4⟩ := hp14
    refine bs_aload_n dX11_feed_79 rfl ?_
    refine bs_getR dX11_feed_80 fX11_19 (H.s 0 rfl rfl rfl) (b := x + 5) (by rw [h4.1 x (by omega) (by omega)]; exact H.r 0 1 rfl rfl rfl) ?_
    refine bs_iload dX11_feed_83 rfl ?_
    refine bs_callV dX11_feed_85 qX11_105 (t_put (H.s 5 rfl rfl rfl) (H.ss 6 rfl rfl) g (ta_w (ta_w (ta_w (ta_w (T) a) b) e) f) (by unfold ta_n at hr; omega) h4) rfl (H.s 5 rfl rfl rfl) rfl (Nat.le_of_ble_eq_true rfl) ⟨⟨by decide, by decide⟩, by decide, by decide⟩ (fun v15 nx15 sh15 mu15 hp15 => ?_)
    obtain ⟨rfl, rfl, rfl, h5⟩ := hp15
    refine bs_aload_n dX11_feed_88 rfl ?_
    refine bs_getR dX11_feed_89 fX11_19 (H.s 0 rfl rfl rfl) (b := x + 5) (by rw [h5.1 x (by omega) (by omega)]; exact H.r 0 1 rfl rfl rfl) ?_
    refine bs_getI dX11_feed_92 fX11_101 (H.s 5 rfl rfl rfl) ?_
    refine bs_topq (x' := nI (ta_f T a b e f g).1) h5.2.1 ?_
    exact bs_iret dX11_feed_95 rfl (by decide) (by decide) ⟨rfl, rfl, rfl, h5⟩
  · exact absurd (nI_le (b := 200) (by unfold ta_n at hr; omega) (by decide)) c41
