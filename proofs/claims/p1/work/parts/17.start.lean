/-! THE START (own): what the tables say, the new objects, the first call -/
theorem law_kn {ci : Nat} {own : String} {ix : Nat} {s : State} {args : Array Value} (hts : ∀ w ∈ bs_al, w.before args s = true) (h : bs_nw own ix ci) : ∃ q : ClassId × (Nat → Nat), ∀ r, vwCl[ci]? = some r → u_Kn s r.1 r.2.1 r.2.2 q.1 q.2 := by
  obtain ⟨-, r, hr, -, hi, -⟩ := h
  obtain ⟨cC, iS, hk⟩ := u_known hts (bs_tab ci r hr).2.2.2 (hts _ (id hi))
  exact ⟨(cC, iS), fun r' hr' => by cases hr.symm.trans hr'; exact hk⟩
theorem law_arr {s : State} {args : Array Value} {t : FieldType} (ht : t = .char ∨ t = .int ∨ t = .long ∨ t = .boolean) (h : (Cond.arrayClass t).before args s = true) : ∃ c : ClassId, ArrOfT s c t ∧ va_RA s c t := by
  obtain ⟨c, k, comp, h1, h2, h3⟩ := Cond.arrayClass_spec h
  refine ⟨c, fun n z => ⟨fun _ h => (by cases h), k, h2, comp, h3⟩, ?_⟩
  rcases ht with rfl | rfl | rfl | rfl <;> exact h1
theorem law_aro {s : State} {args : Array Value} {C : String} (h : (Cond.arrayOver (.object C)).before args s = true) : ∃ c : ClassId, ArrOfT s c (.object C) ∧ va_RA s c (.object C) := by
  obtain ⟨comp, c, k, h1, -, h2, h3, h4⟩ := Cond.arrayOver_spec h
  exact ⟨c, fun n z => ⟨fun _ h => (by cases h), k, h2, comp, h3⟩, k, comp, h2, h3, h1, h4⟩
set_option maxRecDepth 10000 in
theorem law_K {s : State} {args : Array Value} (hts : ∀ w ∈ lw_tbl, w.before args s = true) : ∃ (D : va_G) (dA : Nat → ClassId), bs_K D dA s := by
  have hal : ∀ w ∈ bs_al, w.before args s = true := fun w h => hts w (List.mem_filter.mp h).1
  have hc : ∀ ci : Nat, ∃ q : ClassId × (Nat → Nat), ∀ r, vwCl[ci]? = some r → u_Kn s r.1 r.2.1 r.2.2 q.1 q.2 := by
    intro ci
    match ci with
    | 0 => exact law_kn hal nX11_70
    | 1 => exact law_kn hal nX11_23
    | 2 => exact law_kn hal nX11_35
    | 3 => exact law_kn hal nX11_63
    | 4 => exact law_kn hal nX11_56
    | 5 => exact law_kn hal nX11_49
    | 6 => exact law_kn hal nX11_29
    | 7 => exact law_kn hal nX11_42
    | 8 => exact law_kn hal nX11_9
    | 9 => exact law_kn hal nX11_77
    | 10 => exact law_kn hal nX11_16
    | 11 => exact law_kn hal nL_8
    | 12 => exact law_kn hal nL_24
    | k + 13 => exact ⟨(0, fun _ => 0), fun r hr => by simp [vwCl] at hr⟩
  obtain ⟨f, hf⟩ := Classical.axiomOfChoice hc
  obtain ⟨c3, a3⟩ := law_arr (t := .char) (by simp) (hal _ (id w_arr_char))
  obtain ⟨c4, a4⟩ := law_arr (t := .int) (by simp) (hal _ (id w_arr_int))
  obtain ⟨c5, a5⟩ := law_arr (t := .long) (by simp) (hal _ (id w_arr_long))
  obtain ⟨c6, a6⟩ := law_arr (t := .boolean) (by simp) (hal _ (id w_arr_boolean))
  have oF : (Cond.arrayOver (.object "BalloonStall$Figure")).before args s = true := hts _ (bs_t1 _ (List.mem_of_getElem? (i := 76) rfl))
  have oR : (Cond.arrayOver (.object "BalloonStall$Rule")).before args s = true := hts _ (bs_t1 _ (List.mem_of_getElem? (i := 78) rfl))
  obtain ⟨c7, a7⟩ := law_aro oF
  obtain ⟨c8, a8⟩ := law_aro oR
  refine ⟨(fun c => (f c).1, fun c => (f c).2), fun k => if k = 13 then c3 else if k = 14 then c4 else if k = 15 then c5 else if k = 16 then c6 else if k = 17 then c7 else c8, ⟨fun c q hq => hf c q hq, ?_⟩, va_AO.of oF, va_AO.of oR, (bs_fac (va_Nw.of rfl (hts _ (bs_t1 _ (List.mem_of_getElem? (i := 32) rfl)))) (bs_fac (va_Nw.of rfl (hts _ (bs_t1 _ (List.mem_of_getElem? (i := 60) rfl)))) (bs_fac (va_Nw.of rfl (hts _ (bs_t1 _ (List.mem_of_getElem? (i := 81) rfl)))) (bs_fac (va_Nw.of rfl (hts _ (bs_t1 _ (List.mem_of_getElem? (i := 87) rfl)))) (bs_fac (va_Nw.of rfl (hts _ (bs_t1 _ (List.mem_of_getElem? (i := 193) rfl)))) (bs_fac (va_Nw.of rfl (hts _ (bs_t1 _ (List.mem_of_getElem? (i := 199) rfl)))) (bs_fac (va_Nw.of rfl (hts _ (bs_t2 _ (List.mem_of_getElem? (i := 11) rfl)))) (bs_fac (va_Nw.of rfl (hts _ (bs_t2 _ (List.mem_of_getElem? (i := 28) rfl)))) (bs_fac (va_Nw.of rfl (hts _ (bs_t2 _ (List.mem_of_getElem? (i := 101) rfl)))) (bs_fac (va_Nw.of rfl (hts _ (bs_t2 _ (List.mem_of_getElem? (i := 130) rfl)))) (bs_fac (va_Nw.of rfl (hts _ (bs_t2 _ (List.mem_of_getElem? (i := 189) rfl)))) (bs_fac (va_Nw.of rfl (hts _ (bs_t2 _ (List.mem_of_getElem? (i := 190) rfl)))) (bs_fac (va_Nw.of rfl (hts _ (bs_t3 _ (List.mem_of_getElem? (i := 42) rfl)))) (bs_fac (va_Nw.of rfl (hts _ (bs_t3 _ (List.mem_of_getElem? (i := 135) rfl)))) (fun w hw => nomatch hw)))))))))))))))⟩
  intro k q hq
  match k, hq with
  | 0, hq => cases hq; exact a3
  | 1, hq => cases hq; exact a4
  | 2, hq => cases hq; exact a5
  | 3, hq => cases hq; exact a6
  | 4, hq => cases hq; exact a7
  | 5, hq => cases hq; exact a8
  | k + 6, hq => simp [bs_tys] at hq
theorem bs_tMl (x : Nat) : (bs_tM x).length = 35 := rfl
theorem bs_tSl (x : Nat) : (bs_tS x).length = 159 := by rw [bs_tS, List.length_cons, bs_cSl]
section GO
variable {nm : String} {b L : Nat} {xs : Nat → Int32}
/-- from the loop's head with nothing left of the script: true -/
theorem law_last {nc ns nx : Nat} {lo : bs_L} {sh : bs_Sh} {mu : bs_Mm} {i : Int32} (h : nI L - 7 < i) (v0 : lo 0 = some (.ref b)) (v4 : lo 4 = some (.int i)) (hc : nc ≤ room_1.cells) (hn : ns ≤ room_1.slots) : bs_V (bs_zl b L xs) (mL nm) room_1 23 lo [] nc ns nx sh mu := by
  refine bs_iload dL_law_23 v4 ?_
  refine bs_aload_n dL_law_25 v0 ?_
  refine bs_slen dL_law_26 ?_
  refine bs_bipush (v := 7) dL_law_27 (by decide) ?_
  refine bs_isub dL_law_29 ?_
  refine bs_icmp_gt (tgt := 1660) dL_law_30 (by decide) (fun c => ?_) (fun c => absurd h c)
  refine bs_iconst (v := 1) dL_law_1660 (by decide) ?_
  exact bs_lend dL_law_1661 hc hn
set_option maxHeartbeats 4000000 in
set_option maxRecDepth 100000 in
theorem law_one {h nx : Nat} {sh : bs_Sh} {mu : bs_Mm} {nc ns : Nat} (hL : L ≤ 7) (hnc : nc + 20 ≤ 600002) (hns : ns + 200 ≤ 7302232) (GS : bs_Fr (bs_tS h) h sh mu) (GM : bs_Fr (bs_tM (h + 159)) (h + 159) sh mu) : bs_V (bs_zl b L xs) (mL nm) room_1 23 (bs_mk [(0, .ref b), (1, .ref h), (2, .ref (h + 159)), (3, .ref (h + 194)), (4, .int (nI 0))]) [] nc ns nx sh mu := by
  have hLL : L ≤ 3584 := by omega
  by_cases h7 : L = 7
  · have kend : ∀ lo2 nc2 ns2 nx2 sh2 mu2, lo2 0 = some (.ref b) → lo2 1 = some (.ref h) → lo2 2 = some (.ref (h + 159)) → lo2 3 = some (.ref (h + 194)) → lo2 4 = some (.int (nI 0)) → nc2 ≤ nc + 20 → ns2 ≤ ns + 200 → bs_V (bs_zl b L xs) (mL nm) room_1 1654 lo2 [] nc2 ns2 nx2 sh2 mu2 := by
      intro lo2 nc2 ns2 nx2 sh2 mu2 u0 u1 u2 u3 u4 k1 k2
      refine bs_iinc dL_law_1654 u4 (by simp [bs_ok, u3]) ?_
      refine bs_goto (tgt := 23) dL_law_1657 (by decide) ?_
      exact law_last (i := nI 0 + Int32.ofInt 7) (by rw [h7]; decide) u0 rfl (by show nc2 ≤ 600002; omega) (by show ns2 ≤ 7302232; omega)
    refine bs_iload dL_law_23 rfl ?_
    refine bs_aload_n dL_law_25 rfl ?_
    refine bs_slen dL_law_26 ?_
    refine bs_bipush (v := 7) dL_law_27 (by decide) ?_
    refine bs_isub dL_law_29 ?_
    refine bs_icmp_gt (tgt := 1660) dL_law_30 (by decide) (fun c => absurd c (by rw [h7]; decide)) (fun c => ?_)
    refine bs_aload_n dL_law_33 rfl ?_
    refine bs_iload dL_law_34 rfl ?_
    refine bs_sld dL_law_36 (bs_ix_n (j := 0) (by omega) (by omega)) ?_
    refine bs_bipush (v := 63) dL_law_37 (by decide) ?_
    refine bs_iand dL_law_39 ?_
    have hi : 0 + 7 ≤ L := by omega
    by_cases hsw : (xs 0 &&& 63).toInt < 0 ∨ 34 < (xs 0 &&& 63).toInt
    · refine bs_tableOut (tgt := 1654) dL_law_40 hsw (by decide) ?_
      exact kend _ _ _ _ _ _ rfl rfl rfl rfl rfl (by omega) (by omega)
    · obtain ⟨jsw, hjsw, ejsw⟩ := bs_swi hsw (by decide)
      have hjc : jsw = 0 ∨ jsw = 1 ∨ jsw = 2 ∨ jsw = 3 ∨ jsw = 4 ∨ jsw = 5 ∨ jsw = 6 ∨ jsw = 7 ∨ jsw = 8 ∨ jsw = 9 ∨ jsw = 10 ∨ jsw = 11 ∨ jsw = 12 ∨ jsw = 13 ∨ jsw = 14 ∨ jsw = 15 ∨ jsw = 16 ∨ jsw = 17 ∨ jsw = 18 ∨ jsw = 19 ∨ jsw = 20 ∨ jsw = 21 ∨ jsw = 22 ∨ jsw = 23 ∨ jsw = 24 ∨ jsw = 25 ∨ jsw = 26 ∨ jsw = 27 ∨ jsw = 28 ∨ jsw = 29 ∨ jsw = 30 ∨ jsw = 31 ∨ jsw = 32 ∨ jsw = 33 ∨ jsw = 34 := by omega
      rcases hjc with rfl | rfl | rfl | rfl | rfl | rfl | rfl | rfl | rfl | rfl | rfl | rfl | rfl | rfl | rfl | rfl | rfl | rfl | rfl | rfl | rfl | rfl | rfl | rfl | rfl | rfl | rfl | rfl | rfl | rfl | rfl | rfl | rfl | rfl | rfl
      · refine bs_tableIn (off := 156) (tgt := 196) dL_law_40 (fun h => hsw (Or.inl h)) (fun h => hsw (Or.inr h)) (by rw [ejsw]; rfl) (by decide) ?_
        exact law_c0 (i := 0) hi hLL rfl rfl rfl rfl rfl hnc hns GS GM kend
      · refine bs_tableIn (off := 205) (tgt := 245) dL_law_40 (fun h => hsw (Or.inl h)) (fun h => hsw (Or.inr h)) (by rw [ejsw]; rfl) (by decide) ?_
        exact law_c1 (i := 0) hi hLL rfl rfl rfl rfl rfl hnc hns GS GM kend
      · refine bs_tableIn (off := 278) (tgt := 318) dL_law_40 (fun h => hsw (Or.inl h)) (fun h => hsw (Or.inr h)) (by rw [ejsw]; rfl) (by decide) ?_
        exact law_c2 (i := 0) hi hLL rfl rfl rfl rfl rfl hnc hns GS GM kend
      · refine bs_tableIn (off := 303) (tgt := 343) dL_law_40 (fun h => hsw (Or.inl h)) (fun h => hsw (Or.inr h)) (by rw [ejsw]; rfl) (by decide) ?_
        exact law_c3 (i := 0) hi hLL rfl rfl rfl rfl rfl hnc hns GS GM kend
      · refine bs_tableIn (off := 328) (tgt := 368) dL_law_40 (fun h => hsw (Or.inl h)) (fun h => hsw (Or.inr h)) (by rw [ejsw]; rfl) (by decide) ?_
        exact law_c4 (i := 0) hi hLL rfl rfl rfl rfl rfl hnc hns GS GM kend
      · refine bs_tableIn (off := 341) (tgt := 381) dL_law_40 (fun h => hsw (Or.inl h)) (fun h => hsw (Or.inr h)) (by rw [ejsw]; rfl) (by decide) ?_
        exact law_c5 (i := 0) hi hLL rfl rfl rfl rfl rfl hnc hns GS GM kend
      · refine bs_tableIn (off := 354) (tgt := 394) dL_law_40 (fun h => hsw (Or.inl h)) (fun h => hsw (Or.inr h)) (by rw [ejsw]; rfl) (by decide) ?_
        exact law_c6 (i := 0) hi hLL rfl rfl rfl rfl rfl hnc hns GS GM kend
      · refine bs_tableIn (off := 391) (tgt := 431) dL_law_40 (fun h => hsw (Or.inl h)) (fun h => hsw (Or.inr h)) (by rw [ejsw]; rfl) (by decide) ?_
        exact law_c7 (i := 0) hi hLL rfl rfl rfl rfl rfl hnc hns GS GM kend
      · refine bs_tableIn (off := 471) (tgt := 511) dL_law_40 (fun h => hsw (Or.inl h)) (fun h => hsw (Or.inr h)) (by rw [ejsw]; rfl) (by decide) ?_
        exact law_c8 (i := 0) hi hLL rfl rfl rfl rfl rfl hnc hns GS GM kend
      · refine bs_tableIn (off := 508) (tgt := 548) dL_law_40 (fun h => hsw (Or.inl h)) (fun h => hsw (Or.inr h)) (by rw [ejsw]; rfl) (by decide) ?_
        exact law_c9 (i := 0) hi hLL rfl rfl rfl rfl rfl hnc hns GS GM kend
      · refine bs_tableIn (off := 545) (tgt := 585) dL_law_40 (fun h => hsw (Or.inl h)) (fun h => hsw (Or.inr h)) (by rw [ejsw]; rfl) (by decide) ?_
        exact law_c10 (i := 0) hi hLL rfl rfl rfl rfl rfl hnc hns GS GM kend
      · refine bs_tableIn (off := 582) (tgt := 622) dL_law_40 (fun h => hsw (Or.inl h)) (fun h => hsw (Or.inr h)) (by rw [ejsw]; rfl) (by decide) ?_
        exact law_c11 (i := 0) hi hLL rfl rfl rfl rfl rfl hnc hns GS GM kend
      · refine bs_tableIn (off := 607) (tgt := 647) dL_law_40 (fun h => hsw (Or.inl h)) (fun h => hsw (Or.inr h)) (by rw [ejsw]; rfl) (by decide) ?_
        exact law_c12 (i := 0) hi hLL rfl rfl rfl rfl rfl hnc hns GS GM kend
      · refine bs_tableIn (off := 644) (tgt := 684) dL_law_40 (fun h => hsw (Or.inl h)) (fun h => hsw (Or.inr h)) (by rw [ejsw]; rfl) (by decide) ?_
        exact law_c13 (i := 0) hi hLL rfl rfl rfl rfl rfl hnc hns GS GM kend
      · refine bs_tableIn (off := 669) (tgt := 709) dL_law_40 (fun h => hsw (Or.inl h)) (fun h => hsw (Or.inr h)) (by rw [ejsw]; rfl) (by decide) ?_
        exact law_c14 (i := 0) hi hLL rfl rfl rfl rfl rfl hnc hns GS GM kend
      · refine bs_tableIn (off := 718) (tgt := 758) dL_law_40 (fun h => hsw (Or.inl h)) (fun h => hsw (Or.inr h)) (by rw [ejsw]; rfl) (by decide) ?_
        exact law_c15 (i := 0) hi hLL rfl rfl rfl rfl rfl hnc hns GS GM kend
      · refine bs_tableIn (off := 743) (tgt := 783) dL_law_40 (fun h => hsw (Or.inl h)) (fun h => hsw (Or.inr h)) (by rw [ejsw]; rfl) (by decide) ?_
        exact law_c16 (i := 0) hi hLL rfl rfl rfl rfl rfl hnc hns GS GM kend
      · refine bs_tableIn (off := 804) (tgt := 844) dL_law_40 (fun h => hsw (Or.inl h)) (fun h => hsw (Or.inr h)) (by rw [ejsw]; rfl) (by decide) ?_
        exact law_c17 (i := 0) hi hLL rfl rfl rfl rfl rfl hnc hns GS GM kend
      · refine bs_tableIn (off := 841) (tgt := 881) dL_law_40 (fun h => hsw (Or.inl h)) (fun h => hsw (Or.inr h)) (by rw [ejsw]; rfl) (by decide) ?_
        exact law_c18 (i := 0) hi hLL rfl rfl rfl rfl rfl hnc hns GS GM kend
      · refine bs_tableIn (off := 890) (tgt := 930) dL_law_40 (fun h => hsw (Or.inl h)) (fun h => hsw (Or.inr h)) (by rw [ejsw]; rfl) (by decide) ?_
        exact law_c19 (i := 0) hi hLL rfl rfl rfl rfl rfl hnc hns GS GM kend
      · refine bs_tableIn (off := 939) (tgt := 979) dL_law_40 (fun h => hsw (Or.inl h)) (fun h => hsw (Or.inr h)) (by rw [ejsw]; rfl) (by decide) ?_
        exact law_c20 (i := 0) hi hLL rfl rfl rfl rfl rfl hnc hns GS GM kend
      · refine bs_tableIn (off := 964) (tgt := 1004) dL_law_40 (fun h => hsw (Or.inl h)) (fun h => hsw (Or.inr h)) (by rw [ejsw]; rfl) (by decide) ?_
        exact law_c21 (i := 0) hi hLL rfl rfl rfl rfl rfl hnc hns GS GM kend
      · refine bs_tableIn (off := 989) (tgt := 1029) dL_law_40 (fun h => hsw (Or.inl h)) (fun h => hsw (Or.inr h)) (by rw [ejsw]; rfl) (by decide) ?_
        exact law_c22 (i := 0) hi hLL rfl rfl rfl rfl rfl hnc hns GS GM kend
      · refine bs_tableIn (off := 1026) (tgt := 1066) dL_law_40 (fun h => hsw (Or.inl h)) (fun h => hsw (Or.inr h)) (by rw [ejsw]; rfl) (by decide) ?_
        exact law_c23 (i := 0) hi hLL rfl rfl rfl rfl rfl hnc hns GS GM kend
      · refine bs_tableIn (off := 1075) (tgt := 1115) dL_law_40 (fun h => hsw (Or.inl h)) (fun h => hsw (Or.inr h)) (by rw [ejsw]; rfl) (by decide) ?_
        exact law_c24 (i := 0) hi hLL rfl rfl rfl rfl rfl hnc hns GS GM kend
      · refine bs_tableIn (off := 1100) (tgt := 1140) dL_law_40 (fun h => hsw (Or.inl h)) (fun h => hsw (Or.inr h)) (by rw [ejsw]; rfl) (by decide) ?_
        exact law_c25 (i := 0) hi hLL rfl rfl rfl rfl rfl hnc hns GS GM kend
      · refine bs_tableIn (off := 1137) (tgt := 1177) dL_law_40 (fun h => hsw (Or.inl h)) (fun h => hsw (Or.inr h)) (by rw [ejsw]; rfl) (by decide) ?_
        exact law_c26 (i := 0) hi hLL rfl rfl rfl rfl rfl hnc hns GS GM kend
      · refine bs_tableIn (off := 1174) (tgt := 1214) dL_law_40 (fun h => hsw (Or.inl h)) (fun h => hsw (Or.inr h)) (by rw [ejsw]; rfl) (by decide) ?_
        exact law_c27 (i := 0) hi hLL rfl rfl rfl rfl rfl hnc hns GS GM kend
      · refine bs_tableIn (off := 1223) (tgt := 1263) dL_law_40 (fun h => hsw (Or.inl h)) (fun h => hsw (Or.inr h)) (by rw [ejsw]; rfl) (by decide) ?_
        exact law_c28 (i := 0) hi hLL rfl rfl rfl rfl rfl hnc hns GS GM kend
      · refine bs_tableIn (off := 1236) (tgt := 1276) dL_law_40 (fun h => hsw (Or.inl h)) (fun h => hsw (Or.inr h)) (by rw [ejsw]; rfl) (by decide) ?_
        exact law_c29 (i := 0) hi hLL rfl rfl rfl rfl rfl hnc hns GS GM kend
      · refine bs_tableIn (off := 1293) (tgt := 1333) dL_law_40 (fun h => hsw (Or.inl h)) (fun h => hsw (Or.inr h)) (by rw [ejsw]; rfl) (by decide) ?_
        exact law_c30 (i := 0) hi hLL rfl rfl rfl rfl rfl hnc hns GS GM kend
      · refine bs_tableIn (off := 1361) (tgt := 1401) dL_law_40 (fun h => hsw (Or.inl h)) (fun h => hsw (Or.inr h)) (by rw [ejsw]; rfl) (by decide) ?_
        exact law_c31 (i := 0) hi hLL rfl rfl rfl rfl rfl hnc hns GS GM kend
      · refine bs_tableIn (off := 1479) (tgt := 1519) dL_law_40 (fun h => hsw (Or.inl h)) (fun h => hsw (Or.inr h)) (by rw [ejsw]; rfl) (by decide) ?_
        exact law_c32 (i := 0) hi hLL rfl rfl rfl rfl rfl hnc hns GS GM kend
      · refine bs_tableIn (off := 1540) (tgt := 1580) dL_law_40 (fun h => hsw (Or.inl h)) (fun h => hsw (Or.inr h)) (by rw [ejsw]; rfl) (by decide) ?_
        exact law_c33 (i := 0) hi hLL rfl rfl rfl rfl rfl hnc hns GS GM kend
      · refine bs_tableIn (off := 1589) (tgt := 1629) dL_law_40 (fun h => hsw (Or.inl h)) (fun h => hsw (Or.inr h)) (by rw [ejsw]; rfl) (by decide) ?_
        exact law_c34 (i := 0) hi hLL rfl rfl rfl rfl rfl hnc hns GS GM kend
  · have hl : nI L - 7 < nI 0 := by
      have : L = 0 ∨ L = 1 ∨ L = 2 ∨ L = 3 ∨ L = 4 ∨ L = 5 ∨ L = 6 := by omega
      rcases this with rfl | rfl | rfl | rfl | rfl | rfl | rfl <;> decide
    exact law_last hl rfl rfl (by show nc ≤ 600002; omega) (by show ns ≤ 7302232; omega)
set_option maxHeartbeats 4000000 in
set_option maxRecDepth 100000 in
theorem law_go {h : Nat} (hL : L ≤ 7) : bs_V (bs_zl b L xs) (mL nm) room_1 0 (bs_mk (lv_args 0 [.ref b])) [] 0 0 h (fun _ => (99, 0)) (fun _ _ => .null) := by
  refine bs_new dL_law_0 nL_8 (Nat.le_of_ble_eq_true rfl) (Nat.le_of_ble_eq_true rfl) ?_
  refine bs_dup dL_law_3 rfl ?_
  refine bs_callI dL_law_4 qL_23 rfl (s_X11_init (h := h) bs_ns_s bs_nm_s rfl) rfl rfl (Nat.le_of_ble_eq_true rfl) ⟨⟨Nat.le_of_ble_eq_true rfl, Nat.le_of_ble_eq_true rfl⟩, Nat.le_of_ble_eq_true rfl, Nat.le_of_ble_eq_true rfl⟩ (fun v0 nx0 sh1 mu1 hp0 => ?_)
  obtain ⟨rfl, rfl, H1⟩ := hp0
  refine bs_astore_n dL_law_7 rfl (Nat.le_of_ble_eq_true rfl) ?_
  refine bs_new dL_law_8 nL_24 (Nat.le_of_ble_eq_true rfl) (Nat.le_of_ble_eq_true rfl) ?_
  refine bs_dup dL_law_11 rfl ?_
  refine bs_callI dL_law_12 qL_26 rfl (s_X12_init (h := h + 159) bs_ns_s bs_nm_s rfl) rfl rfl (Nat.le_of_ble_eq_true rfl) ⟨⟨Nat.le_of_ble_eq_true rfl, Nat.le_of_ble_eq_true rfl⟩, Nat.le_of_ble_eq_true rfl, Nat.le_of_ble_eq_true rfl⟩ (fun v1 nx1 sh2 mu2 hp1 => ?_)
  obtain ⟨rfl, rfl, H2⟩ := hp1
  refine bs_astore_n dL_law_15 rfl (Nat.le_of_ble_eq_true rfl) ?_
  refine bs_iconst (v := nI 1) dL_law_16 (by decide) ?_
  refine bs_newa (ty := .long) (k := 15) (N := 1) (tk := 2) dL_law_17 w_arr_long rfl (by decide) rfl (by decide) (Nat.le_of_ble_eq_true rfl) (Nat.le_of_ble_eq_true rfl) ?_
  refine bs_astore_n dL_law_19 rfl (Nat.le_of_ble_eq_true rfl) ?_
  refine bs_iconst (v := nI 0) dL_law_20 (by decide) ?_
  refine bs_istore dL_law_21 rfl (Nat.le_of_ble_eq_true rfl) ?_
  refine bs_W.mk [(0, .ref b), (1, .ref h), (2, .ref (h + 159)), (3, .ref (h + 194)), (4, .int (nI 0))] ?_ ?_
  · intro q hq
    simp only [List.mem_cons, List.not_mem_nil, or_false] at hq
    rcases hq with rfl | rfl | rfl | rfl | rfl <;> rfl
  · have G1 : bs_Fr (bs_tS h) h sh1 mu1 := bs_Fr_of H1
    have G2 : bs_Fr (bs_tM (h + 159)) (h + 159) sh2 mu2 := bs_Fr_of H2
    refine law_one hL (Nat.le_of_ble_eq_true rfl) (Nat.le_of_ble_eq_true rfl) (G1.same fun a k1 k2 => ?_) (G2.same fun a k1 k2 => ?_)
    · rw [bs_tSl] at k2
      obtain ⟨e1, e2⟩ := H2.2.2.2 a (by omega)
      rw [bs_ns_f (by omega), e1, bs_ns_f (by omega), bs_nm_f (by omega), e2, bs_nm_f (by omega)]
      exact ⟨rfl, rfl⟩
    · rw [bs_tMl] at k2
      rw [bs_ns_f (by omega), bs_nm_f (by omega)]
      exact ⟨rfl, rfl⟩
end GO
theorem whole_start {p : Program} {e : Env} {s : State} {m : MethodId} {below : List Frame} {meth : Method} {c : Code} (l : Launch) (hflags : l.flags = flags0) {b L : Nat} {xs : Nat → Int32} (hL : L ≤ 7) (C0 : lw_At p s m meth c b L xs) : W p l e room_1 s m #[Value.ref b] below meth c s.heap [] 0 0 (lw_Z below #[Value.ref b] s) (entryFrame m ([Value.ref b] : List Value).toArray 7) := by
  obtain ⟨hexec, hcode, hret, hml, hown, hts, hX, hbl, hlocks, hgv⟩ := C0
  obtain ⟨D, dA, hK⟩ := law_K hts
  have F : bs_F p s m #[Value.ref b] meth c (mL meth.name) D dA (fun q => s.heap.size ≤ q) := ⟨hexec, hcode, hret, hml, hown, fun w h => hts w (List.mem_filter.mp h).1, hlocks, rfl, hK, fun q h => h⟩
  have hE : (bs_zl b L xs).1 l s #[Value.ref b] (fun q => s.heap.size ≤ q) := ⟨hX, hbl, Nat.not_le.mpr hbl, fun q h => h, hflags, rfl, hgv, hts⟩
  have hP : bs_rp D dA (fun q => s.heap.size ≤ q) s.heap.size (fun _ => (99, 0)) (fun _ _ => .null) s.heap := ⟨rfl, fun a ha => absurd (show 99 < 19 from ha) (by decide)⟩
  rw [lg_entry_eq]
  have hl := lv_entry [Value.ref b] (n := 7) (Nat.le_of_ble_eq_true rfl)
  exact law_go (nm := meth.name) (b := b) (L := L) (xs := xs) (h := s.heap.size) hL p l e s m _ below meth c D dA _ F hE s.heap [] _ hP va_S.rf ⟨hl.1, hl.2.1, fun i v h => hl.2.2 (i, v) (bs_mk_in _ i v h)⟩
