/-! THE LOOP AND THE START (own) -/
theorem law_kn {ci : Nat} {own : String} {ix : Nat} {s : State} {args : Array Value} (hts : ∀ w ∈ bs_al, w.before args s = true) (h : bs_nw own ix ci) : ∃ q : ClassId × (Nat → Nat), ∀ r, vwCl[ci]? = some r → u_Kn s r.1 r.2.1 r.2.2 q.1 q.2 := by
  obtain ⟨-, r, hr, -, hi, -⟩ := h
  obtain ⟨cC, iS, hk⟩ := u_known hts (bs_tab ci r hr).2.2.2 (hts _ (id hi))
  exact ⟨(cC, iS), fun r' hr' => by cases hr.symm.trans hr'; exact hk⟩
theorem law_arr {s : State} {args : Array Value} {t : FieldType} (ht : t = .char ∨ t = .int ∨ t = .long ∨ t = .boolean) (h : (Cond.arrayClass t).before args s = true) : ∃ c : ClassId, ArrOfT s c t ∧ va_RA s c t := by
  obtain ⟨c, k, comp, h1, h2, h3⟩ := Cond.arrayClass_spec h
  refine ⟨c, fun n z => ⟨fun _ h => (by cases h), k, h2, comp, h3⟩, ?_⟩
  rcases ht with rfl | rfl | rfl | rfl <;> exact h1
theorem law_aro {s : State} {args : Array Value} {C : String} (h : (Cond.arrayOver (.object C)).before args s = true) : ∃ c : ClassId, ArrOfT s c (.object C) ∧ va_RA s c (.object C) := by
  obtain ⟨comp, c, k, h1, -, h2, h3, h4⟩ := Cond.arrayOver_spec h
  exact ⟨c, fun n z => ⟨fun _ h => (by cases h), k, h2, comp, h3⟩, k, comp, h2, h3, h1, h4⟩
set_option maxRecDepth 10000 in
theorem law_K {s : State} {args : Array Value} (hts : ∀ w ∈ lw_tbl, w.before args s = true) : ∃ (D : va_G) (dA : Nat → ClassId), bs_K D dA s := by
  have hal : ∀ w ∈ bs_al, w.before args s = true := fun w h => hts w (List.mem_filter.mp h).1
  have hc : ∀ ci : Nat, ∃ q : ClassId × (Nat → Nat), ∀ r, vwCl[ci]? = some r → u_Kn s r.1 r.2.1 r.2.2 q.1 q.2 := by
    intro ci
    match ci with
    | 0 => exact law_kn hal nX11_70
    | 1 => exact law_kn hal nX11_23
    | 2 => exact law_kn hal nX11_35
    | 3 => exact law_kn hal nX11_63
    | 4 => exact law_kn hal nX11_56
    | 5 => exact law_kn hal nX11_49
    | 6 => exact law_kn hal nX11_29
    | 7 => exact law_kn hal nX11_42
    | 8 => exact law_kn hal nX11_9
    | 9 => exact law_kn hal nX11_77
    | 10 => exact law_kn hal nX11_16
    | 11 => exact law_kn hal nL_8
    | 12 => exact law_kn hal nL_24
    | k + 13 => exact ⟨(0, fun _ => 0), fun r hr => by simp [vwCl] at hr⟩
  obtain ⟨f, hf⟩ := Classical.axiomOfChoice hc
  obtain ⟨c3, a3⟩ := law_arr (t := .char) (by simp) (hal _ (id w_arr_char))
  obtain ⟨c4, a4⟩ := law_arr (t := .int) (by simp) (hal _ (id w_arr_int))
  obtain ⟨c5, a5⟩ := law_arr (t := .long) (by simp) (hal _ (id w_arr_long))
  obtain ⟨c6, a6⟩ := law_arr (t := .boolean) (by simp) (hal _ (id w_arr_boolean))
  have oF : (Cond.arrayOver (.object "BalloonStall$Figure")).before args s = true := hts _ (bs_t1 _ (List.mem_of_getElem? (i := 76) rfl))
  have oR : (Cond.arrayOver (.object "BalloonStall$Rule")).before args s = true := hts _ (bs_t1 _ (List.mem_of_getElem? (i := 78) rfl))
  obtain ⟨c7, a7⟩ := law_aro oF
  obtain ⟨c8, a8⟩ := law_aro oR
  refine ⟨(fun c => (f c).1, fun c => (f c).2), fun k => if k = 13 then c3 else if k = 14 then c4 else if k = 15 then c5 else if k = 16 then c6 else if k = 17 then c7 else c8, ⟨fun c q hq => hf c q hq, ?_⟩, va_AO.of oF, va_AO.of oR, (bs_fac (va_Nw.of rfl (hts _ (bs_t1 _ (List.mem_of_getElem? (i := 32) rfl)))) (bs_fac (va_Nw.of rfl (hts _ (bs_t1 _ (List.mem_of_getElem? (i := 60) rfl)))) (bs_fac (va_Nw.of rfl (hts _ (bs_t1 _ (List.mem_of_getElem? (i := 81) rfl)))) (bs_fac (va_Nw.of rfl (hts _ (bs_t1 _ (List.mem_of_getElem? (i := 87) rfl)))) (bs_fac (va_Nw.of rfl (hts _ (bs_t1 _ (List.mem_of_getElem? (i := 193) rfl)))) (bs_fac (va_Nw.of rfl (hts _ (bs_t1 _ (List.mem_of_getElem? (i := 199) rfl)))) (bs_fac (va_Nw.of rfl (hts _ (bs_t2 _ (List.mem_of_getElem? (i := 11) rfl)))) (bs_fac (va_Nw.of rfl (hts _ (bs_t2 _ (List.mem_of_getElem? (i := 28) rfl)))) (bs_fac (va_Nw.of rfl (hts _ (bs_t2 _ (List.mem_of_getElem? (i := 101) rfl)))) (bs_fac (va_Nw.of rfl (hts _ (bs_t2 _ (List.mem_of_getElem? (i := 130) rfl)))) (bs_fac (va_Nw.of rfl (hts _ (bs_t2 _ (List.mem_of_getElem? (i := 189) rfl)))) (bs_fac (va_Nw.of rfl (hts _ (bs_t2 _ (List.mem_of_getElem? (i := 190) rfl)))) (bs_fac (va_Nw.of rfl (hts _ (bs_t3 _ (List.mem_of_getElem? (i := 42) rfl)))) (bs_fac (va_Nw.of rfl (hts _ (bs_t3 _ (List.mem_of_getElem? (i := 135) rfl)))) (fun w hw => nomatch hw)))))))))))))))⟩
  intro k q hq
  match k, hq with
  | 0, hq => cases hq; exact a3
  | 1, hq => cases hq; exact a4
  | 2, hq => cases hq; exact a5
  | 3, hq => cases hq; exact a6
  | 4, hq => cases hq; exact a7
  | 5, hq => cases hq; exact a8
  | k + 6, hq => simp [bs_tys] at hq
theorem bs_tMl (x : Nat) : (bs_tM x).length = 35 := rfl
theorem bs_tSl (x : Nat) : (bs_tS x).length = 159 := by rw [bs_tS, List.length_cons, bs_cSl]
section GO
variable {nm : String} {b L : Nat} {xs : Nat → Int32}
/-- from the loop's head with nothing left of the script: true -/
theorem law_last {nc ns nx : Nat} {lo : bs_L} {sh : bs_Sh} {mu : bs_Mm} {i : Int32} (h : nI L - 7 < i) (v0 : lo 0 = some (.ref b)) (v4 : lo 4 = some (.int i)) (hc : nc ≤ room_1.cells) (hn : ns ≤ room_1.slots) : bs_V (bs_zl b L xs) (mL nm) room_1 23 lo [] nc ns nx sh mu := by
  refine bs_iload dL_law_23 v4 ?_
  refine bs_aload_n dL_law_25 v0 ?_
  refine bs_slen dL_law_26 ?_
  refine bs_bipush (v := 7) dL_law_27 (by decide) ?_
  refine bs_isub dL_law_29 ?_
  refine bs_icmp_gt (tgt := 1660) dL_law_30 (by decide) (fun c => ?_) (fun c => absurd h c)
  refine bs_iconst (v := 1) dL_law_1660 (by decide) ?_
  exact bs_lend dL_law_1661 hc hn
theorem lz_lt {i : Nat} (hL : L ≤ 3584) (hi : i ≤ 3600) (h : L < i + 7) : nI L - 7 < nI i := by
  by_cases h7 : 7 ≤ L
  · have e : nI L - nI 7 = nI (L - 7) := fn_sub h7
    show nI L - nI 7 < nI i
    rw [e, fn_lt (by omega) (by omega)]
    omega
  · have : L = 0 ∨ L = 1 ∨ L = 2 ∨ L = 3 ∨ L = 4 ∨ L = 5 ∨ L = 6 := by omega
    rw [Int32.lt_iff_toInt_lt, nI_toInt (by omega)]
    have z : ∀ q : Int32, q.toInt < 0 → q.toInt < (i : Int) := fun q hq => by omega
    rcases this with rfl | rfl | rfl | rfl | rfl | rfl | rfl <;> exact z _ (by decide)
theorem lz_ge {i : Nat} (hL : L ≤ 3584) (h : i + 7 ≤ L) : ¬ nI L - 7 < nI i := by
  have e : nI L - nI 7 = nI (L - 7) := fn_sub (by omega)
  show ¬ nI L - nI 7 < nI i
  rw [e, fn_lt (by omega) (by omega)]
  omega
set_option maxHeartbeats 4000000 in
set_option maxRecDepth 100000 in
theorem lz_step {R : Nat → Nat → Option Nat} {x i nx nc ns : Nat} {lo : bs_L} {sh : bs_Sh} {mu : bs_Mm} (hL : L ≤ 3584) (hi : i + 7 ≤ L) (v0 : lo 0 = some (.ref b)) (v1 : lo 1 = some (.ref x)) (v2 : lo 2 = some (.ref (x + 159))) (v3 : lo 3 = some (.ref (x + 194))) (v4 : lo 4 = some (.int (nI i))) (hnc : nc + 20 ≤ 601024) (hns : ns + 200 ≤ 7293034) (I : lw_I R x sh mu) (kend : ∀ lo2 nc2 ns2 nx2 sh2 mu2, lo2 0 = some (.ref b) → lo2 1 = some (.ref x) → lo2 2 = some (.ref (x + 159)) → lo2 3 = some (.ref (x + 194)) → lo2 4 = some (.int (nI i)) → nc2 ≤ nc + 20 → ns2 ≤ ns + 200 → lw_I R x sh2 mu2 → bs_V (bs_zl b L xs) (mL nm) room_1 1654 lo2 [] nc2 ns2 nx2 sh2 mu2) : bs_V (bs_zl b L xs) (mL nm) room_1 23 lo [] nc ns nx sh mu := by
  refine bs_iload dL_law_23 v4 ?_
  refine bs_aload_n dL_law_25 v0 ?_
  refine bs_slen dL_law_26 ?_
  refine bs_bipush (v := 7) dL_law_27 (by decide) ?_
  refine bs_isub dL_law_29 ?_
  refine bs_icmp_gt (tgt := 1660) dL_law_30 (by decide) (fun c => absurd c (lz_ge hL hi)) (fun c => ?_)
  refine bs_aload_n dL_law_33 v0 ?_
  refine bs_iload dL_law_34 v4 ?_
  refine bs_sld dL_law_36 (bs_ix_n (j := i) (by omega) (by omega)) ?_
  refine bs_bipush (v := 63) dL_law_37 (by decide) ?_
  refine bs_iand dL_law_39 ?_
  by_cases hsw : (xs i &&& 63).toInt < 0 ∨ 34 < (xs i &&& 63).toInt
  · refine bs_tableOut (tgt := 1654) dL_law_40 hsw (by decide) ?_
    exact kend _ _ _ _ _ _ v0 v1 v2 v3 v4 (by omega) (by omega) I
  · obtain ⟨jsw, hjsw, ejsw⟩ := bs_swi hsw (by decide)
    have hjc : jsw = 0 ∨ jsw = 1 ∨ jsw = 2 ∨ jsw = 3 ∨ jsw = 4 ∨ jsw = 5 ∨ jsw = 6 ∨ jsw = 7 ∨ jsw = 8 ∨ jsw = 9 ∨ jsw = 10 ∨ jsw = 11 ∨ jsw = 12 ∨ jsw = 13 ∨ jsw = 14 ∨ jsw = 15 ∨ jsw = 16 ∨ jsw = 17 ∨ jsw = 18 ∨ jsw = 19 ∨ jsw = 20 ∨ jsw = 21 ∨ jsw = 22 ∨ jsw = 23 ∨ jsw = 24 ∨ jsw = 25 ∨ jsw = 26 ∨ jsw = 27 ∨ jsw = 28 ∨ jsw = 29 ∨ jsw = 30 ∨ jsw = 31 ∨ jsw = 32 ∨ jsw = 33 ∨ jsw = 34 := by omega
    rcases hjc with rfl | rfl | rfl | rfl | rfl | rfl | rfl | rfl | rfl | rfl | rfl | rfl | rfl | rfl | rfl | rfl | rfl | rfl | rfl | rfl | rfl | rfl | rfl | rfl | rfl | rfl | rfl | rfl | rfl | rfl | rfl | rfl | rfl | rfl | rfl
    · refine bs_tableIn (off := 156) (tgt := 196) dL_law_40 (fun h => hsw (Or.inl h)) (fun h => hsw (Or.inr h)) (by rw [ejsw]; rfl) (by decide) ?_
      exact lz_c0 hi hL v0 v1 v2 v3 v4 hnc hns I kend
    · refine bs_tableIn (off := 205) (tgt := 245) dL_law_40 (fun h => hsw (Or.inl h)) (fun h => hsw (Or.inr h)) (by rw [ejsw]; rfl) (by decide) ?_
      exact lz_c1 hi hL v0 v1 v2 v3 v4 hnc hns I kend
    · refine bs_tableIn (off := 278) (tgt := 318) dL_law_40 (fun h => hsw (Or.inl h)) (fun h => hsw (Or.inr h)) (by rw [ejsw]; rfl) (by decide) ?_
      exact lz_c2 hi hL v0 v1 v2 v3 v4 hnc hns I kend
    · refine bs_tableIn (off := 303) (tgt := 343) dL_law_40 (fun h => hsw (Or.inl h)) (fun h => hsw (Or.inr h)) (by rw [ejsw]; rfl) (by decide) ?_
      exact lz_c3 hi hL v0 v1 v2 v3 v4 hnc hns I kend
    · refine bs_tableIn (off := 328) (tgt := 368) dL_law_40 (fun h => hsw (Or.inl h)) (fun h => hsw (Or.inr h)) (by rw [ejsw]; rfl) (by decide) ?_
      exact lz_c4 hi hL v0 v1 v2 v3 v4 hnc hns I kend
    · refine bs_tableIn (off := 341) (tgt := 381) dL_law_40 (fun h => hsw (Or.inl h)) (fun h => hsw (Or.inr h)) (by rw [ejsw]; rfl) (by decide) ?_
      exact lz_c5 hi hL v0 v1 v2 v3 v4 hnc hns I kend
    · refine bs_tableIn (off := 354) (tgt := 394) dL_law_40 (fun h => hsw (Or.inl h)) (fun h => hsw (Or.inr h)) (by rw [ejsw]; rfl) (by decide) ?_
      exact lz_c6 hi hL v0 v1 v2 v3 v4 hnc hns I kend
    · refine bs_tableIn (off := 391) (tgt := 431) dL_law_40 (fun h => hsw (Or.inl h)) (fun h => hsw (Or.inr h)) (by rw [ejsw]; rfl) (by decide) ?_
      exact lz_c7 hi hL v0 v1 v2 v3 v4 hnc hns I kend
    · refine bs_tableIn (off := 471) (tgt := 511) dL_law_40 (fun h => hsw (Or.inl h)) (fun h => hsw (Or.inr h)) (by rw [ejsw]; rfl) (by decide) ?_
      exact lz_c8 hi hL v0 v1 v2 v3 v4 hnc hns I kend
    · refine bs_tableIn (off := 508) (tgt := 548) dL_law_40 (fun h => hsw (Or.inl h)) (fun h => hsw (Or.inr h)) (by rw [ejsw]; rfl) (by decide) ?_
      exact lz_c9 hi hL v0 v1 v2 v3 v4 hnc hns I kend
    · refine bs_tableIn (off := 545) (tgt := 585) dL_law_40 (fun h => hsw (Or.inl h)) (fun h => hsw (Or.inr h)) (by rw [ejsw]; rfl) (by decide) ?_
      exact lz_c10 hi hL v0 v1 v2 v3 v4 hnc hns I kend
    · refine bs_tableIn (off := 582) (tgt := 622) dL_law_40 (fun h => hsw (Or.inl h)) (fun h => hsw (Or.inr h)) (by rw [ejsw]; rfl) (by decide) ?_
      exact lz_c11 hi hL v0 v1 v2 v3 v4 hnc hns I kend
    · refine bs_tableIn (off := 607) (tgt := 647) dL_law_40 (fun h => hsw (Or.inl h)) (fun h => hsw (Or.inr h)) (by rw [ejsw]; rfl) (by decide) ?_
      exact lz_c12 hi hL v0 v1 v2 v3 v4 hnc hns I kend
    · refine bs_tableIn (off := 644) (tgt := 684) dL_law_40 (fun h => hsw (Or.inl h)) (fun h => hsw (Or.inr h)) (by rw [ejsw]; rfl) (by decide) ?_
      exact lz_c13 hi hL v0 v1 v2 v3 v4 hnc hns I kend
    · refine bs_tableIn (off := 669) (tgt := 709) dL_law_40 (fun h => hsw (Or.inl h)) (fun h => hsw (Or.inr h)) (by rw [ejsw]; rfl) (by decide) ?_
      exact lz_c14 hi hL v0 v1 v2 v3 v4 hnc hns I kend
    · refine bs_tableIn (off := 718) (tgt := 758) dL_law_40 (fun h => hsw (Or.inl h)) (fun h => hsw (Or.inr h)) (by rw [ejsw]; rfl) (by decide) ?_
      exact lz_c15 hi hL v0 v1 v2 v3 v4 hnc hns I kend
    · refine bs_tableIn (off := 743) (tgt := 783) dL_law_40 (fun h => hsw (Or.inl h)) (fun h => hsw (Or.inr h)) (by rw [ejsw]; rfl) (by decide) ?_
      exact lz_c16 hi hL v0 v1 v2 v3 v4 hnc hns I kend
    · refine bs_tableIn (off := 804) (tgt := 844) dL_law_40 (fun h => hsw (Or.inl h)) (fun h => hsw (Or.inr h)) (by rw [ejsw]; rfl) (by decide) ?_
      exact lz_c17 hi hL v0 v1 v2 v3 v4 hnc hns I kend
    · refine bs_tableIn (off := 841) (tgt := 881) dL_law_40 (fun h => hsw (Or.inl h)) (fun h => hsw (Or.inr h)) (by rw [ejsw]; rfl) (by decide) ?_
      exact lz_c18 hi hL v0 v1 v2 v3 v4 hnc hns I kend
    · refine bs_tableIn (off := 890) (tgt := 930) dL_law_40 (fun h => hsw (Or.inl h)) (fun h => hsw (Or.inr h)) (by rw [ejsw]; rfl) (by decide) ?_
      exact lz_c19 hi hL v0 v1 v2 v3 v4 hnc hns I kend
    · refine bs_tableIn (off := 939) (tgt := 979) dL_law_40 (fun h => hsw (Or.inl h)) (fun h => hsw (Or.inr h)) (by rw [ejsw]; rfl) (by decide) ?_
      exact lz_c20 hi hL v0 v1 v2 v3 v4 hnc hns I kend
    · refine bs_tableIn (off := 964) (tgt := 1004) dL_law_40 (fun h => hsw (Or.inl h)) (fun h => hsw (Or.inr h)) (by rw [ejsw]; rfl) (by decide) ?_
      exact lz_c21 hi hL v0 v1 v2 v3 v4 hnc hns I kend
    · refine bs_tableIn (off := 989) (tgt := 1029) dL_law_40 (fun h => hsw (Or.inl h)) (fun h => hsw (Or.inr h)) (by rw [ejsw]; rfl) (by decide) ?_
      exact lz_c22 hi hL v0 v1 v2 v3 v4 hnc hns I kend
    · refine bs_tableIn (off := 1026) (tgt := 1066) dL_law_40 (fun h => hsw (Or.inl h)) (fun h => hsw (Or.inr h)) (by rw [ejsw]; rfl) (by decide) ?_
      exact lz_c23 hi hL v0 v1 v2 v3 v4 hnc hns I kend
    · refine bs_tableIn (off := 1075) (tgt := 1115) dL_law_40 (fun h => hsw (Or.inl h)) (fun h => hsw (Or.inr h)) (by rw [ejsw]; rfl) (by decide) ?_
      exact lz_c24 hi hL v0 v1 v2 v3 v4 hnc hns I kend
    · refine bs_tableIn (off := 1100) (tgt := 1140) dL_law_40 (fun h => hsw (Or.inl h)) (fun h => hsw (Or.inr h)) (by rw [ejsw]; rfl) (by decide) ?_
      exact lz_c25 hi hL v0 v1 v2 v3 v4 hnc hns I kend
    · refine bs_tableIn (off := 1137) (tgt := 1177) dL_law_40 (fun h => hsw (Or.inl h)) (fun h => hsw (Or.inr h)) (by rw [ejsw]; rfl) (by decide) ?_
      exact lz_c26 hi hL v0 v1 v2 v3 v4 hnc hns I kend
    · refine bs_tableIn (off := 1174) (tgt := 1214) dL_law_40 (fun h => hsw (Or.inl h)) (fun h => hsw (Or.inr h)) (by rw [ejsw]; rfl) (by decide) ?_
      exact lz_c27 hi hL v0 v1 v2 v3 v4 hnc hns I kend
    · refine bs_tableIn (off := 1223) (tgt := 1263) dL_law_40 (fun h => hsw (Or.inl h)) (fun h => hsw (Or.inr h)) (by rw [ejsw]; rfl) (by decide) ?_
      exact lz_c28 hi hL v0 v1 v2 v3 v4 hnc hns I kend
    · refine bs_tableIn (off := 1236) (tgt := 1276) dL_law_40 (fun h => hsw (Or.inl h)) (fun h => hsw (Or.inr h)) (by rw [ejsw]; rfl) (by decide) ?_
      exact lz_c29 hi hL v0 v1 v2 v3 v4 hnc hns I kend
    · refine bs_tableIn (off := 1293) (tgt := 1333) dL_law_40 (fun h => hsw (Or.inl h)) (fun h => hsw (Or.inr h)) (by rw [ejsw]; rfl) (by decide) ?_
      exact lz_c30 hi hL v0 v1 v2 v3 v4 hnc hns I kend
    · refine bs_tableIn (off := 1361) (tgt := 1401) dL_law_40 (fun h => hsw (Or.inl h)) (fun h => hsw (Or.inr h)) (by rw [ejsw]; rfl) (by decide) ?_
      exact lz_c31 hi hL v0 v1 v2 v3 v4 hnc hns I kend
    · refine bs_tableIn (off := 1479) (tgt := 1519) dL_law_40 (fun h => hsw (Or.inl h)) (fun h => hsw (Or.inr h)) (by rw [ejsw]; rfl) (by decide) ?_
      exact lz_c32 hi hL v0 v1 v2 v3 v4 hnc hns I kend
    · refine bs_tableIn (off := 1540) (tgt := 1580) dL_law_40 (fun h => hsw (Or.inl h)) (fun h => hsw (Or.inr h)) (by rw [ejsw]; rfl) (by decide) ?_
      exact lz_c33 hi hL v0 v1 v2 v3 v4 hnc hns I kend
    · refine bs_tableIn (off := 1589) (tgt := 1629) dL_law_40 (fun h => hsw (Or.inl h)) (fun h => hsw (Or.inr h)) (by rw [ejsw]; rfl) (by decide) ?_
      exact lz_c34 hi hL v0 v1 v2 v3 v4 hnc hns I kend
theorem lz_loop {R : Nat → Nat → Option Nat} {x : Nat} (hL : L ≤ 3584) : ∀ (n i nx nc ns : Nat) (lo : bs_L) (sh : bs_Sh) (mu : bs_Mm), L ≤ i + 7 * n + 6 → i ≤ L + 7 → nc + 20 * n ≤ 601024 → ns + 200 * n ≤ 7293034 → lo 0 = some (.ref b) → lo 1 = some (.ref x) → lo 2 = some (.ref (x + 159)) → lo 3 = some (.ref (x + 194)) → lo 4 = some (.int (nI i)) → lw_I R x sh mu → bs_V (bs_zl b L xs) (mL nm) room_1 23 lo [] nc ns nx sh mu := by
  intro n
  induction n with
  | zero =>
    intro i nx nc ns lo sh mu h1 h2 h3 h4 v0 v1 v2 v3 v4 I
    exact law_last (lz_lt hL (by omega) (by omega)) v0 v4 (by show nc ≤ 601024; omega) (by show ns ≤ 7293034; omega)
  | succ n ih =>
    intro i nx nc ns lo sh mu h1 h2 h3 h4 v0 v1 v2 v3 v4 I
    by_cases h7 : L < i + 7
    · exact law_last (lz_lt hL (by omega) h7) v0 v4 (by show nc ≤ 601024; omega) (by show ns ≤ 7293034; omega)
    · refine lz_step hL (by omega) v0 v1 v2 v3 v4 (by omega) (by omega) I ?_
      intro lo2 nc2 ns2 nx2 sh2 mu2 u0 u1 u2 u3 u4 k1 k2 I2
      refine bs_iinc dL_law_1654 u4 (by simp [bs_ok, u3]) ?_
      refine bs_goto (tgt := 23) dL_law_1657 (by decide) ?_
      have e : nI i + Int32.ofInt 7 = nI (i + 7) := by rw [show Int32.ofInt 7 = nI 7 by decide]; exact nI_add i 7
      exact ih (i + 7) nx2 nc2 ns2 _ sh2 mu2 (by omega) (by omega) (by omega) (by omega) u0 u1 u2 u3 (by show some (Value.int (nI i + Int32.ofInt 7)) = some (Value.int (nI (i + 7))); rw [e]) I2
end GO
