/-! THE START (own): the new objects hold the invariant -/
theorem st_no {α : Prop} {i : Nat} (h : i < 0) : α := absurd h (Nat.not_lt_zero i)
theorem st_lS {h : Nat} {sh : bs_Sh} {mu : bs_Mm} (G1 : bs_Fr (bs_tS h) h sh mu) (G2 : bs_Fr (bs_tM (h + 159)) (h + 159) sh mu) : ∃ D, lS h D mu := by
  refine ⟨((0, fun _ => 0), (0, fun _ => 0, fun _ => 0, fun _ => 0), (0, fun _ => default), (0, fun _ => default), (0, fun _ => 0, fun _ => 0, fun _ => 0), (fun _ => 0, 1, 0), (0, fun _ _ => 0)), ?_, ?_, ?_⟩
  · refine ⟨⟨G1.i 5 1 rfl rfl rfl, Nat.zero_le _, fun i hi => st_no hi⟩, ⟨G1.i 1 3 rfl rfl rfl, fun i hi => st_no hi, fun i hi => st_no hi, fun i hi => st_no hi⟩, ⟨Nat.zero_le _, G1.i 0 13 rfl rfl rfl, fun i hi => st_no hi⟩, ⟨Nat.zero_le _, G1.i 0 14 rfl rfl rfl, fun i hi => st_no hi⟩, fun j hj k hk => Or.inl ?_, ⟨fun k hk => Or.inl ?_, fun i j hi => st_no hi⟩, ⟨fun b hb => ?_, fun b hb => ?_, fun j k hb => ?_⟩, ⟨Nat.zero_le _, G1.i 50 3 rfl rfl rfl, fun i hi => st_no hi, fun i hi => st_no hi, fun i hi => st_no hi⟩, ⟨fun k hk => ⟨G1.i 51 k rfl rfl rfl, Nat.zero_le _⟩, G1.i 50 1 rfl rfl rfl, G1.i 50 2 rfl rfl rfl⟩, ⟨Nat.zero_le _, G1.i 50 4 rfl rfl rfl, fun i hi => st_no hi⟩⟩
    · have e : mu (h + 43) = fun j => if j < 72 then Value.int (-2) else Value.null := (G1 43 _ rfl).2
      rw [e]
      show bs_iv (if 6 * j + k < 72 then Value.int (-2) else Value.null) = -2
      rw [if_pos (by omega)]
      rfl
    · have e : mu (h + 30) = bs_li0 [.ref (h + 31), .ref (h + 32), .ref (h + 33), .ref (h + 34), .ref (h + 35), .null, .null, .null, .null, .null] := (G1 30 _ rfl).2
      rw [e]
      rcases hk with rfl | rfl <;> rfl
    · have e : mu (h + 45) = bs_li0 [.ref (h + 46), .ref (h + 47), .ref (h + 48), .ref (h + 49), .null, .null, .null] := (G1 45 _ rfl).2
      rw [e] at hb
      cases hb
    · have e : mu (h + 45) = bs_li0 [.ref (h + 46), .ref (h + 47), .ref (h + 48), .ref (h + 49), .null, .null, .null] := (G1 45 _ rfl).2
      rw [e] at hb
      cases hb
    · have e : mu (h + 45) = bs_li0 [.ref (h + 46), .ref (h + 47), .ref (h + 48), .ref (h + 49), .null, .null, .null] := (G1 45 _ rfl).2
      rw [e] at hb
      cases hb
  · exact ⟨⟨G2.i 0 7 rfl rfl rfl, Nat.zero_le _, fun i hi => st_no hi⟩, ⟨G2.i 0 5 rfl rfl rfl, fun i hi => st_no hi, fun i hi => st_no hi, fun i hi => st_no hi⟩, ⟨Nat.zero_le _, G2.i 0 20 rfl rfl rfl, fun i hi => st_no hi⟩, ⟨Nat.zero_le _, G2.i 0 31 rfl rfl rfl, fun i hi => st_no hi⟩, ⟨Nat.zero_le _, G2.i 0 45 rfl rfl rfl, fun i hi => st_no hi, fun i hi => st_no hi, fun i hi => st_no hi⟩, ⟨fun k hk => ⟨G2.i 4 k rfl rfl rfl, Nat.zero_le _⟩, G2.i 0 47 rfl rfl rfl, G2.i 0 48 rfl rfl rfl⟩, ⟨Nat.zero_le _, G2.i 0 46 rfl rfl rfl, fun i hi => st_no hi⟩⟩
  · exact ⟨⟨Nat.zero_le _, fun i hi => st_no hi⟩, fun i hi => st_no hi, fun i hi => st_no hi⟩
theorem st_I {h : Nat} {sh : bs_Sh} {mu : bs_Mm} (G1 : bs_Fr (bs_tS h) h sh mu) (G2 : bs_Fr (bs_tM (h + 159)) (h + 159) sh mu) (e1 : sh (h + 194) = (15, 1)) (e2 : ∀ j, mu (h + 194) j = .null) : lw_I (fun a k => bs_rv (mu a k)) h sh mu := ⟨fun i q hq => ⟨(G1 i q hq).1, fun k => by show bs_rv (mu (h + i) k) = bs_rv (q.2 k); rw [(G1 i q hq).2]⟩, fun i q hq => ⟨(G2 i q hq).1, fun k => by show bs_rv (mu (h + 159 + i) k) = bs_rv (q.2 k); rw [(G2 i q hq).2]⟩, e1, fun j => by show bs_rv (mu (h + 194) j) = none; rw [e2 j]; rfl, fun a k b hb => hb, st_lS G1 G2⟩
section GO
variable {nm : String} {b L : Nat} {xs : Nat → Int32}
set_option maxHeartbeats 4000000 in
set_option maxRecDepth 100000 in
theorem law_go {h : Nat} (hL : L ≤ 3584) : bs_V (bs_zl b L xs) (mL nm) room_1 0 (bs_mk (lv_args 0 [.ref b])) [] 0 0 h (fun _ => (99, 0)) (fun _ _ => .null) := by
  refine bs_new dL_law_0 nL_8 (Nat.le_of_ble_eq_true rfl) (Nat.le_of_ble_eq_true rfl) ?_
  refine bs_dup dL_law_3 rfl ?_
  refine bs_callI dL_law_4 qL_23 rfl (s_X11_init (h := h) bs_ns_s bs_nm_s rfl) rfl rfl (Nat.le_of_ble_eq_true rfl) ⟨⟨Nat.le_of_ble_eq_true rfl, Nat.le_of_ble_eq_true rfl⟩, Nat.le_of_ble_eq_true rfl, Nat.le_of_ble_eq_true rfl⟩ (fun v0 nx0 sh1 mu1 hp0 => ?_)
  obtain ⟨rfl, rfl, H1⟩ := hp0
  refine bs_astore_n dL_law_7 rfl (Nat.le_of_ble_eq_true rfl) ?_
  refine bs_new dL_law_8 nL_24 (Nat.le_of_ble_eq_true rfl) (Nat.le_of_ble_eq_true rfl) ?_
  refine bs_dup dL_law_11 rfl ?_
  refine bs_callI dL_law_12 qL_26 rfl (s_X12_init (h := h + 159) bs_ns_s bs_nm_s rfl) rfl rfl (Nat.le_of_ble_eq_true rfl) ⟨⟨Nat.le_of_ble_eq_true rfl, Nat.le_of_ble_eq_true rfl⟩, Nat.le_of_ble_eq_true rfl, Nat.le_of_ble_eq_true rfl⟩ (fun v1 nx1 sh2 mu2 hp1 => ?_)
  obtain ⟨rfl, rfl, H2⟩ := hp1
  refine bs_astore_n dL_law_15 rfl (Nat.le_of_ble_eq_true rfl) ?_
  refine bs_iconst (v := nI 1) dL_law_16 (by decide) ?_
  refine bs_newa (ty := .long) (k := 15) (N := 1) (tk := 2) dL_law_17 w_arr_long rfl (by decide) rfl (by decide) (Nat.le_of_ble_eq_true rfl) (Nat.le_of_ble_eq_true rfl) ?_
  refine bs_astore_n dL_law_19 rfl (Nat.le_of_ble_eq_true rfl) ?_
  refine bs_iconst (v := nI 0) dL_law_20 (by decide) ?_
  refine bs_istore dL_law_21 rfl (Nat.le_of_ble_eq_true rfl) ?_
  refine bs_W.mk [(0, .ref b), (1, .ref h), (2, .ref (h + 159)), (3, .ref (h + 194)), (4, .int (nI 0))] ?_ ?_
  · intro q hq
    simp only [List.mem_cons, List.not_mem_nil, or_false] at hq
    rcases hq with rfl | rfl | rfl | rfl | rfl <;> rfl
  · have G1 : bs_Fr (bs_tS h) h sh1 mu1 := bs_Fr_of H1
    have G2 : bs_Fr (bs_tM (h + 159)) (h + 159) sh2 mu2 := bs_Fr_of H2
    refine lz_loop hL 512 0 _ _ _ _ _ _ (by omega) (by omega) (Nat.le_of_ble_eq_true rfl) (Nat.le_of_ble_eq_true rfl) rfl rfl rfl rfl rfl (st_I (G1.same fun a k1 k2 => ?_) (G2.same fun a k1 k2 => ?_) bs_ns_s fun j => congrFun bs_nm_s j)
    · rw [bs_tSl] at k2
      obtain ⟨e1, e2⟩ := H2.2.2.2 a (by omega)
      rw [bs_ns_f (by omega), e1, bs_ns_f (by omega), bs_nm_f (by omega), e2, bs_nm_f (by omega)]
      exact ⟨rfl, rfl⟩
    · rw [bs_tMl] at k2
      rw [bs_ns_f (by omega), bs_nm_f (by omega)]
      exact ⟨rfl, rfl⟩
end GO
theorem whole_start {p : Program} {e : Env} {s : State} {m : MethodId} {below : List Frame} {meth : Method} {c : Code} (l : Launch) (hflags : l.flags = flags0) {b L : Nat} {xs : Nat → Int32} (hL : L ≤ 3584) (C0 : lw_At p s m meth c b L xs) : W p l e room_1 s m #[Value.ref b] below meth c s.heap [] 0 0 (lw_Z below #[Value.ref b] s) (entryFrame m ([Value.ref b] : List Value).toArray 7) := by
  obtain ⟨hexec, hcode, hret, hml, hown, hts, hX, hbl, hlocks, hgv⟩ := C0
  obtain ⟨D, dA, hK⟩ := law_K hts
  have F : bs_F p s m #[Value.ref b] meth c (mL meth.name) D dA (fun q => s.heap.size ≤ q) := ⟨hexec, hcode, hret, hml, hown, fun w h => hts w (List.mem_filter.mp h).1, hlocks, rfl, hK, fun q h => h⟩
  have hE : (bs_zl b L xs).1 l s #[Value.ref b] (fun q => s.heap.size ≤ q) := ⟨hX, hbl, Nat.not_le.mpr hbl, fun q h => h, hflags, rfl, hgv, hts⟩
  have hP : bs_rp D dA (fun q => s.heap.size ≤ q) s.heap.size (fun _ => (99, 0)) (fun _ _ => .null) s.heap := ⟨rfl, fun a ha => absurd (show 99 < 19 from ha) (by decide)⟩
  rw [lg_entry_eq]
  have hl := lv_entry [Value.ref b] (n := 7) (Nat.le_of_ble_eq_true rfl)
  exact law_go (nm := meth.name) (b := b) (L := L) (xs := xs) (h := s.heap.size) hL p l e s m _ below meth c D dA _ F hE s.heap [] _ hP va_S.rf ⟨hl.1, hl.2.1, fun i v h => hl.2.2 (i, v) (bs_mk_in _ i v h)⟩
