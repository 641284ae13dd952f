noncomputable def FJ6_bitCount_0f7a4  (mu : bs_Mm) (p0 : Int32) : Option (Int32) :=
  some (((((((((p0 - (((Int32.toUInt32 p0 >>> (Int32.toUInt32 (nI 1) &&& Int32.toUInt32 31)).toInt32) &&& (1431655765 : Int32))) &&& (858993459 : Int32)) + (((Int32.toUInt32 (p0 - (((Int32.toUInt32 p0 >>> (Int32.toUInt32 (nI 1) &&& Int32.toUInt32 31)).toInt32) &&& (1431655765 : Int32))) >>> (Int32.toUInt32 (nI 2) &&& Int32.toUInt32 31)).toInt32) &&& (858993459 : Int32))) + ((Int32.toUInt32 (((p0 - (((Int32.toUInt32 p0 >>> (Int32.toUInt32 (nI 1) &&& Int32.toUInt32 31)).toInt32) &&& (1431655765 : Int32))) &&& (858993459 : Int32)) + (((Int32.toUInt32 (p0 - (((Int32.toUInt32 p0 >>> (Int32.toUInt32 (nI 1) &&& Int32.toUInt32 31)).toInt32) &&& (1431655765 : Int32))) >>> (Int32.toUInt32 (nI 2) &&& Int32.toUInt32 31)).toInt32) &&& (858993459 : Int32))) >>> (Int32.toUInt32 (nI 4) &&& Int32.toUInt32 31)).toInt32)) &&& (252645135 : Int32)) + ((Int32.toUInt32 (((((p0 - (((Int32.toUInt32 p0 >>> (Int32.toUInt32 (nI 1) &&& Int32.toUInt32 31)).toInt32) &&& (1431655765 : Int32))) &&& (858993459 : Int32)) + (((Int32.toUInt32 (p0 - (((Int32.toUInt32 p0 >>> (Int32.toUInt32 (nI 1) &&& Int32.toUInt32 31)).toInt32) &&& (1431655765 : Int32))) >>> (Int32.toUInt32 (nI 2) &&& Int32.toUInt32 31)).toInt32) &&& (858993459 : Int32))) + ((Int32.toUInt32 (((p0 - (((Int32.toUInt32 p0 >>> (Int32.toUInt32 (nI 1) &&& Int32.toUInt32 31)).toInt32) &&& (1431655765 : Int32))) &&& (858993459 : Int32)) + (((Int32.toUInt32 (p0 - (((Int32.toUInt32 p0 >>> (Int32.toUInt32 (nI 1) &&& Int32.toUInt32 31)).toInt32) &&& (1431655765 : Int32))) >>> (Int32.toUInt32 (nI 2) &&& Int32.toUInt32 31)).toInt32) &&& (858993459 : Int32))) >>> (Int32.toUInt32 (nI 4) &&& Int32.toUInt32 31)).toInt32)) &&& (252645135 : Int32)) >>> (Int32.toUInt32 (nI 8) &&& Int32.toUInt32 31)).toInt32)) + ((Int32.toUInt32 ((((((p0 - (((Int32.toUInt32 p0 >>> (Int32.toUInt32 (nI 1) &&& Int32.toUInt32 31)).toInt32) &&& (1431655765 : Int32))) &&& (858993459 : Int32)) + (((Int32.toUInt32 (p0 - (((Int32.toUInt32 p0 >>> (Int32.toUInt32 (nI 1) &&& Int32.toUInt32 31)).toInt32) &&& (1431655765 : Int32))) >>> (Int32.toUInt32 (nI 2) &&& Int32.toUInt32 31)).toInt32) &&& (858993459 : Int32))) + ((Int32.toUInt32 (((p0 - (((Int32.toUInt32 p0 >>> (Int32.toUInt32 (nI 1) &&& Int32.toUInt32 31)).toInt32) &&& (1431655765 : Int32))) &&& (858993459 : Int32)) + (((Int32.toUInt32 (p0 - (((Int32.toUInt32 p0 >>> (Int32.toUInt32 (nI 1) &&& Int32.toUInt32 31)).toInt32) &&& (1431655765 : Int32))) >>> (Int32.toUInt32 (nI 2) &&& Int32.toUInt32 31)).toInt32) &&& (858993459 : Int32))) >>> (Int32.toUInt32 (nI 4) &&& Int32.toUInt32 31)).toInt32)) &&& (252645135 : Int32)) + ((Int32.toUInt32 (((((p0 - (((Int32.toUInt32 p0 >>> (Int32.toUInt32 (nI 1) &&& Int32.toUInt32 31)).toInt32) &&& (1431655765 : Int32))) &&& (858993459 : Int32)) + (((Int32.toUInt32 (p0 - (((Int32.toUInt32 p0 >>> (Int32.toUInt32 (nI 1) &&& Int32.toUInt32 31)).toInt32) &&& (1431655765 : Int32))) >>> (Int32.toUInt32 (nI 2) &&& Int32.toUInt32 31)).toInt32) &&& (858993459 : Int32))) + ((Int32.toUInt32 (((p0 - (((Int32.toUInt32 p0 >>> (Int32.toUInt32 (nI 1) &&& Int32.toUInt32 31)).toInt32) &&& (1431655765 : Int32))) &&& (858993459 : Int32)) + (((Int32.toUInt32 (p0 - (((Int32.toUInt32 p0 >>> (Int32.toUInt32 (nI 1) &&& Int32.toUInt32 31)).toInt32) &&& (1431655765 : Int32))) >>> (Int32.toUInt32 (nI 2) &&& Int32.toUInt32 31)).toInt32) &&& (858993459 : Int32))) >>> (Int32.toUInt32 (nI 4) &&& Int32.toUInt32 31)).toInt32)) &&& (252645135 : Int32)) >>> (Int32.toUInt32 (nI 8) &&& Int32.toUInt32 31)).toInt32)) >>> (Int32.toUInt32 (nI 16) &&& Int32.toUInt32 31)).toInt32)) &&& (nI 63)))
set_option maxHeartbeats 4000000 in
theorem wJ6_bitCount_0f7a4 {nx : Nat} {sh : bs_Sh} {R : Nat → Nat → Option Nat}  {mu : bs_Mm} (hR : fg_R R mu) {p0 : Int32} {r : Int32} (h : FJ6_bitCount_0f7a4 mu p0 = some r) : bs_C mJ6_bitCount_0f7a4 (bs_rm 0 0 0) [.int p0] nx sh mu (fg_po R nx sh (some (.int r)) mu) := by
  refine bs_ct (by decide +kernel) (Nat.le_of_ble_eq_true rfl) ?_
  have kr : ∀ q, r = q → fg_R R mu → (fg_po R nx sh (some (.int r)) mu) (some (.int q)) nx sh mu := fun q e hq => by subst e; exact ⟨rfl, rfl, rfl, rfl, hq⟩
  unfold FJ6_bitCount_0f7a4 at h
  refine bs_iload_n dJ6_bitCount_0f7a4_0 rfl ?_
  refine bs_iload_n dJ6_bitCount_0f7a4_1 rfl ?_
  refine bs_iconst (v := (nI 1)) dJ6_bitCount_0f7a4_2 (by decide) ?_
  refine bs_iushr dJ6_bitCount_0f7a4_3 ?_
  refine bs_ldcw (v := (1431655765)) dJ6_bitCount_0f7a4_4 cJ6_265 ?_
  refine bs_iand dJ6_bitCount_0f7a4_7 ?_
  refine bs_isub dJ6_bitCount_0f7a4_8 ?_
  refine bs_istore_n dJ6_bitCount_0f7a4_9 rfl (by decide) ?_
  refine bs_iload_n dJ6_bitCount_0f7a4_10 rfl ?_
  refine bs_ldcw (v := (858993459)) dJ6_bitCount_0f7a4_11 cJ6_266 ?_
  refine bs_iand dJ6_bitCount_0f7a4_14 ?_
  refine bs_iload_n dJ6_bitCount_0f7a4_15 rfl ?_
  refine bs_iconst (v := (nI 2)) dJ6_bitCount_0f7a4_16 (by decide) ?_
  refine bs_iushr dJ6_bitCount_0f7a4_17 ?_
  refine bs_ldcw (v := (858993459)) dJ6_bitCount_0f7a4_18 cJ6_266 ?_
  refine bs_iand dJ6_bitCount_0f7a4_21 ?_
  refine bs_iadd dJ6_bitCount_0f7a4_22 ?_
  refine bs_istore_n dJ6_bitCount_0f7a4_23 rfl (by decide) ?_
  refine bs_iload_n dJ6_bitCount_0f7a4_24 rfl ?_
  refine bs_iload_n dJ6_bitCount_0f7a4_25 rfl ?_
  refine bs_iconst (v := (nI 4)) dJ6_bitCount_0f7a4_26 (by decide) ?_
  refine bs_iushr dJ6_bitCount_0f7a4_27 ?_
  refine bs_iadd dJ6_bitCount_0f7a4_28 ?_
  refine bs_ldcw (v := (252645135)) dJ6_bitCount_0f7a4_29 cJ6_267 ?_
  refine bs_iand dJ6_bitCount_0f7a4_32 ?_
  refine bs_istore_n dJ6_bitCount_0f7a4_33 rfl (by decide) ?_
  refine bs_iload_n dJ6_bitCount_0f7a4_34 rfl ?_
  refine bs_iload_n dJ6_bitCount_0f7a4_35 rfl ?_
  refine bs_bipush (v := (nI 8)) dJ6_bitCount_0f7a4_36 (by decide) ?_
  refine bs_iushr dJ6_bitCount_0f7a4_38 ?_
  refine bs_iadd dJ6_bitCount_0f7a4_39 ?_
  refine bs_istore_n dJ6_bitCount_0f7a4_40 rfl (by decide) ?_
  refine bs_iload_n dJ6_bitCount_0f7a4_41 rfl ?_
  refine bs_iload_n dJ6_bitCount_0f7a4_42 rfl ?_
  refine bs_bipush (v := (nI 16)) dJ6_bitCount_0f7a4_43 (by decide) ?_
  refine bs_iushr dJ6_bitCount_0f7a4_45 ?_
  refine bs_iadd dJ6_bitCount_0f7a4_46 ?_
  refine bs_istore_n dJ6_bitCount_0f7a4_47 rfl (by decide) ?_
  refine bs_iload_n dJ6_bitCount_0f7a4_48 rfl ?_
  refine bs_bipush (v := (nI 63)) dJ6_bitCount_0f7a4_49 (by decide) ?_
  refine bs_iand dJ6_bitCount_0f7a4_51 ?_
  cases h
  exact bs_iret dJ6_bitCount_0f7a4_52 rfl (Nat.zero_le _) (Nat.zero_le _) (kr _ rfl hR)
noncomputable def FJ6_numberOfTrailingZeros_0f7a4_j62  (mu : bs_Mm) (l0 : Int32) (l1 : Int32) : Option (Int32) :=
  if l0 ≤ (nI 4) then (
    some ((l1 + ((Int32.toUInt32 l0 >>> (Int32.toUInt32 (nI 1) &&& Int32.toUInt32 31)).toInt32)))
  ) else (
    some (((l1 + (nI 2)) + ((Int32.toUInt32 ((Int32.toUInt32 l0 >>> (Int32.toUInt32 (nI 2) &&& Int32.toUInt32 31)).toInt32) >>> (Int32.toUInt32 (nI 1) &&& Int32.toUInt32 31)).toInt32)))
  )
set_option maxHeartbeats 4000000 in
theorem wFJ6_numberOfTrailingZeros_0f7a4_j62 {nx : Nat} {sh : bs_Sh} {R : Nat → Nat → Option Nat}  {mu : bs_Mm} {l0 : Int32} {l1 : Int32} {Ph : bs_Po} {r : Int32} (kr : ∀ q, r = q → fg_R R mu → Ph (some (.int q)) nx sh mu) (hR : fg_R R mu) (h : FJ6_numberOfTrailingZeros_0f7a4_j62 mu l0 l1 = some r) : bs_W Ph mJ6_numberOfTrailingZeros_0f7a4 (bs_rm 0 0 0) 62 (bs_mk [(0, .int l0), (1, .int l1)]) [] 0 0 nx sh mu := by
  unfold FJ6_numberOfTrailingZeros_0f7a4_j62 at h
  refine bs_iload_n dJ6_numberOfTrailingZeros_0f7a4_62 rfl ?_
  refine bs_iconst (v := (nI 4)) dJ6_numberOfTrailingZeros_0f7a4_63 (by decide) ?_
  refine bs_icmp_le (tgt := 74) dJ6_numberOfTrailingZeros_0f7a4_64 (by decide) (fun c => ?_) (fun c => ?_)
  · replace h := fg_ip c h
    refine bs_iload_n dJ6_numberOfTrailingZeros_0f7a4_74 rfl ?_
    refine bs_iload_n dJ6_numberOfTrailingZeros_0f7a4_75 rfl ?_
    refine bs_iconst (v := (nI 1)) dJ6_numberOfTrailingZeros_0f7a4_76 (by decide) ?_
    refine bs_iushr dJ6_numberOfTrailingZeros_0f7a4_77 ?_
    refine bs_iadd dJ6_numberOfTrailingZeros_0f7a4_78 ?_
    cases h
    exact bs_iret dJ6_numberOfTrailingZeros_0f7a4_79 rfl (Nat.zero_le _) (Nat.zero_le _) (kr _ rfl hR)
  · replace h := fg_iN c h
    refine fg_iinc (m := (nI 2)) dJ6_numberOfTrailingZeros_0f7a4_67 rfl rfl (by decide) ?_
    refine bs_iload_n dJ6_numberOfTrailingZeros_0f7a4_70 rfl ?_
    refine bs_iconst (v := (nI 2)) dJ6_numberOfTrailingZeros_0f7a4_71 (by decide) ?_
    refine bs_iushr dJ6_numberOfTrailingZeros_0f7a4_72 ?_
    refine bs_istore_n dJ6_numberOfTrailingZeros_0f7a4_73 rfl (by decide) ?_
    refine bs_iload_n dJ6_numberOfTrailingZeros_0f7a4_74 rfl ?_
    refine bs_iload_n dJ6_numberOfTrailingZeros_0f7a4_75 rfl ?_
    refine bs_iconst (v := (nI 1)) dJ6_numberOfTrailingZeros_0f7a4_76 (by decide) ?_
    refine bs_iushr dJ6_numberOfTrailingZeros_0f7a4_77 ?_
    refine bs_iadd dJ6_numberOfTrailingZeros_0f7a4_78 ?_
    cases h
    exact bs_iret dJ6_numberOfTrailingZeros_0f7a4_79 rfl (Nat.zero_le _) (Nat.zero_le _) (kr _ rfl hR)
noncomputable def FJ6_numberOfTrailingZeros_0f7a4_j49  (mu : bs_Mm) (l0 : Int32) (l1 : Int32) : Option (Int32) :=
  if l0 ≤ (nI 16) then (
    FJ6_numberOfTrailingZeros_0f7a4_j62 mu l0 l1
  ) else (
    FJ6_numberOfTrailingZeros_0f7a4_j62 mu ((Int32.toUInt32 l0 >>> (Int32.toUInt32 (nI 4) &&& Int32.toUInt32 31)).toInt32) (l1 + (nI 4))
  )
set_option maxHeartbeats 4000000 in
theorem wFJ6_numberOfTrailingZeros_0f7a4_j49 {nx : Nat} {sh : bs_Sh} {R : Nat → Nat → Option Nat}  {mu : bs_Mm} {l0 : Int32} {l1 : Int32} {Ph : bs_Po} {r : Int32} (kr : ∀ q, r = q → fg_R R mu → Ph (some (.int q)) nx sh mu) (hR : fg_R R mu) (h : FJ6_numberOfTrailingZeros_0f7a4_j49 mu l0 l1 = some r) : bs_W Ph mJ6_numberOfTrailingZeros_0f7a4 (bs_rm 0 0 0) 49 (bs_mk [(0, .int l0), (1, .int l1)]) [] 0 0 nx sh mu := by
  unfold FJ6_numberOfTrailingZeros_0f7a4_j49 at h
  refine bs_iload_n dJ6_numberOfTrailingZeros_0f7a4_49 rfl ?_
  refine bs_bipush (v := (nI 16)) dJ6_numberOfTrailingZeros_0f7a4_50 (by decide) ?_
  refine bs_icmp_le (tgt := 62) dJ6_numberOfTrailingZeros_0f7a4_52 (by decide) (fun c => ?_) (fun c => ?_)
  · replace h := fg_ip c h
    refine bs_W.mk [(0, .int l0), (1, .int l1)] (by intro q hq; simp only [List.mem_cons, List.not_mem_nil, or_false] at hq; rcases hq with rfl | rfl <;> rfl) ?_
    exact wFJ6_numberOfTrailingZeros_0f7a4_j62  kr hR h
  · replace h := fg_iN c h
    refine fg_iinc (m := (nI 4)) dJ6_numberOfTrailingZeros_0f7a4_55 rfl rfl (by decide) ?_
    refine bs_iload_n dJ6_numberOfTrailingZeros_0f7a4_58 rfl ?_
    refine bs_iconst (v := (nI 4)) dJ6_numberOfTrailingZeros_0f7a4_59 (by decide) ?_
    refine bs_iushr dJ6_numberOfTrailingZeros_0f7a4_60 ?_
    refine bs_istore_n dJ6_numberOfTrailingZeros_0f7a4_61 rfl (by decide) ?_
    refine bs_W.mk [(0, .int ((Int32.toUInt32 l0 >>> (Int32.toUInt32 (nI 4) &&& Int32.toUInt32 31)).toInt32)), (1, .int (l1 + (nI 4)))] (by intro q hq; simp only [List.mem_cons, List.not_mem_nil, or_false] at hq; rcases hq with rfl | rfl <;> rfl) ?_
    exact wFJ6_numberOfTrailingZeros_0f7a4_j62  kr hR h
noncomputable def FJ6_numberOfTrailingZeros_0f7a4_j34  (mu : bs_Mm) (l0 : Int32) (l1 : Int32) : Option (Int32) :=
  if l0 ≤ (nI 256) then (
    FJ6_numberOfTrailingZeros_0f7a4_j49 mu l0 l1
  ) else (
    FJ6_numberOfTrailingZeros_0f7a4_j49 mu ((Int32.toUInt32 l0 >>> (Int32.toUInt32 (nI 8) &&& Int32.toUInt32 31)).toInt32) (l1 + (nI 8))
  )
set_option maxHeartbeats 4000000 in
theorem wFJ6_numberOfTrailingZeros_0f7a4_j34 {nx : Nat} {sh : bs_Sh} {R : Nat → Nat → Option Nat}  {mu : bs_Mm} {l0 : Int32} {l1 : Int32} {Ph : bs_Po} {r : Int32} (kr : ∀ q, r = q → fg_R R mu → Ph (some (.int q)) nx sh mu) (hR : fg_R R mu) (h : FJ6_numberOfTrailingZeros_0f7a4_j34 mu l0 l1 = some r) : bs_W Ph mJ6_numberOfTrailingZeros_0f7a4 (bs_rm 0 0 0) 34 (bs_mk [(0, .int l0), (1, .int l1)]) [] 0 0 nx sh mu := by
  unfold FJ6_numberOfTrailingZeros_0f7a4_j34 at h
  refine bs_iload_n dJ6_numberOfTrailingZeros_0f7a4_34 rfl ?_
  refine bs_sipush (v := (nI 256)) dJ6_numberOfTrailingZeros_0f7a4_35 (by decide) ?_
  refine bs_icmp_le (tgt := 49) dJ6_numberOfTrailingZeros_0f7a4_38 (by decide) (fun c => ?_) (fun c => ?_)
  · replace h := fg_ip c h
    refine bs_W.mk [(0, .int l0), (1, .int l1)] (by intro q hq; simp only [List.mem_cons, List.not_mem_nil, or_false] at hq; rcases hq with rfl | rfl <;> rfl) ?_
    exact wFJ6_numberOfTrailingZeros_0f7a4_j49  kr hR h
  · replace h := fg_iN c h
    refine fg_iinc (m := (nI 8)) dJ6_numberOfTrailingZeros_0f7a4_41 rfl rfl (by decide) ?_
    refine bs_iload_n dJ6_numberOfTrailingZeros_0f7a4_44 rfl ?_
    refine bs_bipush (v := (nI 8)) dJ6_numberOfTrailingZeros_0f7a4_45 (by decide) ?_
    refine bs_iushr dJ6_numberOfTrailingZeros_0f7a4_47 ?_
    refine bs_istore_n dJ6_numberOfTrailingZeros_0f7a4_48 rfl (by decide) ?_
    refine bs_W.mk [(0, .int ((Int32.toUInt32 l0 >>> (Int32.toUInt32 (nI 8) &&& Int32.toUInt32 31)).toInt32)), (1, .int (l1 + (nI 8)))] (by intro q hq; simp only [List.mem_cons, List.not_mem_nil, or_false] at hq; rcases hq with rfl | rfl <;> rfl) ?_
    exact wFJ6_numberOfTrailingZeros_0f7a4_j49  kr hR h
noncomputable def FJ6_numberOfTrailingZeros_0f7a4  (mu : bs_Mm) (p0 : Int32) : Option (Int32) :=
  if 0 < ((p0 ^^^ (-1)) &&& (p0 - (nI 1))) then (
    if ((p0 ^^^ (-1)) &&& (p0 - (nI 1))) ≤ (65536 : Int32) then (
      FJ6_numberOfTrailingZeros_0f7a4_j34 mu ((p0 ^^^ (-1)) &&& (p0 - (nI 1))) (nI 1)
    ) else (
      FJ6_numberOfTrailingZeros_0f7a4_j34 mu ((Int32.toUInt32 ((p0 ^^^ (-1)) &&& (p0 - (nI 1))) >>> (Int32.toUInt32 (nI 16) &&& Int32.toUInt32 31)).toInt32) ((nI 1) + (nI 16))
    )
  ) else (
    some ((((p0 ^^^ (-1)) &&& (p0 - (nI 1))) &&& (nI 32)))
  )
set_option maxHeartbeats 4000000 in
theorem wJ6_numberOfTrailingZeros_0f7a4 {nx : Nat} {sh : bs_Sh} {R : Nat → Nat → Option Nat}  {mu : bs_Mm} (hR : fg_R R mu) {p0 : Int32} {r : Int32} (h : FJ6_numberOfTrailingZeros_0f7a4 mu p0 = some r) : bs_C mJ6_numberOfTrailingZeros_0f7a4 (bs_rm 0 0 0) [.int p0] nx sh mu (fg_po R nx sh (some (.int r)) mu) := by
  refine bs_ct (by decide +kernel) (Nat.le_of_ble_eq_true rfl) ?_
  have kr : ∀ q, r = q → fg_R R mu → (fg_po R nx sh (some (.int r)) mu) (some (.int q)) nx sh mu := fun q e hq => by subst e; exact ⟨rfl, rfl, rfl, rfl, hq⟩
  unfold FJ6_numberOfTrailingZeros_0f7a4 at h
  refine bs_iload_n dJ6_numberOfTrailingZeros_0f7a4_0 rfl ?_
  refine bs_iconst (v := (-1)) dJ6_numberOfTrailingZeros_0f7a4_1 (by decide) ?_
  refine bs_ixor dJ6_numberOfTrailingZeros_0f7a4_2 ?_
  refine bs_iload_n dJ6_numberOfTrailingZeros_0f7a4_3 rfl ?_
  refine bs_iconst (v := (nI 1)) dJ6_numberOfTrailingZeros_0f7a4_4 (by decide) ?_
  refine bs_isub dJ6_numberOfTrailingZeros_0f7a4_5 ?_
  refine bs_iand dJ6_numberOfTrailingZeros_0f7a4_6 ?_
  refine bs_istore_n dJ6_numberOfTrailingZeros_0f7a4_7 rfl (by decide) ?_
  refine bs_iload_n dJ6_numberOfTrailingZeros_0f7a4_8 rfl ?_
  refine bs_if_gt (tgt := 17) dJ6_numberOfTrailingZeros_0f7a4_9 (by decide) (fun c => ?_) (fun c => ?_)
  · replace h := fg_ip c h
    refine bs_iconst (v := (nI 1)) dJ6_numberOfTrailingZeros_0f7a4_17 (by decide) ?_
    refine bs_istore_n dJ6_numberOfTrailingZeros_0f7a4_18 rfl (by decide) ?_
    refine bs_iload_n dJ6_numberOfTrailingZeros_0f7a4_19 rfl ?_
    refine bs_ldcw (v := (65536)) dJ6_numberOfTrailingZeros_0f7a4_20 cJ6_264 ?_
    refine bs_icmp_le (tgt := 34) dJ6_numberOfTrailingZeros_0f7a4_23 (by decide) (fun c => ?_) (fun c => ?_)
    · replace h := fg_ip c h
      refine bs_W.mk [(0, .int ((p0 ^^^ (-1)) &&& (p0 - (nI 1)))), (1, .int (nI 1))] (by intro q hq; simp only [List.mem_cons, List.not_mem_nil, or_false] at hq; rcases hq with rfl | rfl <;> rfl) ?_
      exact wFJ6_numberOfTrailingZeros_0f7a4_j34  kr hR h
    · replace h := fg_iN c h
      refine fg_iinc (m := (nI 16)) dJ6_numberOfTrailingZeros_0f7a4_26 rfl rfl (by decide) ?_
      refine bs_iload_n dJ6_numberOfTrailingZeros_0f7a4_29 rfl ?_
      refine bs_bipush (v := (nI 16)) dJ6_numberOfTrailingZeros_0f7a4_30 (by decide) ?_
      refine bs_iushr dJ6_numberOfTrailingZeros_0f7a4_32 ?_
      refine bs_istore_n dJ6_numberOfTrailingZeros_0f7a4_33 rfl (by decide) ?_
      refine bs_W.mk [(0, .int ((Int32.toUInt32 ((p0 ^^^ (-1)) &&& (p0 - (nI 1))) >>> (Int32.toUInt32 (nI 16) &&& Int32.toUInt32 31)).toInt32)), (1, .int ((nI 1) + (nI 16)))] (by intro q hq; simp only [List.mem_cons, List.not_mem_nil, or_false] at hq; rcases hq with rfl | rfl <;> rfl) ?_
      exact wFJ6_numberOfTrailingZeros_0f7a4_j34  kr hR h
  · replace h := fg_iN c h
    refine bs_iload_n dJ6_numberOfTrailingZeros_0f7a4_12 rfl ?_
    refine bs_bipush (v := (nI 32)) dJ6_numberOfTrailingZeros_0f7a4_13 (by decide) ?_
    refine bs_iand dJ6_numberOfTrailingZeros_0f7a4_15 ?_
    cases h
    exact bs_iret dJ6_numberOfTrailingZeros_0f7a4_16 rfl (Nat.zero_le _) (Nat.zero_le _) (kr _ rfl hR)
noncomputable def FX5_countLive_b10 (x : Nat) (p1 : Nat)  (l2 : Int32) (s : Int32 × bs_Mm) : Option ((Int32 × bs_Mm) ⊕ (bs_Mm)) :=
  if (bs_iv (s.2 p1 7)) ≤ s.1 then (
    some (.inr s.2)
  ) else (
    if (l2 &&& ((nI 1) <<< (s.1 &&& 31))) = 0 then (
      fg_gd (fg_in s.1 24) (
      fg_gd (fg_in (bs_iv (s.2 (p1 + 3) s.1.toNatClampNeg)) 30) (
      fg_gd (fg_in (bs_iv (s.2 (p1 + 3) s.1.toNatClampNeg)) 30) (
      fg_wr s.2 (x + 28) (bs_iv (s.2 (p1 + 3) s.1.toNatClampNeg)).toNatClampNeg (.int ((bs_iv (s.2 (x + 28) (bs_iv (s.2 (p1 + 3) s.1.toNatClampNeg)).toNatClampNeg)) + (nI 1))) (fun mu5 => 
      fg_gd (fg_in s.1 24) (
      fg_gd (fg_in (bs_iv (mu5 (p1 + 4) s.1.toNatClampNeg)) 30) (
      fg_gd (fg_in (bs_iv (mu5 (p1 + 4) s.1.toNatClampNeg)) 30) (
      fg_wr mu5 (x + 28) (bs_iv (mu5 (p1 + 4) s.1.toNatClampNeg)).toNatClampNeg (.int ((bs_iv (mu5 (x + 28) (bs_iv (mu5 (p1 + 4) s.1.toNatClampNeg)).toNatClampNeg)) + (nI 1))) (fun mu9 => 
      some (.inl ((s.1 + (nI 1)), mu9))))))))))
    ) else (
      some (.inl ((s.1 + (nI 1)), s.2))
    )
  )
set_option maxHeartbeats 4000000 in
theorem wFX5_countLive_b10 {nx : Nat} {sh : bs_Sh} {R : Nat → Nat → Option Nat} {x : Nat} (HX : fg_S (bs_tS x) R x sh) {p1 : Nat} (h_p1 : fg_F R sh p1) {l2 : Int32} {Ph : bs_Po} {s : Int32 × bs_Mm} {r : (Int32 × bs_Mm) ⊕ (bs_Mm)} (ka : ∀ s, r = .inl s → fg_R R s.2 → bs_W Ph mX5_countLive (bs_rm 1 0 0) 10 (bs_mk [(0, .ref (x + 26)), (1, .ref p1), (2, .int l2), (3, .int s.1)]) [] 0 0 nx sh s.2) (ke : ∀ s, r = .inr s → fg_R R s → bs_W Ph mX5_countLive (bs_rm 1 0 0) 62 (bs_mk [(0, .ref (x + 26)), (1, .ref p1), (2, .int l2)]) [] 0 0 nx sh s) (hR : fg_R R s.2) (h : FX5_countLive_b10 x p1 l2 s = some r) : bs_W Ph mX5_countLive (bs_rm 1 0 0) 10 (bs_mk [(0, .ref (x + 26)), (1, .ref p1), (2, .int l2), (3, .int s.1)]) [] 0 0 nx sh s.2 := by
  unfold FX5_countLive_b10 at h
  refine bs_iload_n dX5_countLive_10 rfl ?_
  refine bs_aload_n dX5_countLive_11 rfl ?_
  refine bs_getI dX5_countLive_12 fX5_25 (h_p1.s0) ?_
  refine bs_icmp_ge (tgt := 62) dX5_countLive_15 (by decide) (fun c => ?_) (fun c => ?_)
  · replace h := fg_ip c h
    cases h
    refine bs_W.mk [(0, .ref (x + 26)), (1, .ref p1), (2, .int l2)] (by intro q hq; simp only [List.mem_cons, List.not_mem_nil, or_false] at hq; rcases hq with rfl | rfl | rfl <;> rfl) (ke _ rfl hR)
  · replace h := fg_iN c h
    refine bs_iload_n dX5_countLive_18 rfl ?_
    refine bs_iconst (v := (nI 1)) dX5_countLive_19 (by decide) ?_
    refine bs_iload_n dX5_countLive_20 rfl ?_
    refine bs_ishl dX5_countLive_21 ?_
    refine bs_iand dX5_countLive_22 ?_
    refine bs_if_ne (tgt := 56) dX5_countLive_23 (by decide) (fun c => ?_) (fun c => ?_)
    · replace h := fg_iN c h
      refine fg_iinc (m := (nI 1)) dX5_countLive_56 rfl rfl (by decide) ?_
      refine bs_goto (tgt := 10) dX5_countLive_59 (by decide) ?_
      cases h
      refine bs_W.mk [(0, .ref (x + 26)), (1, .ref p1), (2, .int l2), (3, .int (s.1 + (nI 1)))] (by intro q hq; simp only [List.mem_cons, List.not_mem_nil, or_false] at hq; rcases hq with rfl | rfl | rfl | rfl <;> rfl) (by have k := ka _ rfl hR; dsimp only at k; exact k)
    · replace h := fg_ip c h
      refine bs_aload_n dX5_countLive_26 rfl ?_
      refine fg_getR (b := (x + 28)) dX5_countLive_27 fX5_15 (HX.s 26 rfl rfl rfl) hR (HX.r 26 1 rfl rfl rfl) ?_
      refine bs_aload_n dX5_countLive_30 rfl ?_
      refine fg_getR (b := (p1 + 3)) dX5_countLive_31 fX5_35 (h_p1.s0) hR (h_p1.r2) ?_
      refine bs_iload_n dX5_countLive_34 rfl ?_
      obtain ⟨g2, h⟩ := fg_gdE h
      refine bs_iald dX5_countLive_35 (h_p1.s3) (fg_in_ix g2) ?_
      refine bs_dup2 dX5_countLive_36 rfl rfl ?_
      obtain ⟨g3, h⟩ := fg_gdE h
      refine bs_iald dX5_countLive_37 (HX.ss 28 rfl rfl) (fg_in_ix g3) ?_
      refine bs_iconst (v := (nI 1)) dX5_countLive_38 (by decide) ?_
      refine bs_iadd dX5_countLive_39 ?_
      obtain ⟨g4, h⟩ := fg_gdE h
      refine fg_iast dX5_countLive_40 (HX.ss 28 rfl rfl) (fun j => HX.n 28 j rfl rfl rfl) g4 hR h (fun mu5 hR h => ?_)
      refine bs_aload_n dX5_countLive_41 rfl ?_
      refine fg_getR (b := (x + 28)) dX5_countLive_42 fX5_15 (HX.s 26 rfl rfl rfl) hR (HX.r 26 1 rfl rfl rfl) ?_
      refine bs_aload_n dX5_countLive_45 rfl ?_
      refine fg_getR (b := (p1 + 4)) dX5_countLive_46 fX5_38 (h_p1.s0) hR (h_p1.r3) ?_
      refine bs_iload_n dX5_countLive_49 rfl ?_
      obtain ⟨g6, h⟩ := fg_gdE h
      refine bs_iald dX5_countLive_50 (h_p1.s4) (fg_in_ix g6) ?_
      refine bs_dup2 dX5_countLive_51 rfl rfl ?_
      obtain ⟨g7, h⟩ := fg_gdE h
      refine bs_iald dX5_countLive_52 (HX.ss 28 rfl rfl) (fg_in_ix g7) ?_
      refine bs_iconst (v := (nI 1)) dX5_countLive_53 (by decide) ?_
      refine bs_iadd dX5_countLive_54 ?_
      obtain ⟨g8, h⟩ := fg_gdE h
      refine fg_iast dX5_countLive_55 (HX.ss 28 rfl rfl) (fun j => HX.n 28 j rfl rfl rfl) g8 hR h (fun mu9 hR h => ?_)
      refine fg_iinc (m := (nI 1)) dX5_countLive_56 rfl rfl (by decide) ?_
      refine bs_goto (tgt := 10) dX5_countLive_59 (by decide) ?_
      cases h
      refine bs_W.mk [(0, .ref (x + 26)), (1, .ref p1), (2, .int l2), (3, .int (s.1 + (nI 1)))] (by intro q hq; simp only [List.mem_cons, List.not_mem_nil, or_false] at hq; rcases hq with rfl | rfl | rfl | rfl <;> rfl) (by have k := ka _ rfl hR; dsimp only at k; exact k)
theorem wFX5_countLive_l10 {nx : Nat} {sh : bs_Sh} {R : Nat → Nat → Option Nat} {x : Nat} (HX : fg_S (bs_tS x) R x sh) {p1 : Nat} (h_p1 : fg_F R sh p1) {l2 : Int32} {Ph : bs_Po} {t : bs_Mm} : ∀ n (y0 : Int32) (mu1 : bs_Mm), fg_lp (FX5_countLive_b10 x p1 l2) n (y0, mu1) = some t → fg_R R mu1 → (ke : ∀ s, t = s → fg_R R s → bs_W Ph mX5_countLive (bs_rm 1 0 0) 62 (bs_mk [(0, .ref (x + 26)), (1, .ref p1), (2, .int l2)]) [] 0 0 nx sh s) → bs_W Ph mX5_countLive (bs_rm 1 0 0) 10 (bs_mk [(0, .ref (x + 26)), (1, .ref p1), (2, .int l2), (3, .int y0)]) [] 0 0 nx sh mu1 := by
  intro n
  induction n with
  | zero => intro y0 mu1 h; exact absurd h (fun z => fg_lp0 z)
  | succ n ih =>
    intro y0 mu1 h hR ke
    obtain ⟨r, hb, h1, h2⟩ := fg_lpE h
    exact wFX5_countLive_b10 (s := (y0, mu1)) HX h_p1 (fun s' e hR' => ih s'.1 s'.2 (h1 s' e) hR' ke) (fun s' e => ke s' (h2 _ e).symm) hR hb
noncomputable def FX5_countLive (x : Nat) (mu : bs_Mm) (p1 : Nat) (p2 : Int32) : Option (bs_Mm) :=
  fg_wf mu (x + 28) 30 (.int (nI 0)) (fun mu1 => 
  fg_bd (fg_lp (FX5_countLive_b10 x p1 p2) fg_fu ((nI 0), mu1)) (fun t10 => 
    some t10
  ))
set_option maxHeartbeats 4000000 in
theorem wX5_countLive {nx : Nat} {sh : bs_Sh} {R : Nat → Nat → Option Nat} {x : Nat} (HX : fg_S (bs_tS x) R x sh) {p1 : Nat} (h_p1 : fg_F R sh p1) {mu : bs_Mm} (hR : fg_R R mu) {p2 : Int32} {r : bs_Mm} (h : FX5_countLive x mu p1 p2 = some r) : bs_C mX5_countLive (bs_rm 1 0 0) [.ref (x + 26), .ref p1, .int p2] nx sh mu (fg_po R nx sh none r) := by
  refine bs_ct (by decide +kernel) (Nat.le_of_ble_eq_true rfl) ?_
  have kr : ∀ q, r = q → fg_R R q → (fg_po R nx sh none r) none nx sh q := fun q e hq => by subst e; exact ⟨rfl, rfl, rfl, rfl, hq⟩
  unfold FX5_countLive at h
  refine bs_aload_n dX5_countLive_0 rfl ?_
  refine fg_getR (b := (x + 28)) dX5_countLive_1 fX5_15 (HX.s 26 rfl rfl rfl) hR (HX.r 26 1 rfl rfl rfl) ?_
  refine bs_iconst (v := (nI 0)) dX5_countLive_4 (by decide) ?_
  refine fg_fill dX5_countLive_5 qX5_45 (HX.ss 28 rfl rfl) (fun j => HX.n 28 j rfl rfl rfl) (by decide) (Nat.le_of_ble_eq_true rfl) (fg_cr (by first | decide | omega) (by decide)) hR h (fun mu1 hR h => ?_)
  refine bs_iconst (v := (nI 0)) dX5_countLive_8 (by decide) ?_
  refine bs_istore_n dX5_countLive_9 rfl (by decide) ?_
  obtain ⟨t10, k11, h⟩ := fg_bdE h
  refine bs_W.mk [(0, .ref (x + 26)), (1, .ref p1), (2, .int p2), (3, .int (nI 0))] (by intro q hq; simp only [List.mem_cons, List.not_mem_nil, or_false] at hq; rcases hq with rfl | rfl | rfl | rfl <;> rfl) ?_
  refine wFX5_countLive_l10 HX h_p1 _ _ _ k11 hR ?_
  intro s e hR
  subst e
  cases h
  exact bs_vret dX5_countLive_62 rfl (Nat.zero_le _) (Nat.zero_le _) (kr _ rfl hR)
noncomputable def FX0_lengthAt (x : Nat) (mu : bs_Mm) (p1 : Int32) (p2 : Int32) : Option (Int32) :=
  fg_gd (fg_in ((p1 * (nI 24)) + p2) 1464) (
  some ((bs_iv (mu (x + 47) ((p1 * (nI 24)) + p2).toNatClampNeg))))
set_option maxHeartbeats 4000000 in
theorem wX0_lengthAt {nx : Nat} {sh : bs_Sh} {R : Nat → Nat → Option Nat} {x : Nat} (HX : fg_S (bs_tS x) R x sh) {mu : bs_Mm} (hR : fg_R R mu) {p1 : Int32} {p2 : Int32} {r : Int32} (h : FX0_lengthAt x mu p1 p2 = some r) : bs_C mX0_lengthAt (bs_rm 0 0 0) [.ref (x + 45), .int p1, .int p2] nx sh mu (fg_po R nx sh (some (.int r)) mu) := by
  refine bs_ct (by decide +kernel) (Nat.le_of_ble_eq_true rfl) ?_
  have kr : ∀ q, r = q → fg_R R mu → (fg_po R nx sh (some (.int r)) mu) (some (.int q)) nx sh mu := fun q e hq => by subst e; exact ⟨rfl, rfl, rfl, rfl, hq⟩
  unfold FX0_lengthAt at h
  refine bs_aload_n dX0_lengthAt_0 rfl ?_
  refine fg_getR (b := (x + 47)) dX0_lengthAt_1 fX0_15 (HX.s 45 rfl rfl rfl) hR (HX.r 45 1 rfl rfl rfl) ?_
  refine bs_iload_n dX0_lengthAt_4 rfl ?_
  refine bs_bipush (v := (nI 24)) dX0_lengthAt_5 (by decide) ?_
  refine bs_imul dX0_lengthAt_7 ?_
  refine bs_iload_n dX0_lengthAt_8 rfl ?_
  refine bs_iadd dX0_lengthAt_9 ?_
  obtain ⟨g1, h⟩ := fg_gdE h
  refine bs_iald dX0_lengthAt_10 (HX.ss 47 rfl rfl) (fg_in_ix g1) ?_
  cases h
  exact bs_iret dX0_lengthAt_11 rfl (Nat.zero_le _) (Nat.zero_le _) (kr _ rfl hR)
noncomputable def FX5_liveEndsOf (x : Nat) (mu : bs_Mm) (p1 : Nat) (p2 : Int32) : Option (Int32) :=
  fg_gd (fg_in p2 24) (
  fg_gd (fg_in (bs_iv (mu (p1 + 3) p2.toNatClampNeg)) 30) (
  fg_gd (fg_in p2 24) (
  fg_gd (fg_in (bs_iv (mu (p1 + 4) p2.toNatClampNeg)) 30) (
  some (((bs_iv (mu (x + 28) (bs_iv (mu (p1 + 3) p2.toNatClampNeg)).toNatClampNeg)) + (bs_iv (mu (x + 28) (bs_iv (mu (p1 + 4) p2.toNatClampNeg)).toNatClampNeg))))))))
set_option maxHeartbeats 4000000 in
theorem wX5_liveEndsOf {nx : Nat} {sh : bs_Sh} {R : Nat → Nat → Option Nat} {x : Nat} (HX : fg_S (bs_tS x) R x sh) {p1 : Nat} (h_p1 : fg_F R sh p1) {mu : bs_Mm} (hR : fg_R R mu) {p2 : Int32} {r : Int32} (h : FX5_liveEndsOf x mu p1 p2 = some r) : bs_C mX5_liveEndsOf (bs_rm 0 0 0) [.ref (x + 26), .ref p1, .int p2] nx sh mu (fg_po R nx sh (some (.int r)) mu) := by
  refine bs_ct (by decide +kernel) (Nat.le_of_ble_eq_true rfl) ?_
  have kr : ∀ q, r = q → fg_R R mu → (fg_po R nx sh (some (.int r)) mu) (some (.int q)) nx sh mu := fun q e hq => by subst e; exact ⟨rfl, rfl, rfl, rfl, hq⟩
  unfold FX5_liveEndsOf at h
  refine bs_aload_n dX5_liveEndsOf_0 rfl ?_
  refine fg_getR (b := (x + 28)) dX5_liveEndsOf_1 fX5_15 (HX.s 26 rfl rfl rfl) hR (HX.r 26 1 rfl rfl rfl) ?_
  refine bs_aload_n dX5_liveEndsOf_4 rfl ?_
  refine fg_getR (b := (p1 + 3)) dX5_liveEndsOf_5 fX5_35 (h_p1.s0) hR (h_p1.r2) ?_
  refine bs_iload_n dX5_liveEndsOf_8 rfl ?_
  obtain ⟨g1, h⟩ := fg_gdE h
  refine bs_iald dX5_liveEndsOf_9 (h_p1.s3) (fg_in_ix g1) ?_
  obtain ⟨g2, h⟩ := fg_gdE h
  refine bs_iald dX5_liveEndsOf_10 (HX.ss 28 rfl rfl) (fg_in_ix g2) ?_
  refine bs_aload_n dX5_liveEndsOf_11 rfl ?_
  refine fg_getR (b := (x + 28)) dX5_liveEndsOf_12 fX5_15 (HX.s 26 rfl rfl rfl) hR (HX.r 26 1 rfl rfl rfl) ?_
  refine bs_aload_n dX5_liveEndsOf_15 rfl ?_
  refine fg_getR (b := (p1 + 4)) dX5_liveEndsOf_16 fX5_38 (h_p1.s0) hR (h_p1.r3) ?_
  refine bs_iload_n dX5_liveEndsOf_19 rfl ?_
  obtain ⟨g3, h⟩ := fg_gdE h
  refine bs_iald dX5_liveEndsOf_20 (h_p1.s4) (fg_in_ix g3) ?_
  obtain ⟨g4, h⟩ := fg_gdE h
  refine bs_iald dX5_liveEndsOf_21 (HX.ss 28 rfl rfl) (fg_in_ix g4) ?_
  refine bs_iadd dX5_liveEndsOf_22 ?_
  cases h
  exact bs_iret dX5_liveEndsOf_23 rfl (Nat.zero_le _) (Nat.zero_le _) (kr _ rfl hR)
noncomputable def FX0_tellLetters (x : Nat) (mu : bs_Mm) (p1 : Int32) (p2 : Int32) (p3 : Int32) (p4 : Int32) : Option (bs_Mm) :=
  fg_gd (fg_in (nI 0) 5) (
  fg_wr mu (x + 48) (nI 0).toNatClampNeg (.int p1) (fun mu2 => 
  fg_gd (fg_in (nI 1) 5) (
  fg_wr mu2 (x + 48) (nI 1).toNatClampNeg (.int p2) (fun mu4 => 
  fg_gd (fg_in (nI 2) 5) (
  fg_wr mu4 (x + 48) (nI 2).toNatClampNeg (.int p3) (fun mu6 => 
  fg_gd (fg_in p4 6) (
  fg_gd (fg_in (nI 3) 5) (
  fg_wr mu6 (x + 48) (nI 3).toNatClampNeg (.int (bs_iv (mu6 (x + 3) p4.toNatClampNeg))) (fun mu9 => 
  fg_gd (fg_in p4 6) (
  fg_gd (fg_in (nI 4) 5) (
  fg_wr mu9 (x + 48) (nI 4).toNatClampNeg (.int (bs_iv (mu9 (x + 2) p4.toNatClampNeg))) (fun mu12 => 
  some mu12))))))))))))
set_option maxHeartbeats 4000000 in
theorem wX0_tellLetters {nx : Nat} {sh : bs_Sh} {R : Nat → Nat → Option Nat} {x : Nat} (HX : fg_S (bs_tS x) R x sh) {mu : bs_Mm} (hR : fg_R R mu) {p1 : Int32} {p2 : Int32} {p3 : Int32} {p4 : Int32} {r : bs_Mm} (h : FX0_tellLetters x mu p1 p2 p3 p4 = some r) : bs_C mX0_tellLetters (bs_rm 0 0 0) [.ref (x + 45), .int p1, .int p2, .int p3, .int p4, .ref (x + 1)] nx sh mu (fg_po R nx sh none r) := by
  refine bs_ct (by decide +kernel) (Nat.le_of_ble_eq_true rfl) ?_
  have kr : ∀ q, r = q → fg_R R q → (fg_po R nx sh none r) none nx sh q := fun q e hq => by subst e; exact ⟨rfl, rfl, rfl, rfl, hq⟩
  unfold FX0_tellLetters at h
  refine bs_aload_n dX0_tellLetters_0 rfl ?_
  refine fg_getR (b := (x + 48)) dX0_tellLetters_1 fX0_18 (HX.s 45 rfl rfl rfl) hR (HX.r 45 2 rfl rfl rfl) ?_
  refine bs_iconst (v := (nI 0)) dX0_tellLetters_4 (by decide) ?_
  refine bs_iload_n dX0_tellLetters_5 rfl ?_
  obtain ⟨g1, h⟩ := fg_gdE h
  refine fg_iast dX0_tellLetters_6 (HX.ss 48 rfl rfl) (fun j => HX.n 48 j rfl rfl rfl) g1 hR h (fun mu2 hR h => ?_)
  refine bs_aload_n dX0_tellLetters_7 rfl ?_
  refine fg_getR (b := (x + 48)) dX0_tellLetters_8 fX0_18 (HX.s 45 rfl rfl rfl) hR (HX.r 45 2 rfl rfl rfl) ?_
  refine bs_iconst (v := (nI 1)) dX0_tellLetters_11 (by decide) ?_
  refine bs_iload_n dX0_tellLetters_12 rfl ?_
  obtain ⟨g3, h⟩ := fg_gdE h
  refine fg_iast dX0_tellLetters_13 (HX.ss 48 rfl rfl) (fun j => HX.n 48 j rfl rfl rfl) g3 hR h (fun mu4 hR h => ?_)
  refine bs_aload_n dX0_tellLetters_14 rfl ?_
  refine fg_getR (b := (x + 48)) dX0_tellLetters_15 fX0_18 (HX.s 45 rfl rfl rfl) hR (HX.r 45 2 rfl rfl rfl) ?_
  refine bs_iconst (v := (nI 2)) dX0_tellLetters_18 (by decide) ?_
  refine bs_iload_n dX0_tellLetters_19 rfl ?_
  obtain ⟨g5, h⟩ := fg_gdE h
  refine fg_iast dX0_tellLetters_20 (HX.ss 48 rfl rfl) (fun j => HX.n 48 j rfl rfl rfl) g5 hR h (fun mu6 hR h => ?_)
  refine bs_aload_n dX0_tellLetters_21 rfl ?_
  refine fg_getR (b := (x + 48)) dX0_tellLetters_22 fX0_18 (HX.s 45 rfl rfl rfl) hR (HX.r 45 2 rfl rfl rfl) ?_
  refine bs_iconst (v := (nI 3)) dX0_tellLetters_25 (by decide) ?_
  refine bs_aload dX0_tellLetters_26 rfl ?_
  refine fg_getR (b := (x + 3)) dX0_tellLetters_28 fX0_100 (HX.s 1 rfl rfl rfl) hR (HX.r 1 1 rfl rfl rfl) ?_
  refine bs_iload dX0_tellLetters_31 rfl ?_
  obtain ⟨g7, h⟩ := fg_gdE h
  refine bs_iald dX0_tellLetters_33 (HX.ss 3 rfl rfl) (fg_in_ix g7) ?_
  obtain ⟨g8, h⟩ := fg_gdE h
  refine fg_iast dX0_tellLetters_34 (HX.ss 48 rfl rfl) (fun j => HX.n 48 j rfl rfl rfl) g8 hR h (fun mu9 hR h => ?_)
  refine bs_aload_n dX0_tellLetters_35 rfl ?_
  refine fg_getR (b := (x + 48)) dX0_tellLetters_36 fX0_18 (HX.s 45 rfl rfl rfl) hR (HX.r 45 2 rfl rfl rfl) ?_
  refine bs_iconst (v := (nI 4)) dX0_tellLetters_39 (by decide) ?_
  refine bs_aload dX0_tellLetters_40 rfl ?_
  refine fg_getR (b := (x + 2)) dX0_tellLetters_42 fX0_105 (HX.s 1 rfl rfl rfl) hR (HX.r 1 0 rfl rfl rfl) ?_
  refine bs_iload dX0_tellLetters_45 rfl ?_
  obtain ⟨g10, h⟩ := fg_gdE h
  refine bs_iald dX0_tellLetters_47 (HX.ss 2 rfl rfl) (fg_in_ix g10) ?_
  obtain ⟨g11, h⟩ := fg_gdE h
  refine fg_iast dX0_tellLetters_48 (HX.ss 48 rfl rfl) (fun j => HX.n 48 j rfl rfl rfl) g11 hR h (fun mu12 hR h => ?_)
  cases h
  exact bs_vret dX0_tellLetters_49 rfl (Nat.zero_le _) (Nat.zero_le _) (kr _ rfl hR)
noncomputable def FX6_within (x : Nat) (mu : bs_Mm) (p0 : Int64) : Option (Int64) :=
  some ((if (if p0 < (1000000 : Int64) then p0 else (1000000 : Int64)) < (-1000000 : Int64) then (-1000000 : Int64) else (if p0 < (1000000 : Int64) then p0 else (1000000 : Int64))))
set_option maxHeartbeats 4000000 in
theorem wX6_within {nx : Nat} {sh : bs_Sh} {R : Nat → Nat → Option Nat} {x : Nat} (HX : fg_S (bs_tS x) R x sh) {mu : bs_Mm} (hR : fg_R R mu) {p0 : Int64} {r : Int64} (h : FX6_within x mu p0 = some r) : bs_C mX6_within (bs_rm 1 0 0) [.long p0] nx sh mu (fg_po R nx sh (some (.long r)) mu) := by
  refine bs_ct (by decide +kernel) (Nat.le_of_ble_eq_true rfl) ?_
  have kr : ∀ q, r = q → fg_R R mu → (fg_po R nx sh (some (.long r)) mu) (some (.long q)) nx sh mu := fun q e hq => by subst e; exact ⟨rfl, rfl, rfl, rfl, hq⟩
  unfold FX6_within at h
  refine bs_ldc2 (v := (-1000000)) dX6_within_0 cX6_43 ?_
  refine bs_ldc2 (v := (1000000)) dX6_within_3 cX6_45 ?_
  refine bs_lload_n dX6_within_6 rfl ?_
  refine bs_mminl dX6_within_7 xX6_47 (by first | decide | (simp only [bs_rm]; omega)) (by first | exact Nat.le_of_ble_eq_true rfl | (simp only [bs_rm, List.map, List.sum_cons, List.sum_nil, Value.category]; omega)) (Nat.zero_le _) (Nat.zero_le _) ?_
  refine bs_mmaxl dX6_within_10 xX6_51 (by first | decide | (simp only [bs_rm]; omega)) (by first | exact Nat.le_of_ble_eq_true rfl | (simp only [bs_rm, List.map, List.sum_cons, List.sum_nil, Value.category]; omega)) (Nat.zero_le _) (Nat.zero_le _) ?_
  cases h
  exact bs_lret dX6_within_13 rfl (Nat.zero_le _) (Nat.zero_le _) (kr _ rfl hR)
noncomputable def FX6_joined (x : Nat) (mu : bs_Mm) (p0 : Int32) (p1 : Int64) (p3 : Int64) : Option (Int64) :=
  if p0 = (nI 38) then (
    some ((p1 &&& p3))
  ) else (
  if p0 = (nI 42) then (
    fg_bd (FX6_within x mu (p1 * p3)) (fun v4 => 
    some (v4))
  ) else (
  if p0 = (nI 43) then (
    fg_bd (FX6_within x mu (p1 + p3)) (fun v7 => 
    some (v7))
  ) else (
  if p0 = (nI 45) then (
    fg_bd (FX6_within x mu (p1 - p3)) (fun v10 => 
    some (v10))
  ) else (
  if p0 = (nI 47) then (
    if (lg_cmp p3 (0 : Int64)) = 0 then (
      some ((0 : Int64))
    ) else (
      fg_gd (decide (¬ p3 = 0)) (
      fg_bd (FX6_within x mu (p1 / p3)) (fun v14 => 
      some (v14)))
    )
  ) else (
  if p0 = (nI 60) then (
    if 0 ≤ (lg_cmp p1 p3) then (
      some ((0 : Int64))
    ) else (
      some ((1 : Int64))
    )
  ) else (
  if p0 = (nI 61) then (
    if (lg_cmp p1 p3) = 0 then (
      some ((1 : Int64))
    ) else (
      some ((0 : Int64))
    )
  ) else (
  if p0 = (nI 62) then (
    if (lg_cmp p1 p3) ≤ 0 then (
      some ((0 : Int64))
    ) else (
      some ((1 : Int64))
    )
  ) else (
  some ((p1 ||| p3))
  ))))))))
set_option maxHeartbeats 4000000 in
theorem wX6_joined {nx : Nat} {sh : bs_Sh} {R : Nat → Nat → Option Nat} {x : Nat} (HX : fg_S (bs_tS x) R x sh) {mu : bs_Mm} (hR : fg_R R mu) {p0 : Int32} {p1 : Int64} {p3 : Int64} {r : Int64} (h : FX6_joined x mu p0 p1 p3 = some r) : bs_C mX6_joined (bs_rm 2 0 0) [.int p0, .long p1, .long p3] nx sh mu (fg_po R nx sh (some (.long r)) mu) := by
  refine bs_ct (by decide +kernel) (Nat.le_of_ble_eq_true rfl) ?_
  have kr : ∀ q, r = q → fg_R R mu → (fg_po R nx sh (some (.long r)) mu) (some (.long q)) nx sh mu := fun q e hq => by subst e; exact ⟨rfl, rfl, rfl, rfl, hq⟩
  unfold FX6_joined at h
  refine bs_iload_n dX6_joined_0 rfl ?_
  by_cases e1 : p0 = (nI 38)
  · replace h := fg_ip e1 h
    refine bs_tableIn (off := 189) (tgt := 190) dX6_joined_1 (by rw [e1]; decide) (by rw [e1]; decide) (by rw [e1]; decide) (by decide) ?_
    refine bs_lload_n dX6_joined_190 rfl ?_
    refine bs_lload_n dX6_joined_191 rfl ?_
    refine bs_land dX6_joined_192 ?_
    cases h
    exact bs_lret dX6_joined_193 rfl (Nat.zero_le _) (Nat.zero_le _) (kr _ rfl hR)
  · replace h := fg_iN e1 h
    by_cases e2 : p0 = (nI 42)
    · replace h := fg_ip e2 h
      refine bs_tableIn (off := 129) (tgt := 130) dX6_joined_1 (by rw [e2]; decide) (by rw [e2]; decide) (by rw [e2]; decide) (by decide) ?_
      refine bs_lload_n dX6_joined_130 rfl ?_
      refine bs_lload_n dX6_joined_131 rfl ?_
      refine bs_lmul dX6_joined_132 ?_
      obtain ⟨v4, k3, h⟩ := fg_bdE h
      refine fg_callS dX6_joined_133 qX6_39 (wX6_within HX hR k3) rfl rfl (Nat.le_of_ble_eq_true rfl) (fg_cr (by first | decide | omega) (by decide)) (fun hR => ?_)
      cases h
      exact bs_lret dX6_joined_136 rfl (Nat.zero_le _) (Nat.zero_le _) (kr _ rfl hR)
    · replace h := fg_iN e2 h
      by_cases e5 : p0 = (nI 43)
      · replace h := fg_ip e5 h
        refine bs_tableIn (off := 115) (tgt := 116) dX6_joined_1 (by rw [e5]; decide) (by rw [e5]; decide) (by rw [e5]; decide) (by decide) ?_
        refine bs_lload_n dX6_joined_116 rfl ?_
        refine bs_lload_n dX6_joined_117 rfl ?_
        refine bs_ladd dX6_joined_118 ?_
        obtain ⟨v7, k6, h⟩ := fg_bdE h
        refine fg_callS dX6_joined_119 qX6_39 (wX6_within HX hR k6) rfl rfl (Nat.le_of_ble_eq_true rfl) (fg_cr (by first | decide | omega) (by decide)) (fun hR => ?_)
        cases h
        exact bs_lret dX6_joined_122 rfl (Nat.zero_le _) (Nat.zero_le _) (kr _ rfl hR)
      · replace h := fg_iN e5 h
        by_cases e8 : p0 = (nI 45)
        · replace h := fg_ip e8 h
          refine bs_tableIn (off := 122) (tgt := 123) dX6_joined_1 (by rw [e8]; decide) (by rw [e8]; decide) (by rw [e8]; decide) (by decide) ?_
          refine bs_lload_n dX6_joined_123 rfl ?_
          refine bs_lload_n dX6_joined_124 rfl ?_
          refine bs_lsub dX6_joined_125 ?_
          obtain ⟨v10, k9, h⟩ := fg_bdE h
          refine fg_callS dX6_joined_126 qX6_39 (wX6_within HX hR k9) rfl rfl (Nat.le_of_ble_eq_true rfl) (fg_cr (by first | decide | omega) (by decide)) (fun hR => ?_)
          cases h
          exact bs_lret dX6_joined_129 rfl (Nat.zero_le _) (Nat.zero_le _) (kr _ rfl hR)
        · replace h := fg_iN e8 h
          by_cases e11 : p0 = (nI 47)
          · replace h := fg_ip e11 h
            refine bs_tableIn (off := 136) (tgt := 137) dX6_joined_1 (by rw [e11]; decide) (by rw [e11]; decide) (by rw [e11]; decide) (by decide) ?_
            refine bs_lload_n dX6_joined_137 rfl ?_
            refine bs_lconst (v := 0) dX6_joined_138 (by decide) ?_
            refine bs_lcmp dX6_joined_139 ?_
            refine bs_if_ne (tgt := 147) dX6_joined_140 (by decide) (fun c => ?_) (fun c => ?_)
            · replace h := fg_iN c h
              refine bs_lload_n dX6_joined_147 rfl ?_
              refine bs_lload_n dX6_joined_148 rfl ?_
              obtain ⟨g12, h⟩ := fg_gdE h
              refine bs_ldiv dX6_joined_149 (of_decide_eq_true g12) ?_
              obtain ⟨v14, k13, h⟩ := fg_bdE h
              refine fg_callS dX6_joined_150 qX6_39 (wX6_within HX hR k13) rfl rfl (Nat.le_of_ble_eq_true rfl) (fg_cr (by first | decide | omega) (by decide)) (fun hR => ?_)
              cases h
              exact bs_lret dX6_joined_153 rfl (Nat.zero_le _) (Nat.zero_le _) (kr _ rfl hR)
            · replace h := fg_ip c h
              refine bs_lconst (v := 0) dX6_joined_143 (by decide) ?_
              refine bs_goto (tgt := 153) dX6_joined_144 (by decide) ?_
              cases h
              exact bs_lret dX6_joined_153 rfl (Nat.zero_le _) (Nat.zero_le _) (kr _ rfl hR)
          · replace h := fg_iN e11 h
            by_cases e15 : p0 = (nI 60)
            · replace h := fg_ip e15 h
              refine bs_tableIn (off := 165) (tgt := 166) dX6_joined_1 (by rw [e15]; decide) (by rw [e15]; decide) (by rw [e15]; decide) (by decide) ?_
              refine bs_lload_n dX6_joined_166 rfl ?_
              refine bs_lload_n dX6_joined_167 rfl ?_
              refine bs_lcmp dX6_joined_168 ?_
              refine bs_if_ge (tgt := 176) dX6_joined_169 (by decide) (fun c => ?_) (fun c => ?_)
              · replace h := fg_ip c h
                refine bs_lconst (v := 0) dX6_joined_176 (by decide) ?_
                cases h
                exact bs_lret dX6_joined_177 rfl (Nat.zero_le _) (Nat.zero_le _) (kr _ rfl hR)
              · replace h := fg_iN c h
                refine bs_lconst (v := 1) dX6_joined_172 (by decide) ?_
                refine bs_goto (tgt := 177) dX6_joined_173 (by decide) ?_
                cases h
                exact bs_lret dX6_joined_177 rfl (Nat.zero_le _) (Nat.zero_le _) (kr _ rfl hR)
            · replace h := fg_iN e15 h
              by_cases e16 : p0 = (nI 61)
              · replace h := fg_ip e16 h
                refine bs_tableIn (off := 153) (tgt := 154) dX6_joined_1 (by rw [e16]; decide) (by rw [e16]; decide) (by rw [e16]; decide) (by decide) ?_
                refine bs_lload_n dX6_joined_154 rfl ?_
                refine bs_lload_n dX6_joined_155 rfl ?_
                refine bs_lcmp dX6_joined_156 ?_
                refine bs_if_ne (tgt := 164) dX6_joined_157 (by decide) (fun c => ?_) (fun c => ?_)
                · replace h := fg_iN c h
                  refine bs_lconst (v := 0) dX6_joined_164 (by decide) ?_
                  cases h
                  exact bs_lret dX6_joined_165 rfl (Nat.zero_le _) (Nat.zero_le _) (kr _ rfl hR)
                · replace h := fg_ip c h
                  refine bs_lconst (v := 1) dX6_joined_160 (by decide) ?_
                  refine bs_goto (tgt := 165) dX6_joined_161 (by decide) ?_
                  cases h
                  exact bs_lret dX6_joined_165 rfl (Nat.zero_le _) (Nat.zero_le _) (kr _ rfl hR)
              · replace h := fg_iN e16 h
                by_cases e17 : p0 = (nI 62)
                · replace h := fg_ip e17 h
                  refine bs_tableIn (off := 177) (tgt := 178) dX6_joined_1 (by rw [e17]; decide) (by rw [e17]; decide) (by rw [e17]; decide) (by decide) ?_
                  refine bs_lload_n dX6_joined_178 rfl ?_
                  refine bs_lload_n dX6_joined_179 rfl ?_
                  refine bs_lcmp dX6_joined_180 ?_
                  refine bs_if_le (tgt := 188) dX6_joined_181 (by decide) (fun c => ?_) (fun c => ?_)
                  · replace h := fg_ip c h
                    refine bs_lconst (v := 0) dX6_joined_188 (by decide) ?_
                    cases h
                    exact bs_lret dX6_joined_189 rfl (Nat.zero_le _) (Nat.zero_le _) (kr _ rfl hR)
                  · replace h := fg_iN c h
                    refine bs_lconst (v := 1) dX6_joined_184 (by decide) ?_
                    refine bs_goto (tgt := 189) dX6_joined_185 (by decide) ?_
                    cases h
                    exact bs_lret dX6_joined_189 rfl (Nat.zero_le _) (Nat.zero_le _) (kr _ rfl hR)
                · replace h := fg_iN e17 h
                  refine fg_tabD (b := 38) (tgt := 194) (sp := [38, 42, 43, 45, 47, 60, 61, 62]) dX6_joined_1 (by decide) (by decide) (by decide) ?_ (by decide) ?_
                  · intro k hk; simp only [List.mem_cons, List.not_mem_nil, or_false] at hk; rcases hk with rfl | rfl | rfl | rfl | rfl | rfl | rfl | rfl <;> assumption
                  · refine bs_lload_n dX6_joined_194 rfl ?_
                    refine bs_lload_n dX6_joined_195 rfl ?_
                    refine bs_lor dX6_joined_196 ?_
                    cases h
                    exact bs_lret dX6_joined_197 rfl (Nat.zero_le _) (Nat.zero_le _) (kr _ rfl hR)
noncomputable def FX6_reckon_j33 (x : Nat) (p1 : Nat) (mu : bs_Mm) (l0 : Int32) (l2 : Int32) : Option (Int32 × bs_Mm) :=
  if (nI 2) ≤ l2 then (
    fg_gd (fg_in (l2 - (nI 2)) 200) (
    fg_gd (fg_in (l2 - (nI 1)) 200) (
    fg_bd (FX6_joined x mu l0 (bs_lv (mu p1 (l2 - (nI 2)).toNatClampNeg)) (bs_lv (mu p1 (l2 - (nI 1)).toNatClampNeg))) (fun v4 => 
    fg_gd (fg_in (l2 - (nI 2)) 200) (
    fg_wr mu p1 (l2 - (nI 2)).toNatClampNeg (.long v4) (fun mu6 => 
    some ((l2 - (nI 1)), mu6))))))
  ) else (
    some (l2, mu)
  )
set_option maxHeartbeats 4000000 in
theorem wFX6_reckon_j33 {nx : Nat} {sh : bs_Sh} {R : Nat → Nat → Option Nat} {x : Nat} (HX : fg_S (bs_tS x) R x sh) {p1 : Nat} (h_p1 : fg_B R sh p1 200) {mu : bs_Mm} {l0 : Int32} {l2 : Int32} {Ph : bs_Po} {r : Int32 × bs_Mm} (kr : ∀ q, r = q → fg_R R q.2 → Ph (some (.int q.1)) nx sh q.2) (hR : fg_R R mu) (h : FX6_reckon_j33 x p1 mu l0 l2 = some r) : bs_W Ph mX6_reckon (bs_rm 3 0 0) 33 (bs_mk [(0, .int l0), (1, .ref p1), (2, .int l2)]) [] 0 0 nx sh mu := by
  unfold FX6_reckon_j33 at h
  refine bs_iload_n dX6_reckon_33 rfl ?_
  refine bs_iconst (v := (nI 2)) dX6_reckon_34 (by decide) ?_
  refine bs_icmp_ge (tgt := 40) dX6_reckon_35 (by decide) (fun c => ?_) (fun c => ?_)
  · replace h := fg_ip c h
    refine bs_aload_n dX6_reckon_40 rfl ?_
    refine bs_iload_n dX6_reckon_41 rfl ?_
    refine bs_iconst (v := (nI 2)) dX6_reckon_42 (by decide) ?_
    refine bs_isub dX6_reckon_43 ?_
    refine bs_iload_n dX6_reckon_44 rfl ?_
    refine bs_aload_n dX6_reckon_45 rfl ?_
    refine bs_iload_n dX6_reckon_46 rfl ?_
    refine bs_iconst (v := (nI 2)) dX6_reckon_47 (by decide) ?_
    refine bs_isub dX6_reckon_48 ?_
    obtain ⟨g1, h⟩ := fg_gdE h
    refine bs_lald dX6_reckon_49 (h_p1.1) (fg_in_ix g1) ?_
    refine bs_aload_n dX6_reckon_50 rfl ?_
    refine bs_iload_n dX6_reckon_51 rfl ?_
    refine bs_iconst (v := (nI 1)) dX6_reckon_52 (by decide) ?_
    refine bs_isub dX6_reckon_53 ?_
    obtain ⟨g2, h⟩ := fg_gdE h
    refine bs_lald dX6_reckon_54 (h_p1.1) (fg_in_ix g2) ?_
    obtain ⟨v4, k3, h⟩ := fg_bdE h
    refine fg_callS dX6_reckon_55 qX6_35 (wX6_joined HX hR k3) rfl rfl (Nat.le_of_ble_eq_true rfl) (fg_cr (by first | decide | omega) (by decide)) (fun hR => ?_)
    obtain ⟨g5, h⟩ := fg_gdE h
    refine fg_last dX6_reckon_58 (h_p1.1) (h_p1.2.1) g5 hR h (fun mu6 hR h => ?_)
    refine bs_iload_n dX6_reckon_59 rfl ?_
    refine bs_iconst (v := (nI 1)) dX6_reckon_60 (by decide) ?_
    refine bs_isub dX6_reckon_61 ?_
    cases h
    exact bs_iret dX6_reckon_62 rfl (Nat.zero_le _) (Nat.zero_le _) (kr _ rfl hR)
  · replace h := fg_iN c h
    refine bs_iload_n dX6_reckon_38 rfl ?_
    cases h
    exact bs_iret dX6_reckon_39 rfl (Nat.zero_le _) (Nat.zero_le _) (kr _ rfl hR)
noncomputable def FX6_reckon (x : Nat) (mu : bs_Mm) (p0 : Int32) (p1 : Nat) (p2 : Int32) : Option (Int32 × bs_Mm) :=
  if p0 = (nI 33) then (
    if p2 < (nI 1) then (
      FX6_reckon_j33 x p1 mu p0 p2
    ) else (
      fg_gd (fg_in (p2 - (nI 1)) 200) (
      if (lg_cmp (bs_lv (mu p1 (p2 - (nI 1)).toNatClampNeg)) (0 : Int64)) = 0 then (
        fg_gd (fg_in (p2 - (nI 1)) 200) (
        fg_wr mu p1 (p2 - (nI 1)).toNatClampNeg (.long (1 : Int64)) (fun mu11 => 
        some (p2, mu11)))
      ) else (
        fg_gd (fg_in (p2 - (nI 1)) 200) (
        fg_wr mu p1 (p2 - (nI 1)).toNatClampNeg (.long (0 : Int64)) (fun mu9 => 
        some (p2, mu9)))
      ))
    )
  ) else (
    FX6_reckon_j33 x p1 mu p0 p2
  )
set_option maxHeartbeats 4000000 in
theorem wX6_reckon {nx : Nat} {sh : bs_Sh} {R : Nat → Nat → Option Nat} {x : Nat} (HX : fg_S (bs_tS x) R x sh) {p1 : Nat} (h_p1 : fg_B R sh p1 200) {mu : bs_Mm} (hR : fg_R R mu) {p0 : Int32} {p2 : Int32} {r : Int32 × bs_Mm} (h : FX6_reckon x mu p0 p1 p2 = some r) : bs_C mX6_reckon (bs_rm 3 0 0) [.int p0, .ref p1, .int p2] nx sh mu (fg_po R nx sh (some (.int r.1)) r.2) := by
  refine bs_ct (by decide +kernel) (Nat.le_of_ble_eq_true rfl) ?_
  have kr : ∀ q, r = q → fg_R R q.2 → (fg_po R nx sh (some (.int r.1)) r.2) (some (.int q.1)) nx sh q.2 := fun q e hq => by subst e; exact ⟨rfl, rfl, rfl, rfl, hq⟩
  unfold FX6_reckon at h
  refine bs_iload_n dX6_reckon_0 rfl ?_
  refine bs_bipush (v := (nI 33)) dX6_reckon_1 (by decide) ?_
  refine bs_icmp_ne (tgt := 33) dX6_reckon_3 (by decide) (fun c => ?_) (fun c => ?_)
  · replace h := fg_iN c h
    refine bs_W.mk [(0, .int p0), (1, .ref p1), (2, .int p2)] (by intro q hq; simp only [List.mem_cons, List.not_mem_nil, or_false] at hq; rcases hq with rfl | rfl | rfl <;> rfl) ?_
    exact wFX6_reckon_j33 HX h_p1 kr hR h
  · replace h := fg_ip c h
    refine bs_iload_n dX6_reckon_6 rfl ?_
    refine bs_iconst (v := (nI 1)) dX6_reckon_7 (by decide) ?_
    refine bs_icmp_lt (tgt := 33) dX6_reckon_8 (by decide) (fun c => ?_) (fun c => ?_)
    · replace h := fg_ip c h
      refine bs_W.mk [(0, .int p0), (1, .ref p1), (2, .int p2)] (by intro q hq; simp only [List.mem_cons, List.not_mem_nil, or_false] at hq; rcases hq with rfl | rfl | rfl <;> rfl) ?_
      exact wFX6_reckon_j33 HX h_p1 kr hR h
    · replace h := fg_iN c h
      refine bs_aload_n dX6_reckon_11 rfl ?_
      refine bs_iload_n dX6_reckon_12 rfl ?_
      refine bs_iconst (v := (nI 1)) dX6_reckon_13 (by decide) ?_
      refine bs_isub dX6_reckon_14 ?_
      refine bs_aload_n dX6_reckon_15 rfl ?_
      refine bs_iload_n dX6_reckon_16 rfl ?_
      refine bs_iconst (v := (nI 1)) dX6_reckon_17 (by decide) ?_
      refine bs_isub dX6_reckon_18 ?_
      obtain ⟨g7, h⟩ := fg_gdE h
      refine bs_lald dX6_reckon_19 (h_p1.1) (fg_in_ix g7) ?_
      refine bs_lconst (v := 0) dX6_reckon_20 (by decide) ?_
      refine bs_lcmp dX6_reckon_21 ?_
      refine bs_if_ne (tgt := 29) dX6_reckon_22 (by decide) (fun c => ?_) (fun c => ?_)
      · replace h := fg_iN c h
        refine bs_lconst (v := 0) dX6_reckon_29 (by decide) ?_
        obtain ⟨g8, h⟩ := fg_gdE h
        refine fg_last dX6_reckon_30 (h_p1.1) (h_p1.2.1) g8 hR h (fun mu9 hR h => ?_)
        refine bs_iload_n dX6_reckon_31 rfl ?_
        cases h
        exact bs_iret dX6_reckon_32 rfl (Nat.zero_le _) (Nat.zero_le _) (kr _ rfl hR)
      · replace h := fg_ip c h
        refine bs_lconst (v := 1) dX6_reckon_25 (by decide) ?_
        refine bs_goto (tgt := 30) dX6_reckon_26 (by decide) ?_
        obtain ⟨g10, h⟩ := fg_gdE h
        refine fg_last dX6_reckon_30 (h_p1.1) (h_p1.2.1) g10 hR h (fun mu11 hR h => ?_)
        refine bs_iload_n dX6_reckon_31 rfl ?_
        cases h
        exact bs_iret dX6_reckon_32 rfl (Nat.zero_le _) (Nat.zero_le _) (kr _ rfl hR)
noncomputable def FX6_worthBy_j72_L5 (x : Nat) (u : Nat) (p1 : Nat) (p2 : Nat) (mu : bs_Mm) (l4 : Int32) (l5 : Int32) (t0 : Int32) : Option ((Int32 × Int32 × bs_Mm) ⊕ ((bs_Mm) ⊕ (Int32 × bs_Mm))) :=
  if t0 = 0 then (
    some (.inl ((nI 0), ((if l4 < ((l5 - (nI 20000)) - (nI 1)) then ((l5 - (nI 20000)) - (nI 1)) else l4) + (nI 1)), mu))
  ) else (
    some (.inl ((nI 0), (l4 + (nI 1)), mu))
  )
set_option maxHeartbeats 4000000 in
theorem wFX6_worthBy_j72_L5 {nx : Nat} {sh : bs_Sh} {R : Nat → Nat → Option Nat} {x : Nat} (HX : fg_S (bs_tS x) R x sh) {u : Nat} (h_u : fg_U R sh u) {p1 : Nat} (h_p1 : fg_A R sh p1 5) {p2 : Nat} (h_p2 : fg_B R sh p2 200) {mu : bs_Mm} {l4 : Int32} {l5 : Int32} {t0 : Int32} {Ph : bs_Po} {r : (Int32 × Int32 × bs_Mm) ⊕ ((bs_Mm) ⊕ (Int32 × bs_Mm))} (ka : ∀ s, r = .inl s → fg_R R s.2.2 → bs_W Ph mX6_worthBy (bs_rm 4 0 0) 5 (bs_mk [(0, .ref u), (1, .ref p1), (2, .ref p2), (3, .int s.1), (4, .int s.2.1)]) [] 0 0 nx sh s.2.2) (ke : ∀ s, r = .inr (.inl s) → fg_R R s → bs_W Ph mX6_worthBy (bs_rm 4 0 0) 162 (bs_mk [(0, .ref u), (1, .ref p1), (2, .ref p2)]) [] 0 0 nx sh s) (kr : ∀ q, r = .inr (.inr q) → fg_R R q.2 → Ph (some (.int q.1)) nx sh q.2) (hR : fg_R R mu) (h : FX6_worthBy_j72_L5 x u p1 p2 mu l4 l5 t0 = some r) : bs_W Ph mX6_worthBy (bs_rm 4 0 0) 72 (bs_mk [(0, .ref u), (1, .ref p1), (2, .ref p2), (4, .int l4), (5, .int l5)]) [.int t0] 0 0 nx sh mu := by
  unfold FX6_worthBy_j72_L5 at h
  refine bs_istore dX6_worthBy_72 rfl (by decide) ?_
  refine bs_iconst (v := (nI 0)) dX6_worthBy_74 (by decide) ?_
  refine bs_istore_n dX6_worthBy_75 rfl (by decide) ?_
  refine bs_iload dX6_worthBy_76 rfl ?_
  refine bs_if_eq (tgt := 86) dX6_worthBy_78 (by decide) (fun c => ?_) (fun c => ?_)
  · replace h := fg_ip c h
    refine bs_iload dX6_worthBy_86 rfl ?_
    refine bs_iload dX6_worthBy_88 rfl ?_
    refine bs_sipush (v := (nI 20000)) dX6_worthBy_90 (by decide) ?_
    refine bs_isub dX6_worthBy_93 ?_
    refine bs_iconst (v := (nI 1)) dX6_worthBy_94 (by decide) ?_
    refine bs_isub dX6_worthBy_95 ?_
    refine bs_mmax dX6_worthBy_96 xX6_25 (by first | decide | (simp only [bs_rm]; omega)) (by first | exact Nat.le_of_ble_eq_true rfl | (simp only [bs_rm, List.map, List.sum_cons, List.sum_nil, Value.category]; omega)) (Nat.zero_le _) (Nat.zero_le _) ?_
    refine bs_istore dX6_worthBy_99 rfl (by decide) ?_
    refine bs_goto (tgt := 156) dX6_worthBy_101 (by decide) ?_
    refine fg_iinc (m := (nI 1)) dX6_worthBy_156 rfl rfl (by decide) ?_
    refine bs_goto (tgt := 5) dX6_worthBy_159 (by decide) ?_
    cases h
    refine bs_W.mk [(0, .ref u), (1, .ref p1), (2, .ref p2), (3, .int (nI 0)), (4, .int ((if l4 < ((l5 - (nI 20000)) - (nI 1)) then ((l5 - (nI 20000)) - (nI 1)) else l4) + (nI 1)))] (by intro q hq; simp only [List.mem_cons, List.not_mem_nil, or_false] at hq; rcases hq with rfl | rfl | rfl | rfl | rfl <;> rfl) (by have k := ka _ rfl hR; dsimp only at k; exact k)
  · replace h := fg_iN c h
    refine bs_iload dX6_worthBy_81 rfl ?_
    refine bs_goto (tgt := 99) dX6_worthBy_83 (by decide) ?_
    refine bs_istore dX6_worthBy_99 rfl (by decide) ?_
    refine bs_goto (tgt := 156) dX6_worthBy_101 (by decide) ?_
    refine fg_iinc (m := (nI 1)) dX6_worthBy_156 rfl rfl (by decide) ?_
    refine bs_goto (tgt := 5) dX6_worthBy_159 (by decide) ?_
    cases h
    refine bs_W.mk [(0, .ref u), (1, .ref p1), (2, .ref p2), (3, .int (nI 0)), (4, .int (l4 + (nI 1)))] (by intro q hq; simp only [List.mem_cons, List.not_mem_nil, or_false] at hq; rcases hq with rfl | rfl | rfl | rfl | rfl <;> rfl) (by have k := ka _ rfl hR; dsimp only at k; exact k)
noncomputable def FX6_worthBy_j71_L5 (x : Nat) (u : Nat) (p1 : Nat) (p2 : Nat) (mu : bs_Mm) (l4 : Int32) (l5 : Int32) : Option ((Int32 × Int32 × bs_Mm) ⊕ ((bs_Mm) ⊕ (Int32 × bs_Mm))) :=
  FX6_worthBy_j72_L5 x u p1 p2 mu l4 l5 (nI 0)
set_option maxHeartbeats 4000000 in
theorem wFX6_worthBy_j71_L5 {nx : Nat} {sh : bs_Sh} {R : Nat → Nat → Option Nat} {x : Nat} (HX : fg_S (bs_tS x) R x sh) {u : Nat} (h_u : fg_U R sh u) {p1 : Nat} (h_p1 : fg_A R sh p1 5) {p2 : Nat} (h_p2 : fg_B R sh p2 200) {mu : bs_Mm} {l4 : Int32} {l5 : Int32} {Ph : bs_Po} {r : (Int32 × Int32 × bs_Mm) ⊕ ((bs_Mm) ⊕ (Int32 × bs_Mm))} (ka : ∀ s, r = .inl s → fg_R R s.2.2 → bs_W Ph mX6_worthBy (bs_rm 4 0 0) 5 (bs_mk [(0, .ref u), (1, .ref p1), (2, .ref p2), (3, .int s.1), (4, .int s.2.1)]) [] 0 0 nx sh s.2.2) (ke : ∀ s, r = .inr (.inl s) → fg_R R s → bs_W Ph mX6_worthBy (bs_rm 4 0 0) 162 (bs_mk [(0, .ref u), (1, .ref p1), (2, .ref p2)]) [] 0 0 nx sh s) (kr : ∀ q, r = .inr (.inr q) → fg_R R q.2 → Ph (some (.int q.1)) nx sh q.2) (hR : fg_R R mu) (h : FX6_worthBy_j71_L5 x u p1 p2 mu l4 l5 = some r) : bs_W Ph mX6_worthBy (bs_rm 4 0 0) 71 (bs_mk [(0, .ref u), (1, .ref p1), (2, .ref p2), (4, .int l4), (5, .int l5)]) [] 0 0 nx sh mu := by
  unfold FX6_worthBy_j71_L5 at h
  refine bs_iconst (v := (nI 0)) dX6_worthBy_71 (by decide) ?_
  refine bs_W.mk [(0, .ref u), (1, .ref p1), (2, .ref p2), (4, .int l4), (5, .int l5)] (by intro q hq; simp only [List.mem_cons, List.not_mem_nil, or_false] at hq; rcases hq with rfl | rfl | rfl | rfl | rfl <;> rfl) ?_
  exact wFX6_worthBy_j72_L5 HX h_u h_p1 h_p2 ka ke kr hR h
noncomputable def FX6_worthBy_b5 (x : Nat) (u : Nat) (p1 : Nat) (p2 : Nat)  (s : Int32 × Int32 × bs_Mm) : Option ((Int32 × Int32 × bs_Mm) ⊕ ((bs_Mm) ⊕ (Int32 × bs_Mm))) :=
  if (bs_iv (s.2.2 u 1)) ≤ s.2.1 then (
    some (.inr (.inl s.2.2))
  ) else (
    fg_gd (fg_in s.2.1 201) (
    if (bs_iv (s.2.2 (u + 1) s.2.1.toNatClampNeg)) = (-59) then (
      if s.1 ≤ 0 then (
        some (.inr (.inr ((nI 0), s.2.2)))
      ) else (
        fg_gd (fg_in (s.1 - (nI 1)) 200) (
        some (.inr (.inr ((Int64.toInt32 (bs_lv (s.2.2 p2 (s.1 - (nI 1)).toNatClampNeg))), s.2.2))))
      )
    ) else (
      if (bs_iv (s.2.2 (u + 1) s.2.1.toNatClampNeg)) < (nI 20000) then (
        if 0 ≤ (bs_iv (s.2.2 (u + 1) s.2.1.toNatClampNeg)) then (
          if (nI 200) ≤ s.1 then (
            some (.inl (s.1, (s.2.1 + (nI 1)), s.2.2))
          ) else (
            if (bs_iv (s.2.2 (u + 1) s.2.1.toNatClampNeg)) < (nI 10000) then (
              fg_gd (fg_in s.1 200) (
              fg_wr s.2.2 p2 s.1.toNatClampNeg (.long (Int32.toInt64 (bs_iv (s.2.2 (u + 1) s.2.1.toNatClampNeg)))) (fun mu3 => 
              some (.inl ((s.1 + (nI 1)), (s.2.1 + (nI 1)), mu3))))
            ) else (
              fg_gd (fg_in ((bs_iv (s.2.2 (u + 1) s.2.1.toNatClampNeg)) - (nI 10000)) 5) (
              fg_gd (fg_in s.1 200) (
              fg_wr s.2.2 p2 s.1.toNatClampNeg (.long (Int32.toInt64 (bs_iv (s.2.2 p1 ((bs_iv (s.2.2 (u + 1) s.2.1.toNatClampNeg)) - (nI 10000)).toNatClampNeg)))) (fun mu6 => 
              some (.inl ((s.1 + (nI 1)), (s.2.1 + (nI 1)), mu6)))))
            )
          )
        ) else (
          fg_b2 (FX6_reckon x s.2.2 (-(bs_iv (s.2.2 (u + 1) s.2.1.toNatClampNeg))) p2 s.1) (fun v9 mu8 => 
          some (.inl (v9, (s.2.1 + (nI 1)), mu8)))
        )
      ) else (
        if s.1 ≤ 0 then (
          FX6_worthBy_j71_L5 x u p1 p2 s.2.2 s.2.1 (bs_iv (s.2.2 (u + 1) s.2.1.toNatClampNeg))
        ) else (
          fg_gd (fg_in (s.1 - (nI 1)) 200) (
          if (lg_cmp (bs_lv (s.2.2 p2 (s.1 - (nI 1)).toNatClampNeg)) (0 : Int64)) = 0 then (
            FX6_worthBy_j71_L5 x u p1 p2 s.2.2 s.2.1 (bs_iv (s.2.2 (u + 1) s.2.1.toNatClampNeg))
          ) else (
            FX6_worthBy_j72_L5 x u p1 p2 s.2.2 s.2.1 (bs_iv (s.2.2 (u + 1) s.2.1.toNatClampNeg)) (nI 1)
          ))
        )
      )
    ))
  )
set_option maxHeartbeats 4000000 in
theorem wFX6_worthBy_b5 {nx : Nat} {sh : bs_Sh} {R : Nat → Nat → Option Nat} {x : Nat} (HX : fg_S (bs_tS x) R x sh) {u : Nat} (h_u : fg_U R sh u) {p1 : Nat} (h_p1 : fg_A R sh p1 5) {p2 : Nat} (h_p2 : fg_B R sh p2 200) {Ph : bs_Po} {s : Int32 × Int32 × bs_Mm} {r : (Int32 × Int32 × bs_Mm) ⊕ ((bs_Mm) ⊕ (Int32 × bs_Mm))} (ka : ∀ s, r = .inl s → fg_R R s.2.2 → bs_W Ph mX6_worthBy (bs_rm 4 0 0) 5 (bs_mk [(0, .ref u), (1, .ref p1), (2, .ref p2), (3, .int s.1), (4, .int s.2.1)]) [] 0 0 nx sh s.2.2) (ke : ∀ s, r = .inr (.inl s) → fg_R R s → bs_W Ph mX6_worthBy (bs_rm 4 0 0) 162 (bs_mk [(0, .ref u), (1, .ref p1), (2, .ref p2)]) [] 0 0 nx sh s) (kr : ∀ q, r = .inr (.inr q) → fg_R R q.2 → Ph (some (.int q.1)) nx sh q.2) (hR : fg_R R s.2.2) (h : FX6_worthBy_b5 x u p1 p2 s = some r) : bs_W Ph mX6_worthBy (bs_rm 4 0 0) 5 (bs_mk [(0, .ref u), (1, .ref p1), (2, .ref p2), (3, .int s.1), (4, .int s.2.1)]) [] 0 0 nx sh s.2.2 := by
  unfold FX6_worthBy_b5 at h
  refine bs_iload dX6_worthBy_5 rfl ?_
  refine bs_aload_n dX6_worthBy_7 rfl ?_
  refine bs_getI dX6_worthBy_8 fX6_21 (h_u.1) ?_
  refine bs_icmp_ge (tgt := 162) dX6_worthBy_11 (by decide) (fun c => ?_) (fun c => ?_)
  · replace h := fg_ip c h
    cases h
    refine bs_W.mk [(0, .ref u), (1, .ref p1), (2, .ref p2)] (by intro q hq; simp only [List.mem_cons, List.not_mem_nil, or_false] at hq; rcases hq with rfl | rfl | rfl <;> rfl) (ke _ rfl hR)
  · replace h := fg_iN c h
    refine bs_aload_n dX6_worthBy_14 rfl ?_
    refine fg_getR (b := (u + 1)) dX6_worthBy_15 fX6_11 (h_u.1) hR (h_u.2.2.1) ?_
    refine bs_iload dX6_worthBy_18 rfl ?_
    obtain ⟨g1, h⟩ := fg_gdE h
    refine bs_iald dX6_worthBy_20 (h_u.2.1) (fg_in_ix g1) ?_
    refine bs_istore dX6_worthBy_21 rfl (by decide) ?_
    refine bs_iload dX6_worthBy_23 rfl ?_
    refine bs_bipush (v := (-59)) dX6_worthBy_25 (by decide) ?_
    refine bs_icmp_ne (tgt := 45) dX6_worthBy_27 (by decide) (fun c => ?_) (fun c => ?_)
    · replace h := fg_iN c h
      refine bs_iload dX6_worthBy_45 rfl ?_
      refine bs_sipush (v := (nI 20000)) dX6_worthBy_47 (by decide) ?_
      refine bs_icmp_lt (tgt := 104) dX6_worthBy_50 (by decide) (fun c => ?_) (fun c => ?_)
      · replace h := fg_ip c h
        refine bs_iload dX6_worthBy_104 rfl ?_
        refine bs_if_ge (tgt := 121) dX6_worthBy_106 (by decide) (fun c => ?_) (fun c => ?_)
        · replace h := fg_ip c h
          refine bs_iload_n dX6_worthBy_121 rfl ?_
          refine bs_aload_n dX6_worthBy_122 rfl ?_
          refine bs_alen dX6_worthBy_123 (h_p2.1) (by decide) ?_
          refine bs_icmp_ge (tgt := 156) dX6_worthBy_124 (by decide) (fun c => ?_) (fun c => ?_)
          · replace h := fg_ip c h
            refine fg_iinc (m := (nI 1)) dX6_worthBy_156 rfl rfl (by decide) ?_
            refine bs_goto (tgt := 5) dX6_worthBy_159 (by decide) ?_
            cases h
            refine bs_W.mk [(0, .ref u), (1, .ref p1), (2, .ref p2), (3, .int s.1), (4, .int (s.2.1 + (nI 1)))] (by intro q hq; simp only [List.mem_cons, List.not_mem_nil, or_false] at hq; rcases hq with rfl | rfl | rfl | rfl | rfl <;> rfl) (by have k := ka _ rfl hR; dsimp only at k; exact k)
          · replace h := fg_iN c h
            refine bs_aload_n dX6_worthBy_127 rfl ?_
            refine bs_iload_n dX6_worthBy_128 rfl ?_
            refine bs_iload dX6_worthBy_129 rfl ?_
            refine bs_sipush (v := (nI 10000)) dX6_worthBy_131 (by decide) ?_
            refine bs_icmp_lt (tgt := 149) dX6_worthBy_134 (by decide) (fun c => ?_) (fun c => ?_)
            · replace h := fg_ip c h
              refine bs_iload dX6_worthBy_149 rfl ?_
              refine bs_i2l dX6_worthBy_151 ?_
              obtain ⟨g2, h⟩ := fg_gdE h
              refine fg_last dX6_worthBy_152 (h_p2.1) (h_p2.2.1) g2 hR h (fun mu3 hR h => ?_)
              refine fg_iinc (m := (nI 1)) dX6_worthBy_153 rfl rfl (by decide) ?_
              refine fg_iinc (m := (nI 1)) dX6_worthBy_156 rfl rfl (by decide) ?_
              refine bs_goto (tgt := 5) dX6_worthBy_159 (by decide) ?_
              cases h
              refine bs_W.mk [(0, .ref u), (1, .ref p1), (2, .ref p2), (3, .int (s.1 + (nI 1))), (4, .int (s.2.1 + (nI 1)))] (by intro q hq; simp only [List.mem_cons, List.not_mem_nil, or_false] at hq; rcases hq with rfl | rfl | rfl | rfl | rfl <;> rfl) (by have k := ka _ rfl hR; dsimp only at k; exact k)
            · replace h := fg_iN c h
              refine bs_aload_n dX6_worthBy_137 rfl ?_
              refine bs_iload dX6_worthBy_138 rfl ?_
              refine bs_sipush (v := (nI 10000)) dX6_worthBy_140 (by decide) ?_
              refine bs_isub dX6_worthBy_143 ?_
              obtain ⟨g4, h⟩ := fg_gdE h
              refine bs_iald dX6_worthBy_144 (h_p1.1) (fg_in_ix g4) ?_
              refine bs_i2l dX6_worthBy_145 ?_
              refine bs_goto (tgt := 152) dX6_worthBy_146 (by decide) ?_
              obtain ⟨g5, h⟩ := fg_gdE h
              refine fg_last dX6_worthBy_152 (h_p2.1) (h_p2.2.1) g5 hR h (fun mu6 hR h => ?_)
              refine fg_iinc (m := (nI 1)) dX6_worthBy_153 rfl rfl (by decide) ?_
              refine fg_iinc (m := (nI 1)) dX6_worthBy_156 rfl rfl (by decide) ?_
              refine bs_goto (tgt := 5) dX6_worthBy_159 (by decide) ?_
              cases h
              refine bs_W.mk [(0, .ref u), (1, .ref p1), (2, .ref p2), (3, .int (s.1 + (nI 1))), (4, .int (s.2.1 + (nI 1)))] (by intro q hq; simp only [List.mem_cons, List.not_mem_nil, or_false] at hq; rcases hq with rfl | rfl | rfl | rfl | rfl <;> rfl) (by have k := ka _ rfl hR; dsimp only at k; exact k)
        · replace h := fg_iN c h
          refine bs_iload dX6_worthBy_109 rfl ?_
          refine bs_ineg dX6_worthBy_111 ?_
          refine bs_aload_n dX6_worthBy_112 rfl ?_
          refine bs_iload_n dX6_worthBy_113 rfl ?_
          obtain ⟨v9, mu8, k7, h⟩ := fg_b2E h
          refine fg_callS dX6_worthBy_114 qX6_31 (wX6_reckon HX h_p2 hR k7) rfl rfl (Nat.le_of_ble_eq_true rfl) (fg_cr (by first | decide | omega) (by decide)) (fun hR => ?_)
          refine bs_istore_n dX6_worthBy_117 rfl (by decide) ?_
          refine bs_goto (tgt := 156) dX6_worthBy_118 (by decide) ?_
          refine fg_iinc (m := (nI 1)) dX6_worthBy_156 rfl rfl (by decide) ?_
          refine bs_goto (tgt := 5) dX6_worthBy_159 (by decide) ?_
          cases h
          refine bs_W.mk [(0, .ref u), (1, .ref p1), (2, .ref p2), (3, .int v9), (4, .int (s.2.1 + (nI 1)))] (by intro q hq; simp only [List.mem_cons, List.not_mem_nil, or_false] at hq; rcases hq with rfl | rfl | rfl | rfl | rfl <;> rfl) (by have k := ka _ rfl hR; dsimp only at k; exact k)
      · replace h := fg_iN c h
        refine bs_iload_n dX6_worthBy_53 rfl ?_
        refine bs_if_le (tgt := 71) dX6_worthBy_54 (by decide) (fun c => ?_) (fun c => ?_)
        · replace h := fg_ip c h
          refine bs_W.mk [(0, .ref u), (1, .ref p1), (2, .ref p2), (4, .int s.2.1), (5, .int (bs_iv (s.2.2 (u + 1) s.2.1.toNatClampNeg)))] (by intro q hq; simp only [List.mem_cons, List.not_mem_nil, or_false] at hq; rcases hq with rfl | rfl | rfl | rfl | rfl <;> rfl) ?_
          exact wFX6_worthBy_j71_L5 HX h_u h_p1 h_p2 ka ke kr hR h
        · replace h := fg_iN c h
          refine bs_aload_n dX6_worthBy_57 rfl ?_
          refine bs_iload_n dX6_worthBy_58 rfl ?_
          refine bs_iconst (v := (nI 1)) dX6_worthBy_59 (by decide) ?_
          refine bs_isub dX6_worthBy_60 ?_
          obtain ⟨g10, h⟩ := fg_gdE h
          refine bs_lald dX6_worthBy_61 (h_p2.1) (fg_in_ix g10) ?_
          refine bs_lconst (v := 0) dX6_worthBy_62 (by decide) ?_
          refine bs_lcmp dX6_worthBy_63 ?_
          refine bs_if_eq (tgt := 71) dX6_worthBy_64 (by decide) (fun c => ?_) (fun c => ?_)
          · replace h := fg_ip c h
            refine bs_W.mk [(0, .ref u), (1, .ref p1), (2, .ref p2), (4, .int s.2.1), (5, .int (bs_iv (s.2.2 (u + 1) s.2.1.toNatClampNeg)))] (by intro q hq; simp only [List.mem_cons, List.not_mem_nil, or_false] at hq; rcases hq with rfl | rfl | rfl | rfl | rfl <;> rfl) ?_
            exact wFX6_worthBy_j71_L5 HX h_u h_p1 h_p2 ka ke kr hR h
          · replace h := fg_iN c h
            refine bs_iconst (v := (nI 1)) dX6_worthBy_67 (by decide) ?_
            refine bs_goto (tgt := 72) dX6_worthBy_68 (by decide) ?_
            refine bs_W.mk [(0, .ref u), (1, .ref p1), (2, .ref p2), (4, .int s.2.1), (5, .int (bs_iv (s.2.2 (u + 1) s.2.1.toNatClampNeg)))] (by intro q hq; simp only [List.mem_cons, List.not_mem_nil, or_false] at hq; rcases hq with rfl | rfl | rfl | rfl | rfl <;> rfl) ?_
            exact wFX6_worthBy_j72_L5 HX h_u h_p1 h_p2 ka ke kr hR h
    · replace h := fg_ip c h
      refine bs_iload_n dX6_worthBy_30 rfl ?_
      refine bs_if_le (tgt := 43) dX6_worthBy_31 (by decide) (fun c => ?_) (fun c => ?_)
      · replace h := fg_ip c h
        refine bs_iconst (v := (nI 0)) dX6_worthBy_43 (by decide) ?_
        cases h
        exact bs_iret dX6_worthBy_44 rfl (Nat.zero_le _) (Nat.zero_le _) (kr _ rfl hR)
      · replace h := fg_iN c h
        refine bs_aload_n dX6_worthBy_34 rfl ?_
        refine bs_iload_n dX6_worthBy_35 rfl ?_
        refine bs_iconst (v := (nI 1)) dX6_worthBy_36 (by decide) ?_
        refine bs_isub dX6_worthBy_37 ?_
        obtain ⟨g11, h⟩ := fg_gdE h
        refine bs_lald dX6_worthBy_38 (h_p2.1) (fg_in_ix g11) ?_
        refine bs_l2i dX6_worthBy_39 ?_
        refine bs_goto (tgt := 44) dX6_worthBy_40 (by decide) ?_
        cases h
        exact bs_iret dX6_worthBy_44 rfl (Nat.zero_le _) (Nat.zero_le _) (kr _ rfl hR)
theorem wFX6_worthBy_l5 {nx : Nat} {sh : bs_Sh} {R : Nat → Nat → Option Nat} {x : Nat} (HX : fg_S (bs_tS x) R x sh) {u : Nat} (h_u : fg_U R sh u) {p1 : Nat} (h_p1 : fg_A R sh p1 5) {p2 : Nat} (h_p2 : fg_B R sh p2 200) {Ph : bs_Po} {t : (bs_Mm) ⊕ (Int32 × bs_Mm)} : ∀ n (y0 : Int32) (y1 : Int32) (mu1 : bs_Mm), fg_lp (FX6_worthBy_b5 x u p1 p2) n (y0, y1, mu1) = some t → fg_R R mu1 → (ke : ∀ s, t = .inl s → fg_R R s → bs_W Ph mX6_worthBy (bs_rm 4 0 0) 162 (bs_mk [(0, .ref u), (1, .ref p1), (2, .ref p2)]) [] 0 0 nx sh s) → (kr : ∀ q, t = .inr q → fg_R R q.2 → Ph (some (.int q.1)) nx sh q.2) → bs_W Ph mX6_worthBy (bs_rm 4 0 0) 5 (bs_mk [(0, .ref u), (1, .ref p1), (2, .ref p2), (3, .int y0), (4, .int y1)]) [] 0 0 nx sh mu1 := by
  intro n
  induction n with
  | zero => intro y0 y1 mu1 h; exact absurd h (fun z => fg_lp0 z)
  | succ n ih =>
    intro y0 y1 mu1 h hR ke kr
    obtain ⟨r, hb, h1, h2⟩ := fg_lpE h
    exact wFX6_worthBy_b5 (s := (y0, y1, mu1)) HX h_u h_p1 h_p2 (fun s' e hR' => ih s'.1 s'.2.1 s'.2.2 (h1 s' e) hR' ke kr) (fun s' e => ke s' (h2 _ e).symm) (fun q e => kr q (h2 _ e).symm) hR hb
noncomputable def FX6_worthBy (x : Nat) (u : Nat) (mu : bs_Mm) (p1 : Nat) (p2 : Nat) : Option (Int32 × bs_Mm) :=
  fg_l3 (fg_lp (FX6_worthBy_b5 x u p1 p2) fg_fu ((nI 0), (nI 0), mu)) (fun t12 => 
    some ((nI 0), t12)
  ) (fun q14 => some q14)
set_option maxHeartbeats 4000000 in
theorem wX6_worthBy {nx : Nat} {sh : bs_Sh} {R : Nat → Nat → Option Nat} {x : Nat} (HX : fg_S (bs_tS x) R x sh) {u : Nat} (h_u : fg_U R sh u) {p1 : Nat} (h_p1 : fg_A R sh p1 5) {p2 : Nat} (h_p2 : fg_B R sh p2 200) {mu : bs_Mm} (hR : fg_R R mu) {r : Int32 × bs_Mm} (h : FX6_worthBy x u mu p1 p2 = some r) : bs_C mX6_worthBy (bs_rm 4 0 0) [.ref u, .ref p1, .ref p2] nx sh mu (fg_po R nx sh (some (.int r.1)) r.2) := by
  refine bs_ct (by decide +kernel) (Nat.le_of_ble_eq_true rfl) ?_
  have kr : ∀ q, r = q → fg_R R q.2 → (fg_po R nx sh (some (.int r.1)) r.2) (some (.int q.1)) nx sh q.2 := fun q e hq => by subst e; exact ⟨rfl, rfl, rfl, rfl, hq⟩
  unfold FX6_worthBy at h
  refine bs_iconst (v := (nI 0)) dX6_worthBy_0 (by decide) ?_
  refine bs_istore_n dX6_worthBy_1 rfl (by decide) ?_
  refine bs_iconst (v := (nI 0)) dX6_worthBy_2 (by decide) ?_
  refine bs_istore dX6_worthBy_3 rfl (by decide) ?_
  obtain ⟨t120, k13, h1, h2⟩ := fg_l3E h
  refine bs_W.mk [(0, .ref u), (1, .ref p1), (2, .ref p2), (3, .int (nI 0)), (4, .int (nI 0))] (by intro q hq; simp only [List.mem_cons, List.not_mem_nil, or_false] at hq; rcases hq with rfl | rfl | rfl | rfl | rfl <;> rfl) ?_
  refine wFX6_worthBy_l5 HX h_u h_p1 h_p2 _ _ _ _ k13 hR ?_ ?_
  · intro t12 e hR
    replace h := h1 t12 e
    refine bs_iconst (v := (nI 0)) dX6_worthBy_162 (by decide) ?_
    cases h
    exact bs_iret dX6_worthBy_163 rfl (Nat.zero_le _) (Nat.zero_le _) (kr _ rfl hR)
  · intro q14 e hR
    replace h := h2 q14 e
    cases h
    exact kr _ rfl hR
noncomputable def FX1_twistBehind (x : Nat) (f : Nat) (mu : bs_Mm) (p1 : Int32) : Option (Int32) :=
  if (bs_iv (mu f 7)) ≤ (p1 + (nI 1)) then (
    some ((nI 0))
  ) else (
    fg_gd (fg_in p1 24) (
    fg_gd (fg_in (p1 + (nI 1)) 24) (
    if (bs_iv (mu (f + 5) p1.toNatClampNeg)) = (bs_iv (mu (f + 5) (p1 + (nI 1)).toNatClampNeg)) then (
      some ((nI 1))
    ) else (
      some ((nI 0))
    )))
  )
set_option maxHeartbeats 4000000 in
theorem wX1_twistBehind {nx : Nat} {sh : bs_Sh} {R : Nat → Nat → Option Nat} {x : Nat} (HX : fg_S (bs_tS x) R x sh) {f : Nat} (h_f : fg_F R sh f) {mu : bs_Mm} (hR : fg_R R mu) {p1 : Int32} {r : Int32} (h : FX1_twistBehind x f mu p1 = some r) : bs_C mX1_twistBehind (bs_rm 0 0 0) [.ref f, .int p1] nx sh mu (fg_po R nx sh (some (.int r)) mu) := by
  refine bs_ct (by decide +kernel) (Nat.le_of_ble_eq_true rfl) ?_
  have kr : ∀ q, r = q → fg_R R mu → (fg_po R nx sh (some (.int r)) mu) (some (.int q)) nx sh mu := fun q e hq => by subst e; exact ⟨rfl, rfl, rfl, rfl, hq⟩
  unfold FX1_twistBehind at h
  refine bs_iload_n dX1_twistBehind_0 rfl ?_
  refine bs_iconst (v := (nI 1)) dX1_twistBehind_1 (by decide) ?_
  refine bs_iadd dX1_twistBehind_2 ?_
  refine bs_aload_n dX1_twistBehind_3 rfl ?_
  refine bs_getI dX1_twistBehind_4 fX1_40 (h_f.s0) ?_
  refine bs_icmp_ge (tgt := 31) dX1_twistBehind_7 (by decide) (fun c => ?_) (fun c => ?_)
  · replace h := fg_ip c h
    refine bs_iconst (v := (nI 0)) dX1_twistBehind_31 (by decide) ?_
    cases h
    exact bs_zret dX1_twistBehind_32 rfl (Or.inl rfl) (Nat.zero_le _) (Nat.zero_le _) (kr _ rfl hR)
  · replace h := fg_iN c h
    refine bs_aload_n dX1_twistBehind_10 rfl ?_
    refine fg_getR (b := (f + 5)) dX1_twistBehind_11 fX1_24 (h_f.s0) hR (h_f.r4) ?_
    refine bs_iload_n dX1_twistBehind_14 rfl ?_
    obtain ⟨g1, h⟩ := fg_gdE h
    refine bs_iald dX1_twistBehind_15 (h_f.s5) (fg_in_ix g1) ?_
    refine bs_aload_n dX1_twistBehind_16 rfl ?_
    refine fg_getR (b := (f + 5)) dX1_twistBehind_17 fX1_24 (h_f.s0) hR (h_f.r4) ?_
    refine bs_iload_n dX1_twistBehind_20 rfl ?_
    refine bs_iconst (v := (nI 1)) dX1_twistBehind_21 (by decide) ?_
    refine bs_iadd dX1_twistBehind_22 ?_
    obtain ⟨g2, h⟩ := fg_gdE h
    refine bs_iald dX1_twistBehind_23 (h_f.s5) (fg_in_ix g2) ?_
    refine bs_icmp_ne (tgt := 31) dX1_twistBehind_24 (by decide) (fun c => ?_) (fun c => ?_)
    · replace h := fg_iN c h
      refine bs_iconst (v := (nI 0)) dX1_twistBehind_31 (by decide) ?_
      cases h
      exact bs_zret dX1_twistBehind_32 rfl (Or.inl rfl) (Nat.zero_le _) (Nat.zero_le _) (kr _ rfl hR)
    · replace h := fg_ip c h
      refine bs_iconst (v := (nI 1)) dX1_twistBehind_27 (by decide) ?_
      refine bs_goto (tgt := 32) dX1_twistBehind_28 (by decide) ?_
      cases h
      exact bs_zret dX1_twistBehind_32 rfl (Or.inr rfl) (Nat.zero_le _) (Nat.zero_le _) (kr _ rfl hR)
noncomputable def FX5_hangsLoose_j76 (x : Nat) (p1 : Nat) (mu : bs_Mm) (l2 : Int32) (t0 : Int32) : Option (Int32) :=
  if t0 = 0 then (
    some ((nI 0))
  ) else (
    fg_gd (fg_in l2 24) (
    fg_gd (fg_in (bs_iv (mu (p1 + 4) l2.toNatClampNeg)) 30) (
    if (nI 3) ≤ (bs_iv (mu (x + 28) (bs_iv (mu (p1 + 4) l2.toNatClampNeg)).toNatClampNeg)) then (
      some ((nI 0))
    ) else (
      some ((nI 1))
    )))
  )
set_option maxHeartbeats 4000000 in
theorem wFX5_hangsLoose_j76 {nx : Nat} {sh : bs_Sh} {R : Nat → Nat → Option Nat} {x : Nat} (HX : fg_S (bs_tS x) R x sh) {p1 : Nat} (h_p1 : fg_F R sh p1) {mu : bs_Mm} {l2 : Int32} {t0 : Int32} {Ph : bs_Po} {r : Int32} (kr : ∀ q, r = q → fg_R R mu → Ph (some (.int q)) nx sh mu) (hR : fg_R R mu) (h : FX5_hangsLoose_j76 x p1 mu l2 t0 = some r) : bs_W Ph mX5_hangsLoose (bs_rm 1 0 0) 76 (bs_mk [(0, .ref (x + 26)), (1, .ref p1), (2, .int l2)]) [.int t0] 0 0 nx sh mu := by
  unfold FX5_hangsLoose_j76 at h
  refine bs_istore0 (j := 4) dX5_hangsLoose_76 rfl (by decide) ?_
  refine bs_iload dX5_hangsLoose_78 rfl ?_
  refine bs_if_eq (tgt := 102) dX5_hangsLoose_80 (by decide) (fun c => ?_) (fun c => ?_)
  · replace h := fg_ip c h
    refine bs_iconst (v := (nI 0)) dX5_hangsLoose_102 (by decide) ?_
    cases h
    exact bs_zret dX5_hangsLoose_103 rfl (Or.inl rfl) (Nat.zero_le _) (Nat.zero_le _) (kr _ rfl hR)
  · replace h := fg_iN c h
    refine bs_aload_n dX5_hangsLoose_83 rfl ?_
    refine fg_getR (b := (x + 28)) dX5_hangsLoose_84 fX5_15 (HX.s 26 rfl rfl rfl) hR (HX.r 26 1 rfl rfl rfl) ?_
    refine bs_aload_n dX5_hangsLoose_87 rfl ?_
    refine fg_getR (b := (p1 + 4)) dX5_hangsLoose_88 fX5_38 (h_p1.s0) hR (h_p1.r3) ?_
    refine bs_iload_n dX5_hangsLoose_91 rfl ?_
    obtain ⟨g3, h⟩ := fg_gdE h
    refine bs_iald dX5_hangsLoose_92 (h_p1.s4) (fg_in_ix g3) ?_
    obtain ⟨g4, h⟩ := fg_gdE h
    refine bs_iald dX5_hangsLoose_93 (HX.ss 28 rfl rfl) (fg_in_ix g4) ?_
    refine bs_iconst (v := (nI 3)) dX5_hangsLoose_94 (by decide) ?_
    refine bs_icmp_ge (tgt := 102) dX5_hangsLoose_95 (by decide) (fun c => ?_) (fun c => ?_)
    · replace h := fg_ip c h
      refine bs_iconst (v := (nI 0)) dX5_hangsLoose_102 (by decide) ?_
      cases h
      exact bs_zret dX5_hangsLoose_103 rfl (Or.inl rfl) (Nat.zero_le _) (Nat.zero_le _) (kr _ rfl hR)
    · replace h := fg_iN c h
      refine bs_iconst (v := (nI 1)) dX5_hangsLoose_98 (by decide) ?_
      refine bs_goto (tgt := 103) dX5_hangsLoose_99 (by decide) ?_
      cases h
      exact bs_zret dX5_hangsLoose_103 rfl (Or.inr rfl) (Nat.zero_le _) (Nat.zero_le _) (kr _ rfl hR)
noncomputable def FX5_hangsLoose_j75 (x : Nat) (p1 : Nat) (mu : bs_Mm) (l2 : Int32) : Option (Int32) :=
  FX5_hangsLoose_j76 x p1 mu l2 (nI 0)
set_option maxHeartbeats 4000000 in
theorem wFX5_hangsLoose_j75 {nx : Nat} {sh : bs_Sh} {R : Nat → Nat → Option Nat} {x : Nat} (HX : fg_S (bs_tS x) R x sh) {p1 : Nat} (h_p1 : fg_F R sh p1) {mu : bs_Mm} {l2 : Int32} {Ph : bs_Po} {r : Int32} (kr : ∀ q, r = q → fg_R R mu → Ph (some (.int q)) nx sh mu) (hR : fg_R R mu) (h : FX5_hangsLoose_j75 x p1 mu l2 = some r) : bs_W Ph mX5_hangsLoose (bs_rm 1 0 0) 75 (bs_mk [(0, .ref (x + 26)), (1, .ref p1), (2, .int l2)]) [] 0 0 nx sh mu := by
  unfold FX5_hangsLoose_j75 at h
  refine bs_iconst (v := (nI 0)) dX5_hangsLoose_75 (by decide) ?_
  refine bs_W.mk [(0, .ref (x + 26)), (1, .ref p1), (2, .int l2)] (by intro q hq; simp only [List.mem_cons, List.not_mem_nil, or_false] at hq; rcases hq with rfl | rfl | rfl <;> rfl) ?_
  exact wFX5_hangsLoose_j76 HX h_p1 kr hR h
noncomputable def FX5_hangsLoose_j53 (x : Nat) (p1 : Nat) (mu : bs_Mm) (l2 : Int32) (l3 : Int32) : Option (Int32) :=
  fg_bd (FX1_twistBehind x p1 mu l2) (fun v2 => 
  if v2 = 0 then (
    FX5_hangsLoose_j75 x p1 mu l2
  ) else (
    if (l3 &&& ((nI 1) <<< ((l2 + (nI 1)) &&& 31))) = 0 then (
      FX5_hangsLoose_j75 x p1 mu l2
    ) else (
      FX5_hangsLoose_j76 x p1 mu l2 (nI 1)
    )
  ))
set_option maxHeartbeats 4000000 in
theorem wFX5_hangsLoose_j53 {nx : Nat} {sh : bs_Sh} {R : Nat → Nat → Option Nat} {x : Nat} (HX : fg_S (bs_tS x) R x sh) {p1 : Nat} (h_p1 : fg_F R sh p1) {mu : bs_Mm} {l2 : Int32} {l3 : Int32} {Ph : bs_Po} {r : Int32} (kr : ∀ q, r = q → fg_R R mu → Ph (some (.int q)) nx sh mu) (hR : fg_R R mu) (h : FX5_hangsLoose_j53 x p1 mu l2 l3 = some r) : bs_W Ph mX5_hangsLoose (bs_rm 1 0 0) 53 (bs_mk [(0, .ref (x + 26)), (1, .ref p1), (2, .int l2), (3, .int l3)]) [] 0 0 nx sh mu := by
  unfold FX5_hangsLoose_j53 at h
  refine bs_aload_n dX5_hangsLoose_53 rfl ?_
  refine bs_iload_n dX5_hangsLoose_54 rfl ?_
  obtain ⟨v2, k1, h⟩ := fg_bdE h
  refine fg_callV dX5_hangsLoose_55 qX5_41 (wX1_twistBehind HX h_p1 hR k1) rfl (h_p1.s0) rfl (Nat.le_of_ble_eq_true rfl) (fg_cr (by first | decide | omega) (by decide)) (fun hR => ?_)
  refine bs_if_eq (tgt := 75) dX5_hangsLoose_58 (by decide) (fun c => ?_) (fun c => ?_)
  · replace h := fg_ip c h
    refine bs_W.mk [(0, .ref (x + 26)), (1, .ref p1), (2, .int l2)] (by intro q hq; simp only [List.mem_cons, List.not_mem_nil, or_false] at hq; rcases hq with rfl | rfl | rfl <;> rfl) ?_
    exact wFX5_hangsLoose_j75 HX h_p1 kr hR h
  · replace h := fg_iN c h
    refine bs_iload_n dX5_hangsLoose_61 rfl ?_
    refine bs_iconst (v := (nI 1)) dX5_hangsLoose_62 (by decide) ?_
    refine bs_iload_n dX5_hangsLoose_63 rfl ?_
    refine bs_iconst (v := (nI 1)) dX5_hangsLoose_64 (by decide) ?_
    refine bs_iadd dX5_hangsLoose_65 ?_
    refine bs_ishl dX5_hangsLoose_66 ?_
    refine bs_iand dX5_hangsLoose_67 ?_
    refine bs_if_eq (tgt := 75) dX5_hangsLoose_68 (by decide) (fun c => ?_) (fun c => ?_)
    · replace h := fg_ip c h
      refine bs_W.mk [(0, .ref (x + 26)), (1, .ref p1), (2, .int l2)] (by intro q hq; simp only [List.mem_cons, List.not_mem_nil, or_false] at hq; rcases hq with rfl | rfl | rfl <;> rfl) ?_
      exact wFX5_hangsLoose_j75 HX h_p1 kr hR h
    · replace h := fg_iN c h
      refine bs_iconst (v := (nI 1)) dX5_hangsLoose_71 (by decide) ?_
      refine bs_goto (tgt := 76) dX5_hangsLoose_72 (by decide) ?_
      refine bs_W.mk [(0, .ref (x + 26)), (1, .ref p1), (2, .int l2)] (by intro q hq; simp only [List.mem_cons, List.not_mem_nil, or_false] at hq; rcases hq with rfl | rfl | rfl <;> rfl) ?_
      exact wFX5_hangsLoose_j76 HX h_p1 kr hR h
noncomputable def FX5_hangsLoose_j29 (x : Nat) (p1 : Nat) (mu : bs_Mm) (l2 : Int32) (l3 : Int32) (t0 : Int32) : Option (Int32) :=
  if t0 = 0 then (
    FX5_hangsLoose_j53 x p1 mu l2 l3
  ) else (
    fg_gd (fg_in l2 24) (
    fg_gd (fg_in (bs_iv (mu (p1 + 3) l2.toNatClampNeg)) 30) (
    if (nI 3) ≤ (bs_iv (mu (x + 28) (bs_iv (mu (p1 + 3) l2.toNatClampNeg)).toNatClampNeg)) then (
      FX5_hangsLoose_j53 x p1 mu l2 l3
    ) else (
      some ((nI 1))
    )))
  )
set_option maxHeartbeats 4000000 in
theorem wFX5_hangsLoose_j29 {nx : Nat} {sh : bs_Sh} {R : Nat → Nat → Option Nat} {x : Nat} (HX : fg_S (bs_tS x) R x sh) {p1 : Nat} (h_p1 : fg_F R sh p1) {mu : bs_Mm} {l2 : Int32} {l3 : Int32} {t0 : Int32} {Ph : bs_Po} {r : Int32} (kr : ∀ q, r = q → fg_R R mu → Ph (some (.int q)) nx sh mu) (hR : fg_R R mu) (h : FX5_hangsLoose_j29 x p1 mu l2 l3 t0 = some r) : bs_W Ph mX5_hangsLoose (bs_rm 1 0 0) 29 (bs_mk [(0, .ref (x + 26)), (1, .ref p1), (2, .int l2), (3, .int l3)]) [.int t0] 0 0 nx sh mu := by
  unfold FX5_hangsLoose_j29 at h
  refine bs_istore dX5_hangsLoose_29 rfl (by decide) ?_
  refine bs_iload dX5_hangsLoose_31 rfl ?_
  refine bs_if_eq (tgt := 53) dX5_hangsLoose_33 (by decide) (fun c => ?_) (fun c => ?_)
  · replace h := fg_ip c h
    refine bs_W.mk [(0, .ref (x + 26)), (1, .ref p1), (2, .int l2), (3, .int l3)] (by intro q hq; simp only [List.mem_cons, List.not_mem_nil, or_false] at hq; rcases hq with rfl | rfl | rfl | rfl <;> rfl) ?_
    exact wFX5_hangsLoose_j53 HX h_p1 kr hR h
  · replace h := fg_iN c h
    refine bs_aload_n dX5_hangsLoose_36 rfl ?_
    refine fg_getR (b := (x + 28)) dX5_hangsLoose_37 fX5_15 (HX.s 26 rfl rfl rfl) hR (HX.r 26 1 rfl rfl rfl) ?_
    refine bs_aload_n dX5_hangsLoose_40 rfl ?_
    refine fg_getR (b := (p1 + 3)) dX5_hangsLoose_41 fX5_35 (h_p1.s0) hR (h_p1.r2) ?_
    refine bs_iload_n dX5_hangsLoose_44 rfl ?_
    obtain ⟨g5, h⟩ := fg_gdE h
    refine bs_iald dX5_hangsLoose_45 (h_p1.s3) (fg_in_ix g5) ?_
    obtain ⟨g6, h⟩ := fg_gdE h
    refine bs_iald dX5_hangsLoose_46 (HX.ss 28 rfl rfl) (fg_in_ix g6) ?_
    refine bs_iconst (v := (nI 3)) dX5_hangsLoose_47 (by decide) ?_
    refine bs_icmp_ge (tgt := 53) dX5_hangsLoose_48 (by decide) (fun c => ?_) (fun c => ?_)
    · replace h := fg_ip c h
      refine bs_W.mk [(0, .ref (x + 26)), (1, .ref p1), (2, .int l2), (3, .int l3)] (by intro q hq; simp only [List.mem_cons, List.not_mem_nil, or_false] at hq; rcases hq with rfl | rfl | rfl | rfl <;> rfl) ?_
      exact wFX5_hangsLoose_j53 HX h_p1 kr hR h
    · replace h := fg_iN c h
      refine bs_iconst (v := (nI 1)) dX5_hangsLoose_51 (by decide) ?_
      cases h
      exact bs_zret dX5_hangsLoose_52 rfl (Or.inr rfl) (Nat.zero_le _) (Nat.zero_le _) (kr _ rfl hR)
noncomputable def FX5_hangsLoose_j28 (x : Nat) (p1 : Nat) (mu : bs_Mm) (l2 : Int32) (l3 : Int32) : Option (Int32) :=
  FX5_hangsLoose_j29 x p1 mu l2 l3 (nI 0)
set_option maxHeartbeats 4000000 in
theorem wFX5_hangsLoose_j28 {nx : Nat} {sh : bs_Sh} {R : Nat → Nat → Option Nat} {x : Nat} (HX : fg_S (bs_tS x) R x sh) {p1 : Nat} (h_p1 : fg_F R sh p1) {mu : bs_Mm} {l2 : Int32} {l3 : Int32} {Ph : bs_Po} {r : Int32} (kr : ∀ q, r = q → fg_R R mu → Ph (some (.int q)) nx sh mu) (hR : fg_R R mu) (h : FX5_hangsLoose_j28 x p1 mu l2 l3 = some r) : bs_W Ph mX5_hangsLoose (bs_rm 1 0 0) 28 (bs_mk [(0, .ref (x + 26)), (1, .ref p1), (2, .int l2), (3, .int l3)]) [] 0 0 nx sh mu := by
  unfold FX5_hangsLoose_j28 at h
  refine bs_iconst (v := (nI 0)) dX5_hangsLoose_28 (by decide) ?_
  refine bs_W.mk [(0, .ref (x + 26)), (1, .ref p1), (2, .int l2), (3, .int l3)] (by intro q hq; simp only [List.mem_cons, List.not_mem_nil, or_false] at hq; rcases hq with rfl | rfl | rfl | rfl <;> rfl) ?_
  exact wFX5_hangsLoose_j29 HX h_p1 kr hR h
noncomputable def FX5_hangsLoose (x : Nat) (mu : bs_Mm) (p1 : Nat) (p2 : Int32) (p3 : Int32) : Option (Int32) :=
  if p2 ≤ 0 then (
    FX5_hangsLoose_j28 x p1 mu p2 p3
  ) else (
    fg_bd (FX1_twistBehind x p1 mu (p2 - (nI 1))) (fun v8 => 
    if v8 = 0 then (
      FX5_hangsLoose_j28 x p1 mu p2 p3
    ) else (
      if (p3 &&& ((nI 1) <<< ((p2 - (nI 1)) &&& 31))) = 0 then (
        FX5_hangsLoose_j28 x p1 mu p2 p3
      ) else (
        FX5_hangsLoose_j29 x p1 mu p2 p3 (nI 1)
      )
    ))
  )
set_option maxHeartbeats 4000000 in
theorem wX5_hangsLoose {nx : Nat} {sh : bs_Sh} {R : Nat → Nat → Option Nat} {x : Nat} (HX : fg_S (bs_tS x) R x sh) {p1 : Nat} (h_p1 : fg_F R sh p1) {mu : bs_Mm} (hR : fg_R R mu) {p2 : Int32} {p3 : Int32} {r : Int32} (h : FX5_hangsLoose x mu p1 p2 p3 = some r) : bs_C mX5_hangsLoose (bs_rm 1 0 0) [.ref (x + 26), .ref p1, .int p2, .int p3] nx sh mu (fg_po R nx sh (some (.int r)) mu) := by
  refine bs_ct (by decide +kernel) (Nat.le_of_ble_eq_true rfl) ?_
  have kr : ∀ q, r = q → fg_R R mu → (fg_po R nx sh (some (.int r)) mu) (some (.int q)) nx sh mu := fun q e hq => by subst e; exact ⟨rfl, rfl, rfl, rfl, hq⟩
  unfold FX5_hangsLoose at h
  refine bs_iload_n dX5_hangsLoose_0 rfl ?_
  refine bs_if_le (tgt := 28) dX5_hangsLoose_1 (by decide) (fun c => ?_) (fun c => ?_)
  · replace h := fg_ip c h
    refine bs_W.mk [(0, .ref (x + 26)), (1, .ref p1), (2, .int p2), (3, .int p3)] (by intro q hq; simp only [List.mem_cons, List.not_mem_nil, or_false] at hq; rcases hq with rfl | rfl | rfl | rfl <;> rfl) ?_
    exact wFX5_hangsLoose_j28 HX h_p1 kr hR h
  · replace h := fg_iN c h
    refine bs_aload_n dX5_hangsLoose_4 rfl ?_
    refine bs_iload_n dX5_hangsLoose_5 rfl ?_
    refine bs_iconst (v := (nI 1)) dX5_hangsLoose_6 (by decide) ?_
    refine bs_isub dX5_hangsLoose_7 ?_
    obtain ⟨v8, k7, h⟩ := fg_bdE h
    refine fg_callV dX5_hangsLoose_8 qX5_41 (wX1_twistBehind HX h_p1 hR k7) rfl (h_p1.s0) rfl (Nat.le_of_ble_eq_true rfl) (fg_cr (by first | decide | omega) (by decide)) (fun hR => ?_)
    refine bs_if_eq (tgt := 28) dX5_hangsLoose_11 (by decide) (fun c => ?_) (fun c => ?_)
    · replace h := fg_ip c h
      refine bs_W.mk [(0, .ref (x + 26)), (1, .ref p1), (2, .int p2), (3, .int p3)] (by intro q hq; simp only [List.mem_cons, List.not_mem_nil, or_false] at hq; rcases hq with rfl | rfl | rfl | rfl <;> rfl) ?_
      exact wFX5_hangsLoose_j28 HX h_p1 kr hR h
    · replace h := fg_iN c h
      refine bs_iload_n dX5_hangsLoose_14 rfl ?_
      refine bs_iconst (v := (nI 1)) dX5_hangsLoose_15 (by decide) ?_
      refine bs_iload_n dX5_hangsLoose_16 rfl ?_
      refine bs_iconst (v := (nI 1)) dX5_hangsLoose_17 (by decide) ?_
      refine bs_isub dX5_hangsLoose_18 ?_
      refine bs_ishl dX5_hangsLoose_19 ?_
      refine bs_iand dX5_hangsLoose_20 ?_
      refine bs_if_eq (tgt := 28) dX5_hangsLoose_21 (by decide) (fun c => ?_) (fun c => ?_)
      · replace h := fg_ip c h
        refine bs_W.mk [(0, .ref (x + 26)), (1, .ref p1), (2, .int p2), (3, .int p3)] (by intro q hq; simp only [List.mem_cons, List.not_mem_nil, or_false] at hq; rcases hq with rfl | rfl | rfl | rfl <;> rfl) ?_
        exact wFX5_hangsLoose_j28 HX h_p1 kr hR h
      · replace h := fg_iN c h
        refine bs_iconst (v := (nI 1)) dX5_hangsLoose_24 (by decide) ?_
        refine bs_goto (tgt := 29) dX5_hangsLoose_25 (by decide) ?_
        refine bs_W.mk [(0, .ref (x + 26)), (1, .ref p1), (2, .int p2), (3, .int p3)] (by intro q hq; simp only [List.mem_cons, List.not_mem_nil, or_false] at hq; rcases hq with rfl | rfl | rfl | rfl <;> rfl) ?_
        exact wFX5_hangsLoose_j29 HX h_p1 kr hR h
noncomputable def FX5_lostWith_b37_L16 (x : Nat) (p1 : Nat)  (l2 : Int32) (l4 : Int32) (l5 : Int32) (s : Int32 × Int32 × bs_Mm) : Option ((Int32 × Int32 × bs_Mm) ⊕ (Int32 × bs_Mm)) :=
  if (bs_iv (s.2.2 p1 7)) ≤ s.2.1 then (
    some (.inr (s.1, s.2.2))
  ) else (
    if (s.1 &&& ((nI 1) <<< (s.2.1 &&& 31))) = 0 then (
      fg_bd (FX5_hangsLoose x s.2.2 p1 s.2.1 s.1) (fun v4 => 
      if v4 = 0 then (
        some (.inl (s.1, (s.2.1 + (nI 1)), s.2.2))
      ) else (
        fg_gd (fg_in s.2.1 24) (
        fg_gd (fg_in (bs_iv (s.2.2 (p1 + 3) s.2.1.toNatClampNeg)) 30) (
        fg_gd (fg_in (bs_iv (s.2.2 (p1 + 3) s.2.1.toNatClampNeg)) 30) (
        fg_wr s.2.2 (x + 28) (bs_iv (s.2.2 (p1 + 3) s.2.1.toNatClampNeg)).toNatClampNeg (.int ((bs_iv (s.2.2 (x + 28) (bs_iv (s.2.2 (p1 + 3) s.2.1.toNatClampNeg)).toNatClampNeg)) - (nI 1))) (fun mu8 => 
        fg_gd (fg_in s.2.1 24) (
        fg_gd (fg_in (bs_iv (mu8 (p1 + 4) s.2.1.toNatClampNeg)) 30) (
        fg_gd (fg_in (bs_iv (mu8 (p1 + 4) s.2.1.toNatClampNeg)) 30) (
        fg_wr mu8 (x + 28) (bs_iv (mu8 (p1 + 4) s.2.1.toNatClampNeg)).toNatClampNeg (.int ((bs_iv (mu8 (x + 28) (bs_iv (mu8 (p1 + 4) s.2.1.toNatClampNeg)).toNatClampNeg)) - (nI 1))) (fun mu12 => 
        some (.inl ((s.1 ||| ((nI 1) <<< (s.2.1 &&& 31))), (s.2.1 + (nI 1)), mu12))))))))))
      ))
    ) else (
      some (.inl (s.1, (s.2.1 + (nI 1)), s.2.2))
    )
  )
set_option maxHeartbeats 4000000 in
theorem wFX5_lostWith_b37_L16 {nx : Nat} {sh : bs_Sh} {R : Nat → Nat → Option Nat} {x : Nat} (HX : fg_S (bs_tS x) R x sh) {p1 : Nat} (h_p1 : fg_F R sh p1) {l2 : Int32} {l4 : Int32} {l5 : Int32} {Ph : bs_Po} {s : Int32 × Int32 × bs_Mm} {r : (Int32 × Int32 × bs_Mm) ⊕ (Int32 × bs_Mm)} (ka : ∀ s, r = .inl s → fg_R R s.2.2 → bs_W Ph mX5_lostWith (bs_rm 2 0 0) 37 (bs_mk [(0, .ref (x + 26)), (1, .ref p1), (2, .int l2), (3, .int s.1), (4, .int l4), (5, .int l5), (6, .int s.2.1)]) [] 0 0 nx sh s.2.2) (ke : ∀ s, r = .inr s → fg_R R s.2 → bs_W Ph mX5_lostWith (bs_rm 2 0 0) 111 (bs_mk [(0, .ref (x + 26)), (1, .ref p1), (2, .int l2), (3, .int s.1), (4, .int l4), (5, .int l5)]) [] 0 0 nx sh s.2) (hR : fg_R R s.2.2) (h : FX5_lostWith_b37_L16 x p1 l2 l4 l5 s = some r) : bs_W Ph mX5_lostWith (bs_rm 2 0 0) 37 (bs_mk [(0, .ref (x + 26)), (1, .ref p1), (2, .int l2), (3, .int s.1), (4, .int l4), (5, .int l5), (6, .int s.2.1)]) [] 0 0 nx sh s.2.2 := by
  unfold FX5_lostWith_b37_L16 at h
  refine bs_iload dX5_lostWith_37 rfl ?_
  refine bs_aload_n dX5_lostWith_39 rfl ?_
  refine bs_getI dX5_lostWith_40 fX5_25 (h_p1.s0) ?_
  refine bs_icmp_ge (tgt := 111) dX5_lostWith_43 (by decide) (fun c => ?_) (fun c => ?_)
  · replace h := fg_ip c h
    cases h
    refine bs_W.mk [(0, .ref (x + 26)), (1, .ref p1), (2, .int l2), (3, .int s.1), (4, .int l4), (5, .int l5)] (by intro q hq; simp only [List.mem_cons, List.not_mem_nil, or_false] at hq; rcases hq with rfl | rfl | rfl | rfl | rfl | rfl <;> rfl) (ke _ rfl hR)
  · replace h := fg_iN c h
    refine bs_iload_n dX5_lostWith_46 rfl ?_
    refine bs_iconst (v := (nI 1)) dX5_lostWith_47 (by decide) ?_
    refine bs_iload dX5_lostWith_48 rfl ?_
    refine bs_ishl dX5_lostWith_50 ?_
    refine bs_iand dX5_lostWith_51 ?_
    refine bs_if_ne (tgt := 105) dX5_lostWith_52 (by decide) (fun c => ?_) (fun c => ?_)
    · replace h := fg_iN c h
      refine fg_iinc (m := (nI 1)) dX5_lostWith_105 rfl rfl (by decide) ?_
      refine bs_goto (tgt := 37) dX5_lostWith_108 (by decide) ?_
      cases h
      refine bs_W.mk [(0, .ref (x + 26)), (1, .ref p1), (2, .int l2), (3, .int s.1), (4, .int l4), (5, .int l5), (6, .int (s.2.1 + (nI 1)))] (by intro q hq; simp only [List.mem_cons, List.not_mem_nil, or_false] at hq; rcases hq with rfl | rfl | rfl | rfl | rfl | rfl | rfl <;> rfl) (by have k := ka _ rfl hR; dsimp only at k; exact k)
    · replace h := fg_ip c h
      refine bs_aload_n dX5_lostWith_55 rfl ?_
      refine bs_aload_n dX5_lostWith_56 rfl ?_
      refine bs_iload dX5_lostWith_57 rfl ?_
      refine bs_iload_n dX5_lostWith_59 rfl ?_
      obtain ⟨v4, k3, h⟩ := fg_bdE h
      refine fg_callV dX5_lostWith_60 qX5_31 (wX5_hangsLoose HX h_p1 hR k3) rfl (HX.s 26 rfl rfl rfl) rfl (Nat.le_of_ble_eq_true rfl) (fg_cr (by first | decide | omega) (by decide)) (fun hR => ?_)
      refine bs_if_eq (tgt := 105) dX5_lostWith_63 (by decide) (fun c => ?_) (fun c => ?_)
      · replace h := fg_ip c h
        refine fg_iinc (m := (nI 1)) dX5_lostWith_105 rfl rfl (by decide) ?_
        refine bs_goto (tgt := 37) dX5_lostWith_108 (by decide) ?_
        cases h
        refine bs_W.mk [(0, .ref (x + 26)), (1, .ref p1), (2, .int l2), (3, .int s.1), (4, .int l4), (5, .int l5), (6, .int (s.2.1 + (nI 1)))] (by intro q hq; simp only [List.mem_cons, List.not_mem_nil, or_false] at hq; rcases hq with rfl | rfl | rfl | rfl | rfl | rfl | rfl <;> rfl) (by have k := ka _ rfl hR; dsimp only at k; exact k)
      · replace h := fg_iN c h
        refine bs_iload_n dX5_lostWith_66 rfl ?_
        refine bs_iconst (v := (nI 1)) dX5_lostWith_67 (by decide) ?_
        refine bs_iload dX5_lostWith_68 rfl ?_
        refine bs_ishl dX5_lostWith_70 ?_
        refine bs_ior dX5_lostWith_71 ?_
        refine bs_istore_n dX5_lostWith_72 rfl (by decide) ?_
        refine bs_aload_n dX5_lostWith_73 rfl ?_
        refine fg_getR (b := (x + 28)) dX5_lostWith_74 fX5_15 (HX.s 26 rfl rfl rfl) hR (HX.r 26 1 rfl rfl rfl) ?_
        refine bs_aload_n dX5_lostWith_77 rfl ?_
        refine fg_getR (b := (p1 + 3)) dX5_lostWith_78 fX5_35 (h_p1.s0) hR (h_p1.r2) ?_
        refine bs_iload dX5_lostWith_81 rfl ?_
        obtain ⟨g5, h⟩ := fg_gdE h
        refine bs_iald dX5_lostWith_83 (h_p1.s3) (fg_in_ix g5) ?_
        refine bs_dup2 dX5_lostWith_84 rfl rfl ?_
        obtain ⟨g6, h⟩ := fg_gdE h
        refine bs_iald dX5_lostWith_85 (HX.ss 28 rfl rfl) (fg_in_ix g6) ?_
        refine bs_iconst (v := (nI 1)) dX5_lostWith_86 (by decide) ?_
        refine bs_isub dX5_lostWith_87 ?_
        obtain ⟨g7, h⟩ := fg_gdE h
        refine fg_iast dX5_lostWith_88 (HX.ss 28 rfl rfl) (fun j => HX.n 28 j rfl rfl rfl) g7 hR h (fun mu8 hR h => ?_)
        refine bs_aload_n dX5_lostWith_89 rfl ?_
        refine fg_getR (b := (x + 28)) dX5_lostWith_90 fX5_15 (HX.s 26 rfl rfl rfl) hR (HX.r 26 1 rfl rfl rfl) ?_
        refine bs_aload_n dX5_lostWith_93 rfl ?_
        refine fg_getR (b := (p1 + 4)) dX5_lostWith_94 fX5_38 (h_p1.s0) hR (h_p1.r3) ?_
        refine bs_iload dX5_lostWith_97 rfl ?_
        obtain ⟨g9, h⟩ := fg_gdE h
        refine bs_iald dX5_lostWith_99 (h_p1.s4) (fg_in_ix g9) ?_
        refine bs_dup2 dX5_lostWith_100 rfl rfl ?_
        obtain ⟨g10, h⟩ := fg_gdE h
        refine bs_iald dX5_lostWith_101 (HX.ss 28 rfl rfl) (fg_in_ix g10) ?_
        refine bs_iconst (v := (nI 1)) dX5_lostWith_102 (by decide) ?_
        refine bs_isub dX5_lostWith_103 ?_
        obtain ⟨g11, h⟩ := fg_gdE h
        refine fg_iast dX5_lostWith_104 (HX.ss 28 rfl rfl) (fun j => HX.n 28 j rfl rfl rfl) g11 hR h (fun mu12 hR h => ?_)
        refine fg_iinc (m := (nI 1)) dX5_lostWith_105 rfl rfl (by decide) ?_
        refine bs_goto (tgt := 37) dX5_lostWith_108 (by decide) ?_
        cases h
        refine bs_W.mk [(0, .ref (x + 26)), (1, .ref p1), (2, .int l2), (3, .int (s.1 ||| ((nI 1) <<< (s.2.1 &&& 31)))), (4, .int l4), (5, .int l5), (6, .int (s.2.1 + (nI 1)))] (by intro q hq; simp only [List.mem_cons, List.not_mem_nil, or_false] at hq; rcases hq with rfl | rfl | rfl | rfl | rfl | rfl | rfl <;> rfl) (by have k := ka _ rfl hR; dsimp only at k; exact k)
theorem wFX5_lostWith_l37_L16 {nx : Nat} {sh : bs_Sh} {R : Nat → Nat → Option Nat} {x : Nat} (HX : fg_S (bs_tS x) R x sh) {p1 : Nat} (h_p1 : fg_F R sh p1) {l2 : Int32} {l4 : Int32} {l5 : Int32} {Ph : bs_Po} {t : Int32 × bs_Mm} : ∀ n (y0 : Int32) (y1 : Int32) (mu1 : bs_Mm), fg_lp (FX5_lostWith_b37_L16 x p1 l2 l4 l5) n (y0, y1, mu1) = some t → fg_R R mu1 → (ke : ∀ s, t = s → fg_R R s.2 → bs_W Ph mX5_lostWith (bs_rm 2 0 0) 111 (bs_mk [(0, .ref (x + 26)), (1, .ref p1), (2, .int l2), (3, .int s.1), (4, .int l4), (5, .int l5)]) [] 0 0 nx sh s.2) → bs_W Ph mX5_lostWith (bs_rm 2 0 0) 37 (bs_mk [(0, .ref (x + 26)), (1, .ref p1), (2, .int l2), (3, .int y0), (4, .int l4), (5, .int l5), (6, .int y1)]) [] 0 0 nx sh mu1 := by
  intro n
  induction n with
  | zero => intro y0 y1 mu1 h; exact absurd h (fun z => fg_lp0 z)
  | succ n ih =>
    intro y0 y1 mu1 h hR ke
    obtain ⟨r, hb, h1, h2⟩ := fg_lpE h
    exact wFX5_lostWith_b37_L16 (s := (y0, y1, mu1)) HX h_p1 (fun s' e hR' => ih s'.1 s'.2.1 s'.2.2 (h1 s' e) hR' ke) (fun s' e => ke s' (h2 _ e).symm) hR hb
noncomputable def FX5_lostWith_b16 (x : Nat) (p1 : Nat)  (l2 : Int32) (s : Int32 × Int32 × Int32 × bs_Mm) : Option ((Int32 × Int32 × Int32 × bs_Mm) ⊕ (Int32 × bs_Mm)) :=
  if (bs_iv (s.2.2.2 p1 7)) < s.2.2.1 then (
    some (.inr (s.1, s.2.2.2))
  ) else (
    if s.2.1 = s.1 then (
      some (.inr (s.1, s.2.2.2))
    ) else (
      fg_bd (fg_lp (FX5_lostWith_b37_L16 x p1 l2 s.1 s.2.2.1) fg_fu (s.1, (nI 0), s.2.2.2)) (fun t13 => 
        some (.inl (t13.1, s.1, (s.2.2.1 + (nI 1)), t13.2))
      )
    )
  )
set_option maxHeartbeats 4000000 in
theorem wFX5_lostWith_b16 {nx : Nat} {sh : bs_Sh} {R : Nat → Nat → Option Nat} {x : Nat} (HX : fg_S (bs_tS x) R x sh) {p1 : Nat} (h_p1 : fg_F R sh p1) {l2 : Int32} {Ph : bs_Po} {s : Int32 × Int32 × Int32 × bs_Mm} {r : (Int32 × Int32 × Int32 × bs_Mm) ⊕ (Int32 × bs_Mm)} (ka : ∀ s, r = .inl s → fg_R R s.2.2.2 → bs_W Ph mX5_lostWith (bs_rm 2 0 0) 16 (bs_mk [(0, .ref (x + 26)), (1, .ref p1), (2, .int l2), (3, .int s.1), (4, .int s.2.1), (5, .int s.2.2.1)]) [] 0 0 nx sh s.2.2.2) (ke : ∀ s, r = .inr s → fg_R R s.2 → bs_W Ph mX5_lostWith (bs_rm 2 0 0) 117 (bs_mk [(0, .ref (x + 26)), (1, .ref p1), (2, .int l2), (3, .int s.1)]) [] 0 0 nx sh s.2) (hR : fg_R R s.2.2.2) (h : FX5_lostWith_b16 x p1 l2 s = some r) : bs_W Ph mX5_lostWith (bs_rm 2 0 0) 16 (bs_mk [(0, .ref (x + 26)), (1, .ref p1), (2, .int l2), (3, .int s.1), (4, .int s.2.1), (5, .int s.2.2.1)]) [] 0 0 nx sh s.2.2.2 := by
  unfold FX5_lostWith_b16 at h
  refine bs_iload dX5_lostWith_16 rfl ?_
  refine bs_aload_n dX5_lostWith_18 rfl ?_
  refine bs_getI dX5_lostWith_19 fX5_25 (h_p1.s0) ?_
  refine bs_icmp_gt (tgt := 117) dX5_lostWith_22 (by decide) (fun c => ?_) (fun c => ?_)
  · replace h := fg_ip c h
    cases h
    refine bs_W.mk [(0, .ref (x + 26)), (1, .ref p1), (2, .int l2), (3, .int s.1)] (by intro q hq; simp only [List.mem_cons, List.not_mem_nil, or_false] at hq; rcases hq with rfl | rfl | rfl | rfl <;> rfl) (ke _ rfl hR)
  · replace h := fg_iN c h
    refine bs_iload dX5_lostWith_25 rfl ?_
    refine bs_iload_n dX5_lostWith_27 rfl ?_
    refine bs_icmp_eq (tgt := 117) dX5_lostWith_28 (by decide) (fun c => ?_) (fun c => ?_)
    · replace h := fg_ip c h
      cases h
      refine bs_W.mk [(0, .ref (x + 26)), (1, .ref p1), (2, .int l2), (3, .int s.1)] (by intro q hq; simp only [List.mem_cons, List.not_mem_nil, or_false] at hq; rcases hq with rfl | rfl | rfl | rfl <;> rfl) (ke _ rfl hR)
    · replace h := fg_iN c h
      refine bs_iload_n dX5_lostWith_31 rfl ?_
      refine bs_istore dX5_lostWith_32 rfl (by decide) ?_
      refine bs_iconst (v := (nI 0)) dX5_lostWith_34 (by decide) ?_
      refine bs_istore dX5_lostWith_35 rfl (by decide) ?_
      obtain ⟨t13, k14, h⟩ := fg_bdE h
      refine bs_W.mk [(0, .ref (x + 26)), (1, .ref p1), (2, .int l2), (3, .int s.1), (4, .int s.1), (5, .int s.2.2.1), (6, .int (nI 0))] (by intro q hq; simp only [List.mem_cons, List.not_mem_nil, or_false] at hq; rcases hq with rfl | rfl | rfl | rfl | rfl | rfl | rfl <;> rfl) ?_
      refine wFX5_lostWith_l37_L16 HX h_p1 _ _ _ _ k14 hR ?_
      intro s e hR
      subst e
      refine fg_iinc (m := (nI 1)) dX5_lostWith_111 rfl rfl (by decide) ?_
      refine bs_goto (tgt := 16) dX5_lostWith_114 (by decide) ?_
      cases h
      refine bs_W.mk [(0, .ref (x + 26)), (1, .ref p1), (2, .int l2), (3, .int t13.1), (4, .int s.1), (5, .int (s.2.2.1 + (nI 1)))] (by intro q hq; simp only [List.mem_cons, List.not_mem_nil, or_false] at hq; rcases hq with rfl | rfl | rfl | rfl | rfl | rfl <;> rfl) (by have k := ka _ rfl hR; dsimp only at k; exact k)
theorem wFX5_lostWith_l16 {nx : Nat} {sh : bs_Sh} {R : Nat → Nat → Option Nat} {x : Nat} (HX : fg_S (bs_tS x) R x sh) {p1 : Nat} (h_p1 : fg_F R sh p1) {l2 : Int32} {Ph : bs_Po} {t : Int32 × bs_Mm} : ∀ n (y0 : Int32) (y1 : Int32) (y2 : Int32) (mu1 : bs_Mm), fg_lp (FX5_lostWith_b16 x p1 l2) n (y0, y1, y2, mu1) = some t → fg_R R mu1 → (ke : ∀ s, t = s → fg_R R s.2 → bs_W Ph mX5_lostWith (bs_rm 2 0 0) 117 (bs_mk [(0, .ref (x + 26)), (1, .ref p1), (2, .int l2), (3, .int s.1)]) [] 0 0 nx sh s.2) → bs_W Ph mX5_lostWith (bs_rm 2 0 0) 16 (bs_mk [(0, .ref (x + 26)), (1, .ref p1), (2, .int l2), (3, .int y0), (4, .int y1), (5, .int y2)]) [] 0 0 nx sh mu1 := by
  intro n
  induction n with
  | zero => intro y0 y1 y2 mu1 h; exact absurd h (fun z => fg_lp0 z)
  | succ n ih =>
    intro y0 y1 y2 mu1 h hR ke
    obtain ⟨r, hb, h1, h2⟩ := fg_lpE h
    exact wFX5_lostWith_b16 (s := (y0, y1, y2, mu1)) HX h_p1 (fun s' e hR' => ih s'.1 s'.2.1 s'.2.2.1 s'.2.2.2 (h1 s' e) hR' ke) (fun s' e => ke s' (h2 _ e).symm) hR hb
noncomputable def FX5_lostWith (x : Nat) (mu : bs_Mm) (p1 : Nat) (p2 : Int32) : Option (Int32 × bs_Mm) :=
  fg_bd (FX5_countLive x mu p1 p2) (fun mu2 => 
  fg_bd (fg_lp (FX5_lostWith_b16 x p1 p2) fg_fu (p2, (p2 ^^^ (-1)), (nI 0), mu2)) (fun t15 => 
    some (t15.1, t15.2)
  ))
set_option maxHeartbeats 4000000 in
theorem wX5_lostWith {nx : Nat} {sh : bs_Sh} {R : Nat → Nat → Option Nat} {x : Nat} (HX : fg_S (bs_tS x) R x sh) {p1 : Nat} (h_p1 : fg_F R sh p1) {mu : bs_Mm} (hR : fg_R R mu) {p2 : Int32} {r : Int32 × bs_Mm} (h : FX5_lostWith x mu p1 p2 = some r) : bs_C mX5_lostWith (bs_rm 2 0 0) [.ref (x + 26), .ref p1, .int p2] nx sh mu (fg_po R nx sh (some (.int r.1)) r.2) := by
  refine bs_ct (by decide +kernel) (Nat.le_of_ble_eq_true rfl) ?_
  have kr : ∀ q, r = q → fg_R R q.2 → (fg_po R nx sh (some (.int r.1)) r.2) (some (.int q.1)) nx sh q.2 := fun q e hq => by subst e; exact ⟨rfl, rfl, rfl, rfl, hq⟩
  unfold FX5_lostWith at h
  refine bs_aload_n dX5_lostWith_0 rfl ?_
  refine bs_aload_n dX5_lostWith_1 rfl ?_
  refine bs_iload_n dX5_lostWith_2 rfl ?_
  obtain ⟨mu2, k1, h⟩ := fg_bdE h
  refine fg_callVv dX5_lostWith_3 qX5_21 (wX5_countLive HX h_p1 hR k1) rfl (HX.s 26 rfl rfl rfl) rfl (Nat.le_of_ble_eq_true rfl) (fg_cr (by first | decide | omega) (by decide)) (fun hR => ?_)
  refine bs_iload_n dX5_lostWith_6 rfl ?_
  refine bs_istore_n dX5_lostWith_7 rfl (by decide) ?_
  refine bs_iload_n dX5_lostWith_8 rfl ?_
  refine bs_iconst (v := (-1)) dX5_lostWith_9 (by decide) ?_
  refine bs_ixor dX5_lostWith_10 ?_
  refine bs_istore dX5_lostWith_11 rfl (by decide) ?_
  refine bs_iconst (v := (nI 0)) dX5_lostWith_13 (by decide) ?_
  refine bs_istore dX5_lostWith_14 rfl (by decide) ?_
  obtain ⟨t15, k16, h⟩ := fg_bdE h
  refine bs_W.mk [(0, .ref (x + 26)), (1, .ref p1), (2, .int p2), (3, .int p2), (4, .int (p2 ^^^ (-1))), (5, .int (nI 0))] (by intro q hq; simp only [List.mem_cons, List.not_mem_nil, or_false] at hq; rcases hq with rfl | rfl | rfl | rfl | rfl | rfl <;> rfl) ?_
  refine wFX5_lostWith_l16 HX h_p1 _ _ _ _ _ k16 hR ?_
  intro s e hR
  subst e
  refine bs_iload_n dX5_lostWith_117 rfl ?_
  cases h
  exact bs_iret dX5_lostWith_118 rfl (Nat.zero_le _) (Nat.zero_le _) (kr _ rfl hR)
