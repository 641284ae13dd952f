/-- never -/
def bs_ff : bs_Po := fun _ _ _ _ => False
/-- thrown, and nothing of the memory changed -/
def bs_xx (sh : bs_Sh) (mu : bs_Mm) : bs_Po := fun _ _ sh' mu' => sh' = sh ∧ mu' = mu
abbrev mL_bubble : bs_M := (yL_bubble, cL_bubble, 6, some .int)
abbrev mL_guest : bs_M := (yL_guest, cL_guest, 5, some .int)
abbrev mL_worth : bs_M := (yL_worth, cL_worth, 9, some .int)
def hhL_bubble : List (Nat × Nat × Nat × Nat) := [(0, 12, 15, 13)]
def hhL_guest : List (Nat × Nat × Nat × Nat) := [(0, 10, 13, 13)]
def hhL_worth : List (Nat × Nat × Nat × Nat) := [(0, 18, 21, 13)]
/-- a call's words, of a method with handlers -/
def bs_cst (own : String) (ix : Nat) (Y : bs_M) (hh : List (Nat × Nat × Nat × Nat)) (n : Nat) : Prop := Cond.initialized Y.1.cls ∈ bs_al ∧ Cond.codeWith Y.1 Y.2.1 Y.2.2.1 Y.2.2.2 hh ∈ bs_al ∧ (Y.1.cls ≠ "java/lang/invoke/MethodHandle" ∧ Y.1.cls ≠ "java/lang/invoke/VarHandle" ∧ (parseMethodDescriptor Y.1.desc).map (fun d => d.parameters.length) = some n) ∧ Cond.methodLink own ix Y.1 ∈ bs_al ∧ Cond.static Y.1 ∈ bs_al
theorem bs_callST {Z : bs_Z} {X : bs_M} {rm : Room} {pc : Nat} {lo : bs_L} {st rest : List Value} {nc ns nx : Nat} {sh : bs_Sh} {mu : bs_Mm} {hh : List (Nat × Nat × Nat × Nat)} {ix n : Nat} {Y : bs_M} {rm1 : Room} {As : List Value} {P1 : bs_Po} (d : decode X.2.1 pc = .ok (.invokestatic ix, 3)) (w : bs_cst X.1.cls ix Y hh n) (hC : bs_CT Y hh rm1 As nx sh mu P1) (hn : As.length = n) (hst : st = As.reverse ++ rest) (hw : (rest.map fun v => v.category).sum ≤ 8) (hR : bs_cr rm rm1 Y.2.2.1 nc ns)
    (hZ : ∀ l s args A, Z.1 l s args A → l.stackTraces = false ∧ bs_J A s)
    (kk : ∀ v nx' sh' mu', P1 v nx' sh' mu' → bs_V Z X rm (pc + 3) lo (v.toList ++ rest) (nc + rm1.cells) (ns + rm1.slots) nx' sh' mu') : bs_V Z X rm pc lo st nc ns nx sh mu := by
  intro p l e s m args below meth c D dA A F hE H locs ls hP hS hl
  obtain ⟨hl0, hJ⟩ := hZ _ _ _ _ hE
  obtain ⟨w2, w3, w4, w7, w8⟩ := w
  have hts := F.2.2.2.2.2.1
  have hK := F.2.2.2.2.2.2.2.2.1
  have hAA : ∀ q, bs_A sh nx q → A q := fun q h => by
    rcases h with h | h
    · exact (hP.2 q h).1
    · exact F.2.2.2.2.2.2.2.2.2 q (Nat.le_trans hS.1 (by rw [hP.1]; exact h))
  have hg : GoodIn bs_al (va_wsS X.1.cls ix Y.1 (Cond.codeWith Y.1 Y.2.1 Y.2.2.1 Y.2.2.2 hh :: bs_al)) := bs_al_good fun w hw => by
    rcases List.mem_append.mp hw with h | h
    · simp only [List.mem_cons, List.not_mem_nil, or_false] at h
      rcases h with rfl | rfl | rfl
      · exact w7
      · exact w8
      · exact w2
    · rcases List.mem_cons.mp h with rfl | h
      · exact w3
      · exact h
  exact bs_after F hE hP hS hl (vx_runSW (As := As) (rest := rest) ⟨F.1, F.2.1, F.2.2.2.1, F.2.2.2.2.1, hts⟩ (hC l D dA hl0) (vx_cwSW n hts hg rfl rfl rfl w4 hR.1) ⟨bs_blindX, fun U hU hW => ⟨rfl, hK.warm hW, by rw [hU]; exact hP.weaken fun _ _ _ => trivial, hJ.at hW (fun a h1 h2 => by rw [hU]; exact hS.2.1 a h1 h2) hAA⟩⟩ rfl hn hl.1 hst (by show 2 * 0 + _ ≤ _; omega) d hR.2) kk
theorem tL_59 : bs_cst "BalloonStallLaw" 59 mL_bubble hhL_bubble 5 := ⟨bs_al_in (bs_t1 _ (List.mem_of_getElem? (i := 0) rfl)) rfl, bs_al_in (bs_t5 _ (List.mem_of_getElem? (i := 154) rfl)) rfl, ⟨by decide, by decide, by decide +kernel⟩, bs_al_in (bs_t5 _ (List.mem_of_getElem? (i := 152) rfl)) rfl, bs_al_in (bs_t5 _ (List.mem_of_getElem? (i := 153) rfl)) rfl⟩
theorem tL_161 : bs_cst "BalloonStallLaw" 161 mL_guest hhL_guest 4 := ⟨bs_al_in (bs_t1 _ (List.mem_of_getElem? (i := 0) rfl)) rfl, bs_al_in (bs_t5 _ (List.mem_of_getElem? (i := 229) rfl)) rfl, ⟨by decide, by decide, by decide +kernel⟩, bs_al_in (bs_t5 _ (List.mem_of_getElem? (i := 227) rfl)) rfl, bs_al_in (bs_t5 _ (List.mem_of_getElem? (i := 228) rfl)) rfl⟩
theorem tL_165 : bs_cst "BalloonStallLaw" 165 mL_worth hhL_worth 8 := ⟨bs_al_in (bs_t1 _ (List.mem_of_getElem? (i := 0) rfl)) rfl, bs_al_in (bs_t5 _ (List.mem_of_getElem? (i := 238) rfl)) rfl, ⟨by decide, by decide, by decide +kernel⟩, bs_al_in (bs_t5 _ (List.mem_of_getElem? (i := 236) rfl)) rfl, bs_al_in (bs_t5 _ (List.mem_of_getElem? (i := 237) rfl)) rfl⟩
set_option maxHeartbeats 4000000 in
set_option maxRecDepth 100000 in
theorem p_bubble {x nx : Nat} {sh : bs_Sh} {mu : bs_Mm} (G : bs_Fr (bs_tS x) x sh mu) (a b e : Int32) : bs_CX mX11_bubble (bs_rm 10 1 6) [.ref x, .int a, .int b, .int e] nx sh mu bs_ff (bs_xx sh mu) := by
  have H := G.st
  have hfc : bs_iv (mu x 13) = 0 := G.i 0 13 rfl rfl rfl
  have hrc : bs_iv (mu x 14) = 0 := G.i 0 14 rfl rfl rfl
  refine bs_ctx (by decide +kernel) (Nat.le_of_ble_eq_true rfl) ?_
  refine bs_aload_n dX11_bubble_0 rfl ?_
  refine bs_iload_n dX11_bubble_1 rfl ?_
  refine bs_callV dX11_bubble_2 qX11_143 (s_figN H hfc _) rfl (H.s 0 rfl rfl rfl) rfl (Nat.le_of_ble_eq_true rfl) ⟨⟨by decide, by decide⟩, by decide, by decide⟩ (fun v1 nx1 sh1 mu1 hp1 => ?_)
  obtain ⟨rfl, rfl, rfl, rfl⟩ := hp1
  refine bs_astoreN dX11_bubble_5 rfl (by decide) ?_
  refine bs_aloadN dX11_bubble_7 rfl ?_
  refine bs_ifnullN (tgt := 21) dX11_bubble_9 (by decide) ?_
  exact bs_throw dX11_bubble_21 dX11_bubble_24 dX11_bubble_25 dX11_bubble_27 dX11_bubble_30 rfl kX11_bubble.2.1 (List.mem_of_getElem? (i := 0) rfl) (by decide) (by decide) (by decide) (by decide) (fun _ _ => ⟨rfl, rfl⟩)
set_option maxHeartbeats 4000000 in
set_option maxRecDepth 100000 in
theorem p_guest {x nx : Nat} {sh : bs_Sh} {mu : bs_Mm} (G : bs_Fr (bs_tS x) x sh mu) (a b : Int32) : bs_CX mX11_guest (bs_rm 10 1 6) [.ref x, .int a, .int b] nx sh mu bs_ff (bs_xx sh mu) := by
  have H := G.st
  have hfc : bs_iv (mu x 13) = 0 := G.i 0 13 rfl rfl rfl
  have hrc : bs_iv (mu x 14) = 0 := G.i 0 14 rfl rfl rfl
  refine bs_ctx (by decide +kernel) (Nat.le_of_ble_eq_true rfl) ?_
  refine bs_iload_n dX11_guest_0 rfl ?_
  refine bs_if_lt (tgt := 15) dX11_guest_1 (by decide) (fun c1 => ?_) (fun c1 => ?_)
  · exact bs_throwW dX11_guest_15 dX11_guest_18 dX11_guest_19 dX11_guest_22 dX11_guest_25 rfl kX11_guest.2.1 (List.mem_of_getElem? (i := 2) rfl) (by decide) (by decide) (by decide) (by decide) (fun _ _ => ⟨rfl, rfl⟩)
  · refine bs_iload_n dX11_guest_4 rfl ?_
    refine bs_aload_n dX11_guest_5 rfl ?_
    refine bs_getR dX11_guest_6 fX11_80 (H.s 0 rfl rfl rfl) (H.r 0 10 rfl rfl rfl) ?_
    refine bs_getI dX11_guest_9 fX11_312 (H.s 50 rfl rfl rfl) ?_
    refine bs_topq (x' := 0) (G.i 50 4 rfl rfl rfl) ?_
    refine bs_icmp_lt (tgt := 26) dX11_guest_12 (by decide) (fun c12 => ?_) (fun c12 => ?_)
    · exact absurd c12 c1
    · exact bs_throwW dX11_guest_15 dX11_guest_18 dX11_guest_19 dX11_guest_22 dX11_guest_25 rfl kX11_guest.2.1 (List.mem_of_getElem? (i := 2) rfl) (by decide) (by decide) (by decide) (by decide) (fun _ _ => ⟨rfl, rfl⟩)
set_option maxHeartbeats 4000000 in
set_option maxRecDepth 100000 in
theorem p_worth {x nx : Nat} {sh : bs_Sh} {mu : bs_Mm} (G : bs_Fr (bs_tS x) x sh mu) (a b e f g i : Int32) : bs_CX mX11_worth (bs_rm 10 1 6) [.ref x, .int a, .int b, .int e, .int f, .int g, .int i] nx sh mu bs_ff (bs_xx sh mu) := by
  have H := G.st
  have hfc : bs_iv (mu x 13) = 0 := G.i 0 13 rfl rfl rfl
  have hrc : bs_iv (mu x 14) = 0 := G.i 0 14 rfl rfl rfl
  refine bs_ctx (by decide +kernel) (Nat.le_of_ble_eq_true rfl) ?_
  refine bs_aload_n dX11_worth_0 rfl ?_
  refine bs_iload_n dX11_worth_1 rfl ?_
  refine bs_callV dX11_worth_2 qX11_331 (s_rulN H hrc _) rfl (H.s 0 rfl rfl rfl) rfl (Nat.le_of_ble_eq_true rfl) ⟨⟨by decide, by decide⟩, by decide, by decide⟩ (fun v1 nx1 sh1 mu1 hp1 => ?_)
  obtain ⟨rfl, rfl, rfl, rfl⟩ := hp1
  refine bs_astoreN dX11_worth_5 rfl (by decide) ?_
  refine bs_aloadN dX11_worth_7 rfl ?_
  refine bs_ifnonnullN dX11_worth_9 ?_
  exact bs_throwW dX11_worth_12 dX11_worth_15 dX11_worth_16 dX11_worth_19 dX11_worth_22 rfl kX11_worth.2.1 (List.mem_of_getElem? (i := 4) rfl) (by decide) (by decide) (by decide) (by decide) (fun _ _ => ⟨rfl, rfl⟩)
set_option maxHeartbeats 4000000 in
set_option maxRecDepth 100000 in
theorem l_bubble {x nx ou : Nat} {sh : bs_Sh} {mu : bs_Mm} (G : bs_Fr (bs_tS x) x sh mu) (a b e : Int32) : bs_CT mL_bubble hhL_bubble (bs_rm 11 1 6) [.ref x, .int a, .int b, .int e, .ref ou] nx sh mu (fun r _ sh' mu' => r = some (.int 1) ∧ sh' = sh ∧ mu' = mu) := by
  refine bs_cth (by decide +kernel) (Nat.le_of_ble_eq_true rfl) ?_
  refine bs_aload dL_bubble_0 rfl ?_
  refine bs_iconst (v := 0) dL_bubble_2 (by decide) ?_
  refine bs_aload_n dL_bubble_3 rfl ?_
  refine bs_iload_n dL_bubble_4 rfl ?_
  refine bs_iload_n dL_bubble_5 rfl ?_
  refine bs_iload_n dL_bubble_6 rfl ?_
  refine bs_callVX (z0 := ⟨0, 12, 15, 13⟩) dL_bubble_7 qL_7 (p_bubble G _ _ _) rfl (G.st.s 0 rfl rfl rfl) rfl (Nat.le_of_ble_eq_true rfl) ⟨⟨by decide, by decide⟩, by decide, by decide⟩ rfl (by decide) (by decide) bsw_1344 (fun q1 nx1 sh1 mu1 hp1 => ?_) (fun v1 nx1 sh1 mu1 hp1 => hp1.elim)
  refine bs_astore dL_bubble_15 rfl (by decide) ?_
  refine bs_iconst (v := 1) dL_bubble_17 (by decide) ?_
  exact bs_ofmH (bs_iret dL_bubble_18 rfl (by decide) (by decide) ⟨rfl, hp1.1, hp1.2⟩)
set_option maxHeartbeats 4000000 in
set_option maxRecDepth 100000 in
theorem l_guest {x nx ou : Nat} {sh : bs_Sh} {mu : bs_Mm} (G : bs_Fr (bs_tS x) x sh mu) (a b : Int32) : bs_CT mL_guest hhL_guest (bs_rm 11 1 6) [.ref x, .int a, .int b, .ref ou] nx sh mu (fun r _ sh' mu' => r = some (.int 1) ∧ sh' = sh ∧ mu' = mu) := by
  refine bs_cth (by decide +kernel) (Nat.le_of_ble_eq_true rfl) ?_
  refine bs_aload_n dL_guest_0 rfl ?_
  refine bs_iconst (v := 0) dL_guest_1 (by decide) ?_
  refine bs_aload_n dL_guest_2 rfl ?_
  refine bs_iload_n dL_guest_3 rfl ?_
  refine bs_iload_n dL_guest_4 rfl ?_
  refine bs_callVX (z0 := ⟨0, 10, 13, 13⟩) dL_guest_5 qL_15 (p_guest G _ _) rfl (G.st.s 0 rfl rfl rfl) rfl (Nat.le_of_ble_eq_true rfl) ⟨⟨by decide, by decide⟩, by decide, by decide⟩ rfl (by decide) (by decide) bsw_1344 (fun q1 nx1 sh1 mu1 hp1 => ?_) (fun v1 nx1 sh1 mu1 hp1 => hp1.elim)
  refine bs_astore dL_guest_13 rfl (by decide) ?_
  refine bs_iconst (v := 1) dL_guest_15 (by decide) ?_
  exact bs_ofmH (bs_iret dL_guest_16 rfl (by decide) (by decide) ⟨rfl, hp1.1, hp1.2⟩)
set_option maxHeartbeats 4000000 in
set_option maxRecDepth 100000 in
theorem l_worth {x nx ou : Nat} {sh : bs_Sh} {mu : bs_Mm} (G : bs_Fr (bs_tS x) x sh mu) (a b e f g i : Int32) : bs_CT mL_worth hhL_worth (bs_rm 11 1 6) [.ref x, .int a, .int b, .int e, .int f, .int g, .int i, .ref ou] nx sh mu (fun r _ sh' mu' => r = some (.int 1) ∧ sh' = sh ∧ mu' = mu) := by
  refine bs_cth (by decide +kernel) (Nat.le_of_ble_eq_true rfl) ?_
  refine bs_aload dL_worth_0 rfl ?_
  refine bs_iconst (v := 0) dL_worth_2 (by decide) ?_
  refine bs_aload_n dL_worth_3 rfl ?_
  refine bs_iload_n dL_worth_4 rfl ?_
  refine bs_iload_n dL_worth_5 rfl ?_
  refine bs_iload_n dL_worth_6 rfl ?_
  refine bs_iload dL_worth_7 rfl ?_
  refine bs_iload dL_worth_9 rfl ?_
  refine bs_iload dL_worth_11 rfl ?_
  refine bs_callVX (z0 := ⟨0, 18, 21, 13⟩) dL_worth_13 qL_19 (p_worth G _ _ _ _ _ _) rfl (G.st.s 0 rfl rfl rfl) rfl (Nat.le_of_ble_eq_true rfl) ⟨⟨by decide, by decide⟩, by decide, by decide⟩ rfl (by decide) (by decide) bsw_1344 (fun q1 nx1 sh1 mu1 hp1 => ?_) (fun v1 nx1 sh1 mu1 hp1 => hp1.elim)
  refine bs_astore dL_worth_21 rfl (by decide) ?_
  refine bs_iconst (v := 1) dL_worth_23 (by decide) ?_
  exact bs_ofmH (bs_iret dL_worth_24 rfl (by decide) (by decide) ⟨rfl, hp1.1, hp1.2⟩)
