/-! THE CLAIM OUT OF ONE WALK OF THE LAW'S BODY. Your part is whole_start (and what it stands on); all else here is the same for every law, but numbers. -/
def R_law : String := "BalloonStallLaw"
def lw_P (b : Addr) (xs : List Int32) (args : Array Value) (s : State) : Prop := args = #[.ref b] ∧ s.IntsAt b xs ∧ xs.length ≤ 3584 ∧ (Jvm.Cond.and given_1 narrow_1).before args s = true
def lw_Q (_ : Array Value) (s : State) (o : Outcome) (t : State) : Prop := o = .returned (some (.int 1)) ∧ Framed s o t [] 601024 7293034
def lw_Z (below : List Frame) (a : Array Value) (s : State) : State → Prop := fun t => ∃ o, t.status = .running ∧ Ended t below o ∧ lw_Q a s o t
/-- the law's own end, with 1 on the stack, nothing written that was there before, its room as the claim has it -/
theorem lw_ret {p : Program} {l : Launch} {e : Env} {s : State} {m : MethodId} {below : List Frame} {meth : Method} {c : Code} {b : Nat} (hx : p.tables.exec = Jvm.exec) (hb : c.code = code) (hr : meth.sig.returnType = ret) (hlocks : meth.locks = false) {pc : Nat} {H : Heap} {ls : Array Slot} (hdg : decode code pc = .ok (.ireturn, 1)) : W p l e room_1 s m #[Value.ref b] below meth c H [] 601024 7293034 (lw_Z below #[Value.ref b] s) (F0 m pc ls [.int 1]) := by
  intro T hT X
  obtain ⟨fs, hret, hrun, hended, hW, hframe⟩ := X.leave (v := some (.int 1)) (hlocks := hlocks) (fun h => by rw [hr] at h; cases h)
  have hmeth' : T.vm.method? m = some meth := X.method'
  refine ⟨T.setFrames fs, ?_, .returned (some (.int 1)), hrun, hended, rfl, ⟨_, rfl⟩, hW, hframe⟩
  jvm_step X.here [X.here.top, hx, hb, hdg, hmeth', hr, ret, narrow_b1]
  (try refine ⟨rfl, ?_⟩); (try refine ⟨rfl, ?_⟩)
  first | (intro acts; rw [hret _ acts rfl rfl rfl]) | rw [hret _ _ rfl rfl rfl]
  exact Steps.refl _
/-- what holds at the law's entry: the machine, the code, the tables' words (any of lw_tbl by 'hts w (by decide +kernel)'), the script of L ints xs at the cell b, what the Statement gives of the start (any of its parts by flat_of_before) -/
def lw_At (p : Program) (s : State) (m : MethodId) (meth : Method) (c : Code) (b L : Nat) (xs : Nat → Int32) : Prop :=
  p.tables.exec = Jvm.exec ∧ c.code = code ∧ meth.sig.returnType = ret ∧ c.maxLocals = 7 ∧ s.vm.findClass R_law = some m.cls ∧ (∀ w ∈ lw_tbl, w.before #[Value.ref b] s = true) ∧ va_X b L xs s s.heap ∧ b < s.heap.size ∧ meth.locks = false ∧ (Jvm.Cond.and given_1 narrow_1).before #[Value.ref b] s = true

abbrev mL (nm : String) : bs_M := (⟨R_law, nm, "([I)Z"⟩, code, 7, some .boolean)
/-- the law's own walk: its script, its end -/
def bs_zl (b L : Nat) (xs : Nat → Int32) : bs_Z := (fun l s args A => va_X b L xs s s.heap ∧ b < s.heap.size ∧ ¬ A b ∧ (∀ q, A q → s.heap.size ≤ q) ∧ l.flags = flags0 ∧ args = #[Value.ref b] ∧ (Jvm.Cond.and given_1 narrow_1).before args s = true ∧ ∀ w ∈ lw_tbl, w.before args s = true, fun s args below _ _ _ => lw_Z below args s)
theorem law_vk {own tx : String} {k a : Nat} {A : Array Value} {U : State} (h1 : (Cond.stringRef own k tx).before A U = true) (h2 : (Term.string own k).eval A U none [] U = some (.ref a)) : vk_R own k tx a U := vk_R.of h1 h2
section LAW
variable {nm : String} {b L : Nat} {xs : Nat → Int32} {X : bs_M} {rm : Room} {pc : Nat} {lo : bs_L} {st rest : List Value} {nc ns nx : Nat} {sh : bs_Sh} {mu : bs_Mm}
theorem bs_sld {i : Int32} {j : Nat} (d : decode X.2.1 pc = .ok (.iaload, 1)) (hi : bs_ix i j L) (k : bs_V (bs_zl b L xs) X rm (pc + 1) lo (.int (xs j) :: rest) nc ns nx sh mu) : bs_V (bs_zl b L xs) X rm pc lo (.int i :: .ref b :: rest) nc ns nx sh mu :=
  fun p l e s m args below meth c D dA A F hE H locs ls hP hS hl => va_sld F.1 F.2.1 hE.1 hE.2.1 hE.2.2.1 hS hi.2 d (by rw [hi.1]; exact k p l e s m args below meth c D dA A F hE H locs ls hP hS hl)
theorem bs_slen (d : decode X.2.1 pc = .ok (.arraylength, 1)) (k : bs_V (bs_zl b L xs) X rm (pc + 1) lo (.int (nI L) :: rest) nc ns nx sh mu) : bs_V (bs_zl b L xs) X rm pc lo (.ref b :: rest) nc ns nx sh mu :=
  fun p l e s m args below meth c D dA A F hE H locs ls hP hS hl => va_slen F.1 F.2.1 hE.1 hE.2.1 hE.2.2.1 hS d (k p l e s m args below meth c D dA A F hE H locs ls hP hS hl)
theorem bs_lend (d : decode code pc = .ok (.ireturn, 1)) (hc : nc ≤ room_1.cells) (hn : ns ≤ room_1.slots) : bs_V (bs_zl b L xs) (mL nm) room_1 pc lo [.int 1] nc ns nx sh mu := by
  intro p l e s m args below meth c D dA A F hE H locs ls hP hS hl
  obtain ⟨-, -, -, hA, -, hargs, -, -⟩ := hE
  subst hargs
  refine va_forget (fun q hq => hA _ (hS.2.2 q hq)) ?_
  refine W.widen hc hn ?_
  exact lw_ret F.1 F.2.1 F.2.2.1 F.2.2.2.2.2.2.1 d
theorem law_arg {i k K : Nat} {kk : Int} {n0 : Fin 4} (hi : i + 7 ≤ L) (hL : L ≤ 3584) (hk : k < 7) (h0 : n0 = 0) (d0 : decode code pc = .ok (.aload_n n0, 1)) (d1 : decode code (pc + 1) = .ok (.iload 4, 2)) (d2 : decode code (pc + 3) = .ok (.iconst kk, 1)) (hkk : Int32.ofInt kk = nI k) (d3 : decode code (pc + 4) = .ok (.iadd, 1)) (d4 : decode code (pc + 5) = .ok (.iaload, 1)) (hK : pc + 6 = K) (v0 : lo 0 = some (.ref b)) (v4 : lo 4 = some (.int (nI i)))
    (k0 : bs_V (bs_zl b L xs) (mL nm) room_1 K lo (.int (xs (i + k)) :: rest) nc ns nx sh mu) : bs_V (bs_zl b L xs) (mL nm) room_1 pc lo rest nc ns nx sh mu := by
  subst h0
  subst hK
  refine bs_aload_n d0 v0 ?_
  refine bs_iload d1 v4 ?_
  refine bs_iconst d2 hkk ?_
  refine bs_iadd d3 ?_
  refine bs_topq (x' := nI (i + k)) (nI_add i k) ?_
  exact bs_sld d4 (bs_ix_n (by omega) (by omega)) k0
theorem law_argb {i k K : Nat} {kk : Int} {n0 : Fin 4} (hi : i + 7 ≤ L) (hL : L ≤ 3584) (hk : k < 7) (h0 : n0 = 0) (d0 : decode code pc = .ok (.aload_n n0, 1)) (d1 : decode code (pc + 1) = .ok (.iload 4, 2)) (d2 : decode code (pc + 3) = .ok (.bipush kk, 2)) (hkk : (Int8.ofInt kk).toInt32 = nI k) (d3 : decode code (pc + 5) = .ok (.iadd, 1)) (d4 : decode code (pc + 6) = .ok (.iaload, 1)) (hK : pc + 7 = K) (v0 : lo 0 = some (.ref b)) (v4 : lo 4 = some (.int (nI i)))
    (k0 : bs_V (bs_zl b L xs) (mL nm) room_1 K lo (.int (xs (i + k)) :: rest) nc ns nx sh mu) : bs_V (bs_zl b L xs) (mL nm) room_1 pc lo rest nc ns nx sh mu := by
  subst h0
  subst hK
  refine bs_aload_n d0 v0 ?_
  refine bs_iload d1 v4 ?_
  refine bs_bipush d2 hkk ?_
  refine bs_iadd d3 ?_
  refine bs_topq (x' := nI (i + k)) (nI_add i k) ?_
  exact bs_sld d4 (bs_ix_n (by omega) (by omega)) k0
theorem law_J {l : Launch} {s : State} {args : Array Value} {A : Nat → Prop} (h : (bs_zl b L xs).1 l s args A) : l.stackTraces = false ∧ bs_J A s := by
  obtain ⟨-, -, -, hA, hfl, hargs, hgv, htb⟩ := h
  have hs := flat_of_before _ hgv
  have hA' : ∀ a : Nat, a < s.heap.size → ¬ A a := fun a h1 h2 => absurd h1 (Nat.not_lt.mpr (hA a h2))
  have t5 : ∀ w ∈ tables_1_5, w.before args s = true := fun w h => htb w (bs_t5 w h)
  have t6 : ∀ w ∈ tables_1_6, w.before args s = true := fun w h => htb w (bs_t6 w h)
  have hini : (Cond.initialized Bundle.tN).before args s = true := htb _ (bs_t1 _ (List.mem_of_getElem? (i := 18) rfl))
  refine ⟨?_, vx_Zqof (t5 _ (List.mem_of_getElem? (i := 187) rfl)) hini (hs _ (by decide +kernel)) hA', vx_Zqof (t5 _ (List.mem_of_getElem? (i := 189) rfl)) hini (hs _ (by decide +kernel)) hA', ?_, va_Nw.of rfl (t5 _ (List.mem_of_getElem? (i := 162) rfl)), ?_⟩
  · show (!l.flags.contains noTraceFlag) = false
    rw [hfl]
    decide
  · exact bs_fac (va_Nw.of rfl (t5 _ (List.mem_of_getElem? (i := 164) rfl))) (bs_fac (va_Nw.of rfl (t5 _ (List.mem_of_getElem? (i := 166) rfl))) (bs_fac (va_Nw.of rfl (t5 _ (List.mem_of_getElem? (i := 168) rfl))) (fun w hw => nomatch hw)))
  · have st : ∀ (k : Nat) (tx : String), (Cond.stringRef "BalloonStall" k tx).before args s = true → (Cond.exactly (.string "BalloonStall" k) "java/lang/String").before args s = true → ∃ a, vk_R "BalloonStall" k tx a s := fun k tx h1 h2 => by
      obtain ⟨a, _, _, _, e1, -⟩ := Cond.exactly_spec h2
      exact ⟨a, law_vk h1 e1⟩
    exact bs_fac (st _ _ (t5 _ (List.mem_of_getElem? (i := 199) rfl)) (hs _ (by decide +kernel))) (bs_fac (st _ _ (t5 _ (List.mem_of_getElem? (i := 226) rfl)) (hs _ (by decide +kernel))) (bs_fac (st _ _ (t5 _ (List.mem_of_getElem? (i := 234) rfl)) (hs _ (by decide +kernel))) (bs_fac (st _ _ (t5 _ (List.mem_of_getElem? (i := 235) rfl)) (hs _ (by decide +kernel))) (bs_fac (st _ _ (t6 _ (List.mem_of_getElem? (i := 3) rfl)) (hs _ (by decide +kernel))) (fun w hw => nomatch hw)))))
end LAW
set_option maxHeartbeats 4000000 in
set_option maxRecDepth 100000 in
/-- sort -/
theorem law_c0 {nm : String} {b L i x nx nc ns : Nat} {xs : Nat → Int32} {lo : bs_L} {sh : bs_Sh} {mu : bs_Mm} (hi : i + 7 ≤ L) (hL : L ≤ 3584) (v0 : lo 0 = some (.ref b)) (v1 : lo 1 = some (.ref x)) (v2 : lo 2 = some (.ref (x + 159))) (v3 : lo 3 = some (.ref (x + 194))) (v4 : lo 4 = some (.int (nI i))) (hnc : nc + 20 ≤ 601024) (hns : ns + 200 ≤ 7293034) (GS : bs_Fr (bs_tS x) x sh mu) (GM : bs_Fr (bs_tM (x + 159)) (x + 159) sh mu) (kend : ∀ lo2 nc2 ns2 nx2 sh2 mu2, lo2 0 = some (.ref b) → lo2 1 = some (.ref x) → lo2 2 = some (.ref (x + 159)) → lo2 3 = some (.ref (x + 194)) → lo2 4 = some (.int (nI i)) → nc2 ≤ nc + 20 → ns2 ≤ ns + 200 → bs_V (bs_zl b L xs) (mL nm) room_1 1654 lo2 [] nc2 ns2 nx2 sh2 mu2) : bs_V (bs_zl b L xs) (mL nm) room_1 196 lo [] nc ns nx sh mu := by
  refine bs_aload_n dL_law_196 v1 ?_
  refine law_arg (k := 1) (K := 203) hi hL (by decide) rfl dL_law_197 dL_law_198 dL_law_200 (by decide) dL_law_201 dL_law_202 rfl v0 v4 ?_
  refine law_arg (k := 2) (K := 209) hi hL (by decide) rfl dL_law_203 dL_law_204 dL_law_206 (by decide) dL_law_207 dL_law_208 rfl v0 v4 ?_
  refine law_arg (k := 3) (K := 215) hi hL (by decide) rfl dL_law_209 dL_law_210 dL_law_212 (by decide) dL_law_213 dL_law_214 rfl v0 v4 ?_
  refine bs_callV dL_law_215 qL_27 (p_sort GS _ _ _) rfl (GS.st.s 0 rfl rfl rfl) rfl (Nat.le_of_ble_eq_true rfl) ⟨⟨Nat.le_of_ble_eq_true rfl, Nat.le_of_ble_eq_true rfl⟩, by show nc + 0 ≤ 601024; omega, by show ns + 0 ≤ 7293034; omega⟩ (fun v5 nx5 sh5 mu5 hp5 => ?_)
  obtain ⟨rfl, rfl, rfl, hfr⟩ := hp5
  have GM2 := GM.same (sh' := _) (mu' := mu5) (fun a h1 h2 => ⟨rfl, hfr a (Or.inr (by omega))⟩)
  refine bs_aload_n dL_law_218 v2 ?_
  refine law_arg (k := 1) (K := 225) hi hL (by decide) rfl dL_law_219 dL_law_220 dL_law_222 (by decide) dL_law_223 dL_law_224 rfl v0 v4 ?_
  refine law_arg (k := 2) (K := 231) hi hL (by decide) rfl dL_law_225 dL_law_226 dL_law_228 (by decide) dL_law_229 dL_law_230 rfl v0 v4 ?_
  refine law_arg (k := 3) (K := 237) hi hL (by decide) rfl dL_law_231 dL_law_232 dL_law_234 (by decide) dL_law_235 dL_law_236 rfl v0 v4 ?_
  refine bs_callV dL_law_237 qL_30 (m_sort GM2 _ _ _) rfl (GM2.st.s 0 rfl rfl rfl) rfl (Nat.le_of_ble_eq_true rfl) ⟨⟨Nat.le_of_ble_eq_true rfl, Nat.le_of_ble_eq_true rfl⟩, by show nc + 0 + 0 ≤ 601024; omega, by show ns + 0 + 0 ≤ 7293034; omega⟩ (fun v6 nx6 sh6 mu6 hp6 => ?_)
  obtain ⟨rfl, rfl, rfl⟩ := hp6
  refine bs_icmp_eq (tgt := 1654) dL_law_240 (by decide) (fun _ => ?_) (fun c => absurd rfl c)
  exact kend _ _ _ _ _ _ v0 v1 v2 v3 v4 (by show nc + 0 + 0 ≤ nc + 20; omega) (by show ns + 0 + 0 ≤ ns + 200; omega)
set_option maxHeartbeats 4000000 in
set_option maxRecDepth 100000 in
/-- feed -/
theorem law_c1 {nm : String} {b L i x nx nc ns : Nat} {xs : Nat → Int32} {lo : bs_L} {sh : bs_Sh} {mu : bs_Mm} (hi : i + 7 ≤ L) (hL : L ≤ 3584) (v0 : lo 0 = some (.ref b)) (v1 : lo 1 = some (.ref x)) (v2 : lo 2 = some (.ref (x + 159))) (v3 : lo 3 = some (.ref (x + 194))) (v4 : lo 4 = some (.int (nI i))) (hnc : nc + 20 ≤ 601024) (hns : ns + 200 ≤ 7293034) (GS : bs_Fr (bs_tS x) x sh mu) (GM : bs_Fr (bs_tM (x + 159)) (x + 159) sh mu) (kend : ∀ lo2 nc2 ns2 nx2 sh2 mu2, lo2 0 = some (.ref b) → lo2 1 = some (.ref x) → lo2 2 = some (.ref (x + 159)) → lo2 3 = some (.ref (x + 194)) → lo2 4 = some (.int (nI i)) → nc2 ≤ nc + 20 → ns2 ≤ ns + 200 → bs_V (bs_zl b L xs) (mL nm) room_1 1654 lo2 [] nc2 ns2 nx2 sh2 mu2) : bs_V (bs_zl b L xs) (mL nm) room_1 245 lo [] nc ns nx sh mu := by
  refine bs_aload_n dL_law_245 v1 ?_
  refine law_arg (k := 1) (K := 252) hi hL (by decide) rfl dL_law_246 dL_law_247 dL_law_249 (by decide) dL_law_250 dL_law_251 rfl v0 v4 ?_
  refine law_arg (k := 2) (K := 258) hi hL (by decide) rfl dL_law_252 dL_law_253 dL_law_255 (by decide) dL_law_256 dL_law_257 rfl v0 v4 ?_
  refine law_arg (k := 3) (K := 264) hi hL (by decide) rfl dL_law_258 dL_law_259 dL_law_261 (by decide) dL_law_262 dL_law_263 rfl v0 v4 ?_
  refine law_arg (k := 4) (K := 270) hi hL (by decide) rfl dL_law_264 dL_law_265 dL_law_267 (by decide) dL_law_268 dL_law_269 rfl v0 v4 ?_
  refine law_arg (k := 5) (K := 276) hi hL (by decide) rfl dL_law_270 dL_law_271 dL_law_273 (by decide) dL_law_274 dL_law_275 rfl v0 v4 ?_
  refine bs_callV dL_law_276 qL_31 (p_feed GS _ _ _ _ _) rfl (GS.st.s 0 rfl rfl rfl) rfl (Nat.le_of_ble_eq_true rfl) ⟨⟨Nat.le_of_ble_eq_true rfl, Nat.le_of_ble_eq_true rfl⟩, by show nc + 0 ≤ 601024; omega, by show ns + 0 ≤ 7293034; omega⟩ (fun v5 nx5 sh5 mu5 hp5 => ?_)
  obtain ⟨rfl, rfl, rfl, hfr⟩ := hp5
  have GM2 := GM.same (sh' := _) (mu' := mu5) (fun a h1 h2 => ⟨rfl, hfr a (Or.inr (by omega))⟩)
  refine bs_aload_n dL_law_279 v2 ?_
  refine law_arg (k := 1) (K := 286) hi hL (by decide) rfl dL_law_280 dL_law_281 dL_law_283 (by decide) dL_law_284 dL_law_285 rfl v0 v4 ?_
  refine law_arg (k := 2) (K := 292) hi hL (by decide) rfl dL_law_286 dL_law_287 dL_law_289 (by decide) dL_law_290 dL_law_291 rfl v0 v4 ?_
  refine law_arg (k := 3) (K := 298) hi hL (by decide) rfl dL_law_292 dL_law_293 dL_law_295 (by decide) dL_law_296 dL_law_297 rfl v0 v4 ?_
  refine law_arg (k := 4) (K := 304) hi hL (by decide) rfl dL_law_298 dL_law_299 dL_law_301 (by decide) dL_law_302 dL_law_303 rfl v0 v4 ?_
  refine law_arg (k := 5) (K := 310) hi hL (by decide) rfl dL_law_304 dL_law_305 dL_law_307 (by decide) dL_law_308 dL_law_309 rfl v0 v4 ?_
  refine bs_callV dL_law_310 qL_35 (m_feed GM2 _ _ _ _ _) rfl (GM2.st.s 0 rfl rfl rfl) rfl (Nat.le_of_ble_eq_true rfl) ⟨⟨Nat.le_of_ble_eq_true rfl, Nat.le_of_ble_eq_true rfl⟩, by show nc + 0 + 0 ≤ 601024; omega, by show ns + 0 + 0 ≤ 7293034; omega⟩ (fun v6 nx6 sh6 mu6 hp6 => ?_)
  obtain ⟨rfl, rfl, rfl⟩ := hp6
  refine bs_icmp_eq (tgt := 1654) dL_law_313 (by decide) (fun _ => ?_) (fun c => absurd rfl c)
  exact kend _ _ _ _ _ _ v0 v1 v2 v3 v4 (by show nc + 0 + 0 ≤ nc + 20; omega) (by show ns + 0 + 0 ≤ ns + 200; omega)
set_option maxHeartbeats 4000000 in
set_option maxRecDepth 100000 in
/-- end -/
theorem law_c2 {nm : String} {b L i x nx nc ns : Nat} {xs : Nat → Int32} {lo : bs_L} {sh : bs_Sh} {mu : bs_Mm} (hi : i + 7 ≤ L) (hL : L ≤ 3584) (v0 : lo 0 = some (.ref b)) (v1 : lo 1 = some (.ref x)) (v2 : lo 2 = some (.ref (x + 159))) (v3 : lo 3 = some (.ref (x + 194))) (v4 : lo 4 = some (.int (nI i))) (hnc : nc + 20 ≤ 601024) (hns : ns + 200 ≤ 7293034) (GS : bs_Fr (bs_tS x) x sh mu) (GM : bs_Fr (bs_tM (x + 159)) (x + 159) sh mu) (kend : ∀ lo2 nc2 ns2 nx2 sh2 mu2, lo2 0 = some (.ref b) → lo2 1 = some (.ref x) → lo2 2 = some (.ref (x + 159)) → lo2 3 = some (.ref (x + 194)) → lo2 4 = some (.int (nI i)) → nc2 ≤ nc + 20 → ns2 ≤ ns + 200 → bs_V (bs_zl b L xs) (mL nm) room_1 1654 lo2 [] nc2 ns2 nx2 sh2 mu2) : bs_V (bs_zl b L xs) (mL nm) room_1 318 lo [] nc ns nx sh mu := by
  refine bs_aload_n dL_law_318 v1 ?_
  refine law_arg (k := 1) (K := 325) hi hL (by decide) rfl dL_law_319 dL_law_320 dL_law_322 (by decide) dL_law_323 dL_law_324 rfl v0 v4 ?_
  refine bs_callV dL_law_325 qL_36 (p_end GS _) rfl (GS.st.s 0 rfl rfl rfl) rfl (Nat.le_of_ble_eq_true rfl) ⟨⟨Nat.le_of_ble_eq_true rfl, Nat.le_of_ble_eq_true rfl⟩, by show nc + 0 ≤ 601024; omega, by show ns + 0 ≤ 7293034; omega⟩ (fun v5 nx5 sh5 mu5 hp5 => ?_)
  obtain ⟨rfl, rfl, rfl, hfr⟩ := hp5
  have GM2 := GM.same (sh' := _) (mu' := mu5) (fun a h1 h2 => ⟨rfl, hfr a (Or.inr (by omega))⟩)
  refine bs_aload_n dL_law_328 v2 ?_
  refine law_arg (k := 1) (K := 335) hi hL (by decide) rfl dL_law_329 dL_law_330 dL_law_332 (by decide) dL_law_333 dL_law_334 rfl v0 v4 ?_
  refine bs_callV dL_law_335 qL_40 (m_end GM2 _) rfl (GM2.st.s 0 rfl rfl rfl) rfl (Nat.le_of_ble_eq_true rfl) ⟨⟨Nat.le_of_ble_eq_true rfl, Nat.le_of_ble_eq_true rfl⟩, by show nc + 0 + 0 ≤ 601024; omega, by show ns + 0 + 0 ≤ 7293034; omega⟩ (fun v6 nx6 sh6 mu6 hp6 => ?_)
  obtain ⟨rfl, rfl, rfl⟩ := hp6
  refine bs_icmp_eq (tgt := 1654) dL_law_338 (by decide) (fun _ => ?_) (fun c => absurd rfl c)
  exact kend _ _ _ _ _ _ v0 v1 v2 v3 v4 (by show nc + 0 + 0 ≤ nc + 20; omega) (by show ns + 0 + 0 ≤ ns + 200; omega)
set_option maxHeartbeats 4000000 in
set_option maxRecDepth 100000 in
/-- fault -/
theorem law_c3 {nm : String} {b L i x nx nc ns : Nat} {xs : Nat → Int32} {lo : bs_L} {sh : bs_Sh} {mu : bs_Mm} (hi : i + 7 ≤ L) (hL : L ≤ 3584) (v0 : lo 0 = some (.ref b)) (v1 : lo 1 = some (.ref x)) (v2 : lo 2 = some (.ref (x + 159))) (v3 : lo 3 = some (.ref (x + 194))) (v4 : lo 4 = some (.int (nI i))) (hnc : nc + 20 ≤ 601024) (hns : ns + 200 ≤ 7293034) (GS : bs_Fr (bs_tS x) x sh mu) (GM : bs_Fr (bs_tM (x + 159)) (x + 159) sh mu) (kend : ∀ lo2 nc2 ns2 nx2 sh2 mu2, lo2 0 = some (.ref b) → lo2 1 = some (.ref x) → lo2 2 = some (.ref (x + 159)) → lo2 3 = some (.ref (x + 194)) → lo2 4 = some (.int (nI i)) → nc2 ≤ nc + 20 → ns2 ≤ ns + 200 → bs_V (bs_zl b L xs) (mL nm) room_1 1654 lo2 [] nc2 ns2 nx2 sh2 mu2) : bs_V (bs_zl b L xs) (mL nm) room_1 343 lo [] nc ns nx sh mu := by
  refine bs_aload_n dL_law_343 v1 ?_
  refine law_arg (k := 1) (K := 350) hi hL (by decide) rfl dL_law_344 dL_law_345 dL_law_347 (by decide) dL_law_348 dL_law_349 rfl v0 v4 ?_
  refine bs_callV dL_law_350 qL_41 (p_fault GS _) rfl (GS.st.s 0 rfl rfl rfl) rfl (Nat.le_of_ble_eq_true rfl) ⟨⟨Nat.le_of_ble_eq_true rfl, Nat.le_of_ble_eq_true rfl⟩, by show nc + 0 ≤ 601024; omega, by show ns + 0 ≤ 7293034; omega⟩ (fun v5 nx5 sh5 mu5 hp5 => ?_)
  obtain ⟨rfl, rfl, rfl, hfr⟩ := hp5
  have GM2 := GM.same (sh' := _) (mu' := mu5) (fun a h1 h2 => ⟨rfl, hfr a (Or.inr (by omega))⟩)
  refine bs_aload_n dL_law_353 v2 ?_
  refine law_arg (k := 1) (K := 360) hi hL (by decide) rfl dL_law_354 dL_law_355 dL_law_357 (by decide) dL_law_358 dL_law_359 rfl v0 v4 ?_
  refine bs_callV dL_law_360 qL_45 (m_fault GM2 _) rfl (GM2.st.s 0 rfl rfl rfl) rfl (Nat.le_of_ble_eq_true rfl) ⟨⟨Nat.le_of_ble_eq_true rfl, Nat.le_of_ble_eq_true rfl⟩, by show nc + 0 + 0 ≤ 601024; omega, by show ns + 0 + 0 ≤ 7293034; omega⟩ (fun v6 nx6 sh6 mu6 hp6 => ?_)
  obtain ⟨rfl, rfl, rfl⟩ := hp6
  refine bs_icmp_eq (tgt := 1654) dL_law_363 (by decide) (fun _ => ?_) (fun c => absurd rfl c)
  exact kend _ _ _ _ _ _ v0 v1 v2 v3 v4 (by show nc + 0 + 0 ≤ nc + 20; omega) (by show ns + 0 + 0 ≤ ns + 200; omega)
set_option maxHeartbeats 4000000 in
set_option maxRecDepth 100000 in
/-- figure -/
theorem law_c4 {nm : String} {b L i x nx nc ns : Nat} {xs : Nat → Int32} {lo : bs_L} {sh : bs_Sh} {mu : bs_Mm} (hi : i + 7 ≤ L) (hL : L ≤ 3584) (v0 : lo 0 = some (.ref b)) (v1 : lo 1 = some (.ref x)) (v2 : lo 2 = some (.ref (x + 159))) (v3 : lo 3 = some (.ref (x + 194))) (v4 : lo 4 = some (.int (nI i))) (hnc : nc + 20 ≤ 601024) (hns : ns + 200 ≤ 7293034) (GS : bs_Fr (bs_tS x) x sh mu) (GM : bs_Fr (bs_tM (x + 159)) (x + 159) sh mu) (kend : ∀ lo2 nc2 ns2 nx2 sh2 mu2, lo2 0 = some (.ref b) → lo2 1 = some (.ref x) → lo2 2 = some (.ref (x + 159)) → lo2 3 = some (.ref (x + 194)) → lo2 4 = some (.int (nI i)) → nc2 ≤ nc + 20 → ns2 ≤ ns + 200 → bs_V (bs_zl b L xs) (mL nm) room_1 1654 lo2 [] nc2 ns2 nx2 sh2 mu2) : bs_V (bs_zl b L xs) (mL nm) room_1 368 lo [] nc ns nx sh mu := by
  refine bs_aload_n dL_law_368 v1 ?_
  refine bs_callV dL_law_369 qL_46 (p_figure GS) rfl (GS.st.s 0 rfl rfl rfl) rfl (Nat.le_of_ble_eq_true rfl) ⟨⟨Nat.le_of_ble_eq_true rfl, Nat.le_of_ble_eq_true rfl⟩, by show nc + 0 ≤ 601024; omega, by show ns + 0 ≤ 7293034; omega⟩ (fun v5 nx5 sh5 mu5 hp5 => ?_)
  obtain ⟨rfl, rfl, rfl, hfr⟩ := hp5
  have GM2 := GM.same (sh' := _) (mu' := mu5) (fun a h1 h2 => ⟨rfl, hfr a (Or.inr (by omega))⟩)
  refine bs_aload_n dL_law_372 v2 ?_
  refine bs_callV dL_law_373 qL_50 (m_figure GM2) rfl (GM2.st.s 0 rfl rfl rfl) rfl (Nat.le_of_ble_eq_true rfl) ⟨⟨Nat.le_of_ble_eq_true rfl, Nat.le_of_ble_eq_true rfl⟩, by show nc + 0 + 0 ≤ 601024; omega, by show ns + 0 + 0 ≤ 7293034; omega⟩ (fun v6 nx6 sh6 mu6 hp6 => ?_)
  obtain ⟨rfl, rfl, rfl⟩ := hp6
  refine bs_icmp_eq (tgt := 1654) dL_law_376 (by decide) (fun _ => ?_) (fun c => absurd rfl c)
  exact kend _ _ _ _ _ _ v0 v1 v2 v3 v4 (by show nc + 0 + 0 ≤ nc + 20; omega) (by show ns + 0 + 0 ≤ ns + 200; omega)
set_option maxHeartbeats 4000000 in
set_option maxRecDepth 100000 in
/-- rule -/
theorem law_c5 {nm : String} {b L i x nx nc ns : Nat} {xs : Nat → Int32} {lo : bs_L} {sh : bs_Sh} {mu : bs_Mm} (hi : i + 7 ≤ L) (hL : L ≤ 3584) (v0 : lo 0 = some (.ref b)) (v1 : lo 1 = some (.ref x)) (v2 : lo 2 = some (.ref (x + 159))) (v3 : lo 3 = some (.ref (x + 194))) (v4 : lo 4 = some (.int (nI i))) (hnc : nc + 20 ≤ 601024) (hns : ns + 200 ≤ 7293034) (GS : bs_Fr (bs_tS x) x sh mu) (GM : bs_Fr (bs_tM (x + 159)) (x + 159) sh mu) (kend : ∀ lo2 nc2 ns2 nx2 sh2 mu2, lo2 0 = some (.ref b) → lo2 1 = some (.ref x) → lo2 2 = some (.ref (x + 159)) → lo2 3 = some (.ref (x + 194)) → lo2 4 = some (.int (nI i)) → nc2 ≤ nc + 20 → ns2 ≤ ns + 200 → bs_V (bs_zl b L xs) (mL nm) room_1 1654 lo2 [] nc2 ns2 nx2 sh2 mu2) : bs_V (bs_zl b L xs) (mL nm) room_1 381 lo [] nc ns nx sh mu := by
  refine bs_aload_n dL_law_381 v1 ?_
  refine bs_callV dL_law_382 qL_51 (p_rule GS) rfl (GS.st.s 0 rfl rfl rfl) rfl (Nat.le_of_ble_eq_true rfl) ⟨⟨Nat.le_of_ble_eq_true rfl, Nat.le_of_ble_eq_true rfl⟩, by show nc + 0 ≤ 601024; omega, by show ns + 0 ≤ 7293034; omega⟩ (fun v5 nx5 sh5 mu5 hp5 => ?_)
  obtain ⟨rfl, rfl, rfl, hfr⟩ := hp5
  have GM2 := GM.same (sh' := _) (mu' := mu5) (fun a h1 h2 => ⟨rfl, hfr a (Or.inr (by omega))⟩)
  refine bs_aload_n dL_law_385 v2 ?_
  refine bs_callV dL_law_386 qL_54 (m_rule GM2) rfl (GM2.st.s 0 rfl rfl rfl) rfl (Nat.le_of_ble_eq_true rfl) ⟨⟨Nat.le_of_ble_eq_true rfl, Nat.le_of_ble_eq_true rfl⟩, by show nc + 0 + 0 ≤ 601024; omega, by show ns + 0 + 0 ≤ 7293034; omega⟩ (fun v6 nx6 sh6 mu6 hp6 => ?_)
  obtain ⟨rfl, rfl, rfl⟩ := hp6
  refine bs_icmp_eq (tgt := 1654) dL_law_389 (by decide) (fun _ => ?_) (fun c => absurd rfl c)
  exact kend _ _ _ _ _ _ v0 v1 v2 v3 v4 (by show nc + 0 + 0 ≤ nc + 20; omega) (by show ns + 0 + 0 ≤ ns + 200; omega)
set_option maxHeartbeats 4000000 in
set_option maxRecDepth 100000 in
/-- many -/
theorem law_c6 {nm : String} {b L i x nx nc ns : Nat} {xs : Nat → Int32} {lo : bs_L} {sh : bs_Sh} {mu : bs_Mm} (hi : i + 7 ≤ L) (hL : L ≤ 3584) (v0 : lo 0 = some (.ref b)) (v1 : lo 1 = some (.ref x)) (v2 : lo 2 = some (.ref (x + 159))) (v3 : lo 3 = some (.ref (x + 194))) (v4 : lo 4 = some (.int (nI i))) (hnc : nc + 20 ≤ 601024) (hns : ns + 200 ≤ 7293034) (GS : bs_Fr (bs_tS x) x sh mu) (GM : bs_Fr (bs_tM (x + 159)) (x + 159) sh mu) (kend : ∀ lo2 nc2 ns2 nx2 sh2 mu2, lo2 0 = some (.ref b) → lo2 1 = some (.ref x) → lo2 2 = some (.ref (x + 159)) → lo2 3 = some (.ref (x + 194)) → lo2 4 = some (.int (nI i)) → nc2 ≤ nc + 20 → ns2 ≤ ns + 200 → bs_V (bs_zl b L xs) (mL nm) room_1 1654 lo2 [] nc2 ns2 nx2 sh2 mu2) : bs_V (bs_zl b L xs) (mL nm) room_1 394 lo [] nc ns nx sh mu := by
  refine bs_aload_n dL_law_394 v1 ?_
  refine law_arg (k := 1) (K := 401) hi hL (by decide) rfl dL_law_395 dL_law_396 dL_law_398 (by decide) dL_law_399 dL_law_400 rfl v0 v4 ?_
  refine law_arg (k := 2) (K := 407) hi hL (by decide) rfl dL_law_401 dL_law_402 dL_law_404 (by decide) dL_law_405 dL_law_406 rfl v0 v4 ?_
  refine bs_callV dL_law_407 qL_55 (p_many GS.st (GS.i 0 13 rfl rfl rfl) _ _) rfl (GS.st.s 0 rfl rfl rfl) rfl (Nat.le_of_ble_eq_true rfl) ⟨⟨Nat.le_of_ble_eq_true rfl, Nat.le_of_ble_eq_true rfl⟩, by show nc + 0 ≤ 601024; omega, by show ns + 0 ≤ 7293034; omega⟩ (fun v5 nx5 sh5 mu5 hp5 => ?_)
  obtain ⟨rfl, rfl, rfl, rfl⟩ := hp5
  refine bs_aload_n dL_law_410 v2 ?_
  refine law_arg (k := 1) (K := 417) hi hL (by decide) rfl dL_law_411 dL_law_412 dL_law_414 (by decide) dL_law_415 dL_law_416 rfl v0 v4 ?_
  refine law_arg (k := 2) (K := 423) hi hL (by decide) rfl dL_law_417 dL_law_418 dL_law_420 (by decide) dL_law_421 dL_law_422 rfl v0 v4 ?_
  refine bs_callV dL_law_423 qL_58 (m_many GM _ _) rfl (GM.st.s 0 rfl rfl rfl) rfl (Nat.le_of_ble_eq_true rfl) ⟨⟨Nat.le_of_ble_eq_true rfl, Nat.le_of_ble_eq_true rfl⟩, by show nc + 0 + 0 ≤ 601024; omega, by show ns + 0 + 0 ≤ 7293034; omega⟩ (fun v6 nx6 sh6 mu6 hp6 => ?_)
  obtain ⟨rfl, rfl, rfl, rfl⟩ := hp6
  refine bs_icmp_eq (tgt := 1654) dL_law_426 (by decide) (fun _ => ?_) (fun c => absurd rfl c)
  exact kend _ _ _ _ _ _ v0 v1 v2 v3 v4 (by show nc + 0 + 0 ≤ nc + 20; omega) (by show ns + 0 + 0 ≤ ns + 200; omega)
set_option maxHeartbeats 4000000 in
set_option maxRecDepth 100000 in
/-- ends -/
theorem law_c8 {nm : String} {b L i x nx nc ns : Nat} {xs : Nat → Int32} {lo : bs_L} {sh : bs_Sh} {mu : bs_Mm} (hi : i + 7 ≤ L) (hL : L ≤ 3584) (v0 : lo 0 = some (.ref b)) (v1 : lo 1 = some (.ref x)) (v2 : lo 2 = some (.ref (x + 159))) (v3 : lo 3 = some (.ref (x + 194))) (v4 : lo 4 = some (.int (nI i))) (hnc : nc + 20 ≤ 601024) (hns : ns + 200 ≤ 7293034) (GS : bs_Fr (bs_tS x) x sh mu) (GM : bs_Fr (bs_tM (x + 159)) (x + 159) sh mu) (kend : ∀ lo2 nc2 ns2 nx2 sh2 mu2, lo2 0 = some (.ref b) → lo2 1 = some (.ref x) → lo2 2 = some (.ref (x + 159)) → lo2 3 = some (.ref (x + 194)) → lo2 4 = some (.int (nI i)) → nc2 ≤ nc + 20 → ns2 ≤ ns + 200 → bs_V (bs_zl b L xs) (mL nm) room_1 1654 lo2 [] nc2 ns2 nx2 sh2 mu2) : bs_V (bs_zl b L xs) (mL nm) room_1 511 lo [] nc ns nx sh mu := by
  refine bs_aload_n dL_law_511 v1 ?_
  refine law_arg (k := 1) (K := 518) hi hL (by decide) rfl dL_law_512 dL_law_513 dL_law_515 (by decide) dL_law_516 dL_law_517 rfl v0 v4 ?_
  refine law_arg (k := 2) (K := 524) hi hL (by decide) rfl dL_law_518 dL_law_519 dL_law_521 (by decide) dL_law_522 dL_law_523 rfl v0 v4 ?_
  refine bs_callV dL_law_524 qL_68 (p_ends GS.st (GS.i 0 13 rfl rfl rfl) _ _) rfl (GS.st.s 0 rfl rfl rfl) rfl (Nat.le_of_ble_eq_true rfl) ⟨⟨Nat.le_of_ble_eq_true rfl, Nat.le_of_ble_eq_true rfl⟩, by show nc + 0 ≤ 601024; omega, by show ns + 0 ≤ 7293034; omega⟩ (fun v5 nx5 sh5 mu5 hp5 => ?_)
  obtain ⟨rfl, rfl, rfl, rfl⟩ := hp5
  refine bs_aload_n dL_law_527 v2 ?_
  refine law_arg (k := 1) (K := 534) hi hL (by decide) rfl dL_law_528 dL_law_529 dL_law_531 (by decide) dL_law_532 dL_law_533 rfl v0 v4 ?_
  refine law_arg (k := 2) (K := 540) hi hL (by decide) rfl dL_law_534 dL_law_535 dL_law_537 (by decide) dL_law_538 dL_law_539 rfl v0 v4 ?_
  refine bs_callV dL_law_540 qL_71 (m_ends GM _ _) rfl (GM.st.s 0 rfl rfl rfl) rfl (Nat.le_of_ble_eq_true rfl) ⟨⟨Nat.le_of_ble_eq_true rfl, Nat.le_of_ble_eq_true rfl⟩, by show nc + 0 + 0 ≤ 601024; omega, by show ns + 0 + 0 ≤ 7293034; omega⟩ (fun v6 nx6 sh6 mu6 hp6 => ?_)
  obtain ⟨rfl, rfl, rfl, rfl⟩ := hp6
  refine bs_icmp_eq (tgt := 1654) dL_law_543 (by decide) (fun _ => ?_) (fun c => absurd rfl c)
  exact kend _ _ _ _ _ _ v0 v1 v2 v3 v4 (by show nc + 0 + 0 ≤ nc + 20; omega) (by show ns + 0 + 0 ≤ ns + 200; omega)
set_option maxHeartbeats 4000000 in
set_option maxRecDepth 100000 in
/-- bursts -/
theorem law_c9 {nm : String} {b L i x nx nc ns : Nat} {xs : Nat → Int32} {lo : bs_L} {sh : bs_Sh} {mu : bs_Mm} (hi : i + 7 ≤ L) (hL : L ≤ 3584) (v0 : lo 0 = some (.ref b)) (v1 : lo 1 = some (.ref x)) (v2 : lo 2 = some (.ref (x + 159))) (v3 : lo 3 = some (.ref (x + 194))) (v4 : lo 4 = some (.int (nI i))) (hnc : nc + 20 ≤ 601024) (hns : ns + 200 ≤ 7293034) (GS : bs_Fr (bs_tS x) x sh mu) (GM : bs_Fr (bs_tM (x + 159)) (x + 159) sh mu) (kend : ∀ lo2 nc2 ns2 nx2 sh2 mu2, lo2 0 = some (.ref b) → lo2 1 = some (.ref x) → lo2 2 = some (.ref (x + 159)) → lo2 3 = some (.ref (x + 194)) → lo2 4 = some (.int (nI i)) → nc2 ≤ nc + 20 → ns2 ≤ ns + 200 → bs_V (bs_zl b L xs) (mL nm) room_1 1654 lo2 [] nc2 ns2 nx2 sh2 mu2) : bs_V (bs_zl b L xs) (mL nm) room_1 548 lo [] nc ns nx sh mu := by
  refine bs_aload_n dL_law_548 v1 ?_
  refine law_arg (k := 1) (K := 555) hi hL (by decide) rfl dL_law_549 dL_law_550 dL_law_552 (by decide) dL_law_553 dL_law_554 rfl v0 v4 ?_
  refine law_arg (k := 2) (K := 561) hi hL (by decide) rfl dL_law_555 dL_law_556 dL_law_558 (by decide) dL_law_559 dL_law_560 rfl v0 v4 ?_
  refine bs_callV dL_law_561 qL_72 (p_bursts GS.st (GS.i 0 13 rfl rfl rfl) _ _) rfl (GS.st.s 0 rfl rfl rfl) rfl (Nat.le_of_ble_eq_true rfl) ⟨⟨Nat.le_of_ble_eq_true rfl, Nat.le_of_ble_eq_true rfl⟩, by show nc + 0 ≤ 601024; omega, by show ns + 0 ≤ 7293034; omega⟩ (fun v5 nx5 sh5 mu5 hp5 => ?_)
  obtain ⟨rfl, rfl, rfl, rfl⟩ := hp5
  refine bs_aload_n dL_law_564 v2 ?_
  refine law_arg (k := 1) (K := 571) hi hL (by decide) rfl dL_law_565 dL_law_566 dL_law_568 (by decide) dL_law_569 dL_law_570 rfl v0 v4 ?_
  refine law_arg (k := 2) (K := 577) hi hL (by decide) rfl dL_law_571 dL_law_572 dL_law_574 (by decide) dL_law_575 dL_law_576 rfl v0 v4 ?_
  refine bs_callV dL_law_577 qL_75 (m_bursts GM _ _) rfl (GM.st.s 0 rfl rfl rfl) rfl (Nat.le_of_ble_eq_true rfl) ⟨⟨Nat.le_of_ble_eq_true rfl, Nat.le_of_ble_eq_true rfl⟩, by show nc + 0 + 0 ≤ 601024; omega, by show ns + 0 + 0 ≤ 7293034; omega⟩ (fun v6 nx6 sh6 mu6 hp6 => ?_)
  obtain ⟨rfl, rfl, rfl, rfl⟩ := hp6
  refine bs_icmp_eq (tgt := 1654) dL_law_580 (by decide) (fun _ => ?_) (fun c => absurd rfl c)
  exact kend _ _ _ _ _ _ v0 v1 v2 v3 v4 (by show nc + 0 + 0 ≤ nc + 20; omega) (by show ns + 0 + 0 ≤ ns + 200; omega)
set_option maxHeartbeats 4000000 in
set_option maxRecDepth 100000 in
/-- rest -/
theorem law_c10 {nm : String} {b L i x nx nc ns : Nat} {xs : Nat → Int32} {lo : bs_L} {sh : bs_Sh} {mu : bs_Mm} (hi : i + 7 ≤ L) (hL : L ≤ 3584) (v0 : lo 0 = some (.ref b)) (v1 : lo 1 = some (.ref x)) (v2 : lo 2 = some (.ref (x + 159))) (v3 : lo 3 = some (.ref (x + 194))) (v4 : lo 4 = some (.int (nI i))) (hnc : nc + 20 ≤ 601024) (hns : ns + 200 ≤ 7293034) (GS : bs_Fr (bs_tS x) x sh mu) (GM : bs_Fr (bs_tM (x + 159)) (x + 159) sh mu) (kend : ∀ lo2 nc2 ns2 nx2 sh2 mu2, lo2 0 = some (.ref b) → lo2 1 = some (.ref x) → lo2 2 = some (.ref (x + 159)) → lo2 3 = some (.ref (x + 194)) → lo2 4 = some (.int (nI i)) → nc2 ≤ nc + 20 → ns2 ≤ ns + 200 → bs_V (bs_zl b L xs) (mL nm) room_1 1654 lo2 [] nc2 ns2 nx2 sh2 mu2) : bs_V (bs_zl b L xs) (mL nm) room_1 585 lo [] nc ns nx sh mu := by
  refine bs_aload_n dL_law_585 v1 ?_
  refine law_arg (k := 1) (K := 592) hi hL (by decide) rfl dL_law_586 dL_law_587 dL_law_589 (by decide) dL_law_590 dL_law_591 rfl v0 v4 ?_
  refine law_arg (k := 2) (K := 598) hi hL (by decide) rfl dL_law_592 dL_law_593 dL_law_595 (by decide) dL_law_596 dL_law_597 rfl v0 v4 ?_
  refine bs_callV dL_law_598 qL_76 (p_rest GS.st (GS.i 0 13 rfl rfl rfl) _ _) rfl (GS.st.s 0 rfl rfl rfl) rfl (Nat.le_of_ble_eq_true rfl) ⟨⟨Nat.le_of_ble_eq_true rfl, Nat.le_of_ble_eq_true rfl⟩, by show nc + 0 ≤ 601024; omega, by show ns + 0 ≤ 7293034; omega⟩ (fun v5 nx5 sh5 mu5 hp5 => ?_)
  obtain ⟨rfl, rfl, rfl, rfl⟩ := hp5
  refine bs_aload_n dL_law_601 v2 ?_
  refine law_arg (k := 1) (K := 608) hi hL (by decide) rfl dL_law_602 dL_law_603 dL_law_605 (by decide) dL_law_606 dL_law_607 rfl v0 v4 ?_
  refine law_arg (k := 2) (K := 614) hi hL (by decide) rfl dL_law_608 dL_law_609 dL_law_611 (by decide) dL_law_612 dL_law_613 rfl v0 v4 ?_
  refine bs_callV dL_law_614 qL_79 (m_rest GM _ _) rfl (GM.st.s 0 rfl rfl rfl) rfl (Nat.le_of_ble_eq_true rfl) ⟨⟨Nat.le_of_ble_eq_true rfl, Nat.le_of_ble_eq_true rfl⟩, by show nc + 0 + 0 ≤ 601024; omega, by show ns + 0 + 0 ≤ 7293034; omega⟩ (fun v6 nx6 sh6 mu6 hp6 => ?_)
  obtain ⟨rfl, rfl, rfl, rfl⟩ := hp6
  refine bs_icmp_eq (tgt := 1654) dL_law_617 (by decide) (fun _ => ?_) (fun c => absurd rfl c)
  exact kend _ _ _ _ _ _ v0 v1 v2 v3 v4 (by show nc + 0 + 0 ≤ nc + 20; omega) (by show ns + 0 + 0 ≤ ns + 200; omega)
set_option maxHeartbeats 4000000 in
set_option maxRecDepth 100000 in
/-- hands -/
theorem law_c11 {nm : String} {b L i x nx nc ns : Nat} {xs : Nat → Int32} {lo : bs_L} {sh : bs_Sh} {mu : bs_Mm} (hi : i + 7 ≤ L) (hL : L ≤ 3584) (v0 : lo 0 = some (.ref b)) (v1 : lo 1 = some (.ref x)) (v2 : lo 2 = some (.ref (x + 159))) (v3 : lo 3 = some (.ref (x + 194))) (v4 : lo 4 = some (.int (nI i))) (hnc : nc + 20 ≤ 601024) (hns : ns + 200 ≤ 7293034) (GS : bs_Fr (bs_tS x) x sh mu) (GM : bs_Fr (bs_tM (x + 159)) (x + 159) sh mu) (kend : ∀ lo2 nc2 ns2 nx2 sh2 mu2, lo2 0 = some (.ref b) → lo2 1 = some (.ref x) → lo2 2 = some (.ref (x + 159)) → lo2 3 = some (.ref (x + 194)) → lo2 4 = some (.int (nI i)) → nc2 ≤ nc + 20 → ns2 ≤ ns + 200 → bs_V (bs_zl b L xs) (mL nm) room_1 1654 lo2 [] nc2 ns2 nx2 sh2 mu2) : bs_V (bs_zl b L xs) (mL nm) room_1 622 lo [] nc ns nx sh mu := by
  refine bs_aload_n dL_law_622 v1 ?_
  refine law_arg (k := 1) (K := 629) hi hL (by decide) rfl dL_law_623 dL_law_624 dL_law_626 (by decide) dL_law_627 dL_law_628 rfl v0 v4 ?_
  refine bs_callV dL_law_629 qL_80 (p_hands GS.st (GS.i 0 13 rfl rfl rfl) _) rfl (GS.st.s 0 rfl rfl rfl) rfl (Nat.le_of_ble_eq_true rfl) ⟨⟨Nat.le_of_ble_eq_true rfl, Nat.le_of_ble_eq_true rfl⟩, by show nc + 0 ≤ 601024; omega, by show ns + 0 ≤ 7293034; omega⟩ (fun v5 nx5 sh5 mu5 hp5 => ?_)
  obtain ⟨rfl, rfl, rfl, rfl⟩ := hp5
  refine bs_aload_n dL_law_632 v2 ?_
  refine law_arg (k := 1) (K := 639) hi hL (by decide) rfl dL_law_633 dL_law_634 dL_law_636 (by decide) dL_law_637 dL_law_638 rfl v0 v4 ?_
  refine bs_callV dL_law_639 qL_83 (m_hands GM _) rfl (GM.st.s 0 rfl rfl rfl) rfl (Nat.le_of_ble_eq_true rfl) ⟨⟨Nat.le_of_ble_eq_true rfl, Nat.le_of_ble_eq_true rfl⟩, by show nc + 0 + 0 ≤ 601024; omega, by show ns + 0 + 0 ≤ 7293034; omega⟩ (fun v6 nx6 sh6 mu6 hp6 => ?_)
  obtain ⟨rfl, rfl, rfl, rfl⟩ := hp6
  refine bs_icmp_eq (tgt := 1654) dL_law_642 (by decide) (fun _ => ?_) (fun c => absurd rfl c)
  exact kend _ _ _ _ _ _ v0 v1 v2 v3 v4 (by show nc + 0 + 0 ≤ nc + 20; omega) (by show ns + 0 + 0 ≤ ns + 200; omega)
set_option maxHeartbeats 4000000 in
set_option maxRecDepth 100000 in
/-- holds -/
theorem law_c12 {nm : String} {b L i x nx nc ns : Nat} {xs : Nat → Int32} {lo : bs_L} {sh : bs_Sh} {mu : bs_Mm} (hi : i + 7 ≤ L) (hL : L ≤ 3584) (v0 : lo 0 = some (.ref b)) (v1 : lo 1 = some (.ref x)) (v2 : lo 2 = some (.ref (x + 159))) (v3 : lo 3 = some (.ref (x + 194))) (v4 : lo 4 = some (.int (nI i))) (hnc : nc + 20 ≤ 601024) (hns : ns + 200 ≤ 7293034) (GS : bs_Fr (bs_tS x) x sh mu) (GM : bs_Fr (bs_tM (x + 159)) (x + 159) sh mu) (kend : ∀ lo2 nc2 ns2 nx2 sh2 mu2, lo2 0 = some (.ref b) → lo2 1 = some (.ref x) → lo2 2 = some (.ref (x + 159)) → lo2 3 = some (.ref (x + 194)) → lo2 4 = some (.int (nI i)) → nc2 ≤ nc + 20 → ns2 ≤ ns + 200 → bs_V (bs_zl b L xs) (mL nm) room_1 1654 lo2 [] nc2 ns2 nx2 sh2 mu2) : bs_V (bs_zl b L xs) (mL nm) room_1 647 lo [] nc ns nx sh mu := by
  refine bs_aload_n dL_law_647 v1 ?_
  refine law_arg (k := 1) (K := 654) hi hL (by decide) rfl dL_law_648 dL_law_649 dL_law_651 (by decide) dL_law_652 dL_law_653 rfl v0 v4 ?_
  refine law_arg (k := 2) (K := 660) hi hL (by decide) rfl dL_law_654 dL_law_655 dL_law_657 (by decide) dL_law_658 dL_law_659 rfl v0 v4 ?_
  refine bs_callV dL_law_660 qL_84 (p_holds GS.st (GS.i 0 13 rfl rfl rfl) _ _) rfl (GS.st.s 0 rfl rfl rfl) rfl (Nat.le_of_ble_eq_true rfl) ⟨⟨Nat.le_of_ble_eq_true rfl, Nat.le_of_ble_eq_true rfl⟩, by show nc + 0 ≤ 601024; omega, by show ns + 0 ≤ 7293034; omega⟩ (fun v5 nx5 sh5 mu5 hp5 => ?_)
  obtain ⟨rfl, rfl, rfl, rfl⟩ := hp5
  refine bs_aload_n dL_law_663 v2 ?_
  refine law_arg (k := 1) (K := 670) hi hL (by decide) rfl dL_law_664 dL_law_665 dL_law_667 (by decide) dL_law_668 dL_law_669 rfl v0 v4 ?_
  refine law_arg (k := 2) (K := 676) hi hL (by decide) rfl dL_law_670 dL_law_671 dL_law_673 (by decide) dL_law_674 dL_law_675 rfl v0 v4 ?_
  refine bs_callV dL_law_676 qL_87 (m_holds GM _ _) rfl (GM.st.s 0 rfl rfl rfl) rfl (Nat.le_of_ble_eq_true rfl) ⟨⟨Nat.le_of_ble_eq_true rfl, Nat.le_of_ble_eq_true rfl⟩, by show nc + 0 + 0 ≤ 601024; omega, by show ns + 0 + 0 ≤ 7293034; omega⟩ (fun v6 nx6 sh6 mu6 hp6 => ?_)
  obtain ⟨rfl, rfl, rfl, rfl⟩ := hp6
  refine bs_icmp_eq (tgt := 1654) dL_law_679 (by decide) (fun _ => ?_) (fun c => absurd rfl c)
  exact kend _ _ _ _ _ _ v0 v1 v2 v3 v4 (by show nc + 0 + 0 ≤ nc + 20; omega) (by show ns + 0 + 0 ≤ ns + 200; omega)
set_option maxHeartbeats 4000000 in
set_option maxRecDepth 100000 in
/-- plain -/
theorem law_c13 {nm : String} {b L i x nx nc ns : Nat} {xs : Nat → Int32} {lo : bs_L} {sh : bs_Sh} {mu : bs_Mm} (hi : i + 7 ≤ L) (hL : L ≤ 3584) (v0 : lo 0 = some (.ref b)) (v1 : lo 1 = some (.ref x)) (v2 : lo 2 = some (.ref (x + 159))) (v3 : lo 3 = some (.ref (x + 194))) (v4 : lo 4 = some (.int (nI i))) (hnc : nc + 20 ≤ 601024) (hns : ns + 200 ≤ 7293034) (GS : bs_Fr (bs_tS x) x sh mu) (GM : bs_Fr (bs_tM (x + 159)) (x + 159) sh mu) (kend : ∀ lo2 nc2 ns2 nx2 sh2 mu2, lo2 0 = some (.ref b) → lo2 1 = some (.ref x) → lo2 2 = some (.ref (x + 159)) → lo2 3 = some (.ref (x + 194)) → lo2 4 = some (.int (nI i)) → nc2 ≤ nc + 20 → ns2 ≤ ns + 200 → bs_V (bs_zl b L xs) (mL nm) room_1 1654 lo2 [] nc2 ns2 nx2 sh2 mu2) : bs_V (bs_zl b L xs) (mL nm) room_1 684 lo [] nc ns nx sh mu := by
  refine bs_aload_n dL_law_684 v1 ?_
  refine law_arg (k := 1) (K := 691) hi hL (by decide) rfl dL_law_685 dL_law_686 dL_law_688 (by decide) dL_law_689 dL_law_690 rfl v0 v4 ?_
  refine bs_callV dL_law_691 qL_88 (p_plain GS.st (GS.i 0 13 rfl rfl rfl) _) rfl (GS.st.s 0 rfl rfl rfl) rfl (Nat.le_of_ble_eq_true rfl) ⟨⟨Nat.le_of_ble_eq_true rfl, Nat.le_of_ble_eq_true rfl⟩, by show nc + 0 ≤ 601024; omega, by show ns + 0 ≤ 7293034; omega⟩ (fun v5 nx5 sh5 mu5 hp5 => ?_)
  obtain ⟨rfl, rfl, rfl, rfl⟩ := hp5
  refine bs_aload_n dL_law_694 v2 ?_
  refine law_arg (k := 1) (K := 701) hi hL (by decide) rfl dL_law_695 dL_law_696 dL_law_698 (by decide) dL_law_699 dL_law_700 rfl v0 v4 ?_
  refine bs_callV dL_law_701 qL_91 (m_plain GM _) rfl (GM.st.s 0 rfl rfl rfl) rfl (Nat.le_of_ble_eq_true rfl) ⟨⟨Nat.le_of_ble_eq_true rfl, Nat.le_of_ble_eq_true rfl⟩, by show nc + 0 + 0 ≤ 601024; omega, by show ns + 0 + 0 ≤ 7293034; omega⟩ (fun v6 nx6 sh6 mu6 hp6 => ?_)
  obtain ⟨rfl, rfl, rfl, rfl⟩ := hp6
  refine bs_icmp_eq (tgt := 1654) dL_law_704 (by decide) (fun _ => ?_) (fun c => absurd rfl c)
  exact kend _ _ _ _ _ _ v0 v1 v2 v3 v4 (by show nc + 0 + 0 ≤ nc + 20; omega) (by show ns + 0 + 0 ≤ ns + 200; omega)
set_option maxHeartbeats 4000000 in
set_option maxRecDepth 100000 in
/-- pop -/
theorem law_c14 {nm : String} {b L i x nx nc ns : Nat} {xs : Nat → Int32} {lo : bs_L} {sh : bs_Sh} {mu : bs_Mm} (hi : i + 7 ≤ L) (hL : L ≤ 3584) (v0 : lo 0 = some (.ref b)) (v1 : lo 1 = some (.ref x)) (v2 : lo 2 = some (.ref (x + 159))) (v3 : lo 3 = some (.ref (x + 194))) (v4 : lo 4 = some (.int (nI i))) (hnc : nc + 20 ≤ 601024) (hns : ns + 200 ≤ 7293034) (GS : bs_Fr (bs_tS x) x sh mu) (GM : bs_Fr (bs_tM (x + 159)) (x + 159) sh mu) (kend : ∀ lo2 nc2 ns2 nx2 sh2 mu2, lo2 0 = some (.ref b) → lo2 1 = some (.ref x) → lo2 2 = some (.ref (x + 159)) → lo2 3 = some (.ref (x + 194)) → lo2 4 = some (.int (nI i)) → nc2 ≤ nc + 20 → ns2 ≤ ns + 200 → bs_V (bs_zl b L xs) (mL nm) room_1 1654 lo2 [] nc2 ns2 nx2 sh2 mu2) : bs_V (bs_zl b L xs) (mL nm) room_1 709 lo [] nc ns nx sh mu := by
  refine bs_aload_n dL_law_709 v1 ?_
  refine law_arg (k := 1) (K := 716) hi hL (by decide) rfl dL_law_710 dL_law_711 dL_law_713 (by decide) dL_law_714 dL_law_715 rfl v0 v4 ?_
  refine law_arg (k := 2) (K := 722) hi hL (by decide) rfl dL_law_716 dL_law_717 dL_law_719 (by decide) dL_law_720 dL_law_721 rfl v0 v4 ?_
  refine law_arg (k := 3) (K := 728) hi hL (by decide) rfl dL_law_722 dL_law_723 dL_law_725 (by decide) dL_law_726 dL_law_727 rfl v0 v4 ?_
  refine bs_callV dL_law_728 qL_92 (p_pop GS.st (GS.i 0 13 rfl rfl rfl) _ _ _) rfl (GS.st.s 0 rfl rfl rfl) rfl (Nat.le_of_ble_eq_true rfl) ⟨⟨Nat.le_of_ble_eq_true rfl, Nat.le_of_ble_eq_true rfl⟩, by show nc + 0 ≤ 601024; omega, by show ns + 0 ≤ 7293034; omega⟩ (fun v5 nx5 sh5 mu5 hp5 => ?_)
  obtain ⟨rfl, rfl, rfl, rfl⟩ := hp5
  refine bs_aload_n dL_law_731 v2 ?_
  refine law_arg (k := 1) (K := 738) hi hL (by decide) rfl dL_law_732 dL_law_733 dL_law_735 (by decide) dL_law_736 dL_law_737 rfl v0 v4 ?_
  refine law_arg (k := 2) (K := 744) hi hL (by decide) rfl dL_law_738 dL_law_739 dL_law_741 (by decide) dL_law_742 dL_law_743 rfl v0 v4 ?_
  refine law_arg (k := 3) (K := 750) hi hL (by decide) rfl dL_law_744 dL_law_745 dL_law_747 (by decide) dL_law_748 dL_law_749 rfl v0 v4 ?_
  refine bs_callV dL_law_750 qL_95 (m_pop GM _ _ _) rfl (GM.st.s 0 rfl rfl rfl) rfl (Nat.le_of_ble_eq_true rfl) ⟨⟨Nat.le_of_ble_eq_true rfl, Nat.le_of_ble_eq_true rfl⟩, by show nc + 0 + 0 ≤ 601024; omega, by show ns + 0 + 0 ≤ 7293034; omega⟩ (fun v6 nx6 sh6 mu6 hp6 => ?_)
  obtain ⟨rfl, rfl, rfl, rfl⟩ := hp6
  refine bs_icmp_eq (tgt := 1654) dL_law_753 (by decide) (fun _ => ?_) (fun c => absurd rfl c)
  exact kend _ _ _ _ _ _ v0 v1 v2 v3 v4 (by show nc + 0 + 0 ≤ nc + 20; omega) (by show ns + 0 + 0 ≤ ns + 200; omega)
set_option maxHeartbeats 4000000 in
set_option maxRecDepth 100000 in
/-- weakest -/
theorem law_c15 {nm : String} {b L i x nx nc ns : Nat} {xs : Nat → Int32} {lo : bs_L} {sh : bs_Sh} {mu : bs_Mm} (hi : i + 7 ≤ L) (hL : L ≤ 3584) (v0 : lo 0 = some (.ref b)) (v1 : lo 1 = some (.ref x)) (v2 : lo 2 = some (.ref (x + 159))) (v3 : lo 3 = some (.ref (x + 194))) (v4 : lo 4 = some (.int (nI i))) (hnc : nc + 20 ≤ 601024) (hns : ns + 200 ≤ 7293034) (GS : bs_Fr (bs_tS x) x sh mu) (GM : bs_Fr (bs_tM (x + 159)) (x + 159) sh mu) (kend : ∀ lo2 nc2 ns2 nx2 sh2 mu2, lo2 0 = some (.ref b) → lo2 1 = some (.ref x) → lo2 2 = some (.ref (x + 159)) → lo2 3 = some (.ref (x + 194)) → lo2 4 = some (.int (nI i)) → nc2 ≤ nc + 20 → ns2 ≤ ns + 200 → bs_V (bs_zl b L xs) (mL nm) room_1 1654 lo2 [] nc2 ns2 nx2 sh2 mu2) : bs_V (bs_zl b L xs) (mL nm) room_1 758 lo [] nc ns nx sh mu := by
  refine bs_aload_n dL_law_758 v1 ?_
  refine law_arg (k := 1) (K := 765) hi hL (by decide) rfl dL_law_759 dL_law_760 dL_law_762 (by decide) dL_law_763 dL_law_764 rfl v0 v4 ?_
  refine bs_callV dL_law_765 qL_96 (p_weakest GS.st (GS.i 0 13 rfl rfl rfl) _) rfl (GS.st.s 0 rfl rfl rfl) rfl (Nat.le_of_ble_eq_true rfl) ⟨⟨Nat.le_of_ble_eq_true rfl, Nat.le_of_ble_eq_true rfl⟩, by show nc + 0 ≤ 601024; omega, by show ns + 0 ≤ 7293034; omega⟩ (fun v5 nx5 sh5 mu5 hp5 => ?_)
  obtain ⟨rfl, rfl, rfl, rfl⟩ := hp5
  refine bs_aload_n dL_law_768 v2 ?_
  refine law_arg (k := 1) (K := 775) hi hL (by decide) rfl dL_law_769 dL_law_770 dL_law_772 (by decide) dL_law_773 dL_law_774 rfl v0 v4 ?_
  refine bs_callV dL_law_775 qL_99 (m_weakest GM _) rfl (GM.st.s 0 rfl rfl rfl) rfl (Nat.le_of_ble_eq_true rfl) ⟨⟨Nat.le_of_ble_eq_true rfl, Nat.le_of_ble_eq_true rfl⟩, by show nc + 0 + 0 ≤ 601024; omega, by show ns + 0 + 0 ≤ 7293034; omega⟩ (fun v6 nx6 sh6 mu6 hp6 => ?_)
  obtain ⟨rfl, rfl, rfl, rfl⟩ := hp6
  refine bs_icmp_eq (tgt := 1654) dL_law_778 (by decide) (fun _ => ?_) (fun c => absurd rfl c)
  exact kend _ _ _ _ _ _ v0 v1 v2 v3 v4 (by show nc + 0 + 0 ≤ nc + 20; omega) (by show ns + 0 + 0 ≤ ns + 200; omega)
set_option maxHeartbeats 4000000 in
set_option maxRecDepth 100000 in
/-- add -/
theorem law_c16 {nm : String} {b L i x nx nc ns : Nat} {xs : Nat → Int32} {lo : bs_L} {sh : bs_Sh} {mu : bs_Mm} (hi : i + 7 ≤ L) (hL : L ≤ 3584) (v0 : lo 0 = some (.ref b)) (v1 : lo 1 = some (.ref x)) (v2 : lo 2 = some (.ref (x + 159))) (v3 : lo 3 = some (.ref (x + 194))) (v4 : lo 4 = some (.int (nI i))) (hnc : nc + 20 ≤ 601024) (hns : ns + 200 ≤ 7293034) (GS : bs_Fr (bs_tS x) x sh mu) (GM : bs_Fr (bs_tM (x + 159)) (x + 159) sh mu) (kend : ∀ lo2 nc2 ns2 nx2 sh2 mu2, lo2 0 = some (.ref b) → lo2 1 = some (.ref x) → lo2 2 = some (.ref (x + 159)) → lo2 3 = some (.ref (x + 194)) → lo2 4 = some (.int (nI i)) → nc2 ≤ nc + 20 → ns2 ≤ ns + 200 → bs_V (bs_zl b L xs) (mL nm) room_1 1654 lo2 [] nc2 ns2 nx2 sh2 mu2) : bs_V (bs_zl b L xs) (mL nm) room_1 783 lo [] nc ns nx sh mu := by
  refine bs_aload_n dL_law_783 v1 ?_
  refine law_arg (k := 1) (K := 790) hi hL (by decide) rfl dL_law_784 dL_law_785 dL_law_787 (by decide) dL_law_788 dL_law_789 rfl v0 v4 ?_
  refine law_arg (k := 2) (K := 796) hi hL (by decide) rfl dL_law_790 dL_law_791 dL_law_793 (by decide) dL_law_794 dL_law_795 rfl v0 v4 ?_
  refine law_arg (k := 3) (K := 802) hi hL (by decide) rfl dL_law_796 dL_law_797 dL_law_799 (by decide) dL_law_800 dL_law_801 rfl v0 v4 ?_
  refine law_arg (k := 4) (K := 808) hi hL (by decide) rfl dL_law_802 dL_law_803 dL_law_805 (by decide) dL_law_806 dL_law_807 rfl v0 v4 ?_
  refine bs_callV dL_law_808 qL_100 (p_add GS.st (GS.i 0 13 rfl rfl rfl) _ _ _ _) rfl (GS.st.s 0 rfl rfl rfl) rfl (Nat.le_of_ble_eq_true rfl) ⟨⟨Nat.le_of_ble_eq_true rfl, Nat.le_of_ble_eq_true rfl⟩, by show nc + 0 ≤ 601024; omega, by show ns + 0 ≤ 7293034; omega⟩ (fun v5 nx5 sh5 mu5 hp5 => ?_)
  obtain ⟨rfl, rfl, rfl, rfl⟩ := hp5
  refine bs_aload_n dL_law_811 v2 ?_
  refine law_arg (k := 1) (K := 818) hi hL (by decide) rfl dL_law_812 dL_law_813 dL_law_815 (by decide) dL_law_816 dL_law_817 rfl v0 v4 ?_
  refine law_arg (k := 2) (K := 824) hi hL (by decide) rfl dL_law_818 dL_law_819 dL_law_821 (by decide) dL_law_822 dL_law_823 rfl v0 v4 ?_
  refine law_arg (k := 3) (K := 830) hi hL (by decide) rfl dL_law_824 dL_law_825 dL_law_827 (by decide) dL_law_828 dL_law_829 rfl v0 v4 ?_
  refine law_arg (k := 4) (K := 836) hi hL (by decide) rfl dL_law_830 dL_law_831 dL_law_833 (by decide) dL_law_834 dL_law_835 rfl v0 v4 ?_
  refine bs_callV dL_law_836 qL_104 (m_add GM _ _ _ _) rfl (GM.st.s 0 rfl rfl rfl) rfl (Nat.le_of_ble_eq_true rfl) ⟨⟨Nat.le_of_ble_eq_true rfl, Nat.le_of_ble_eq_true rfl⟩, by show nc + 0 + 0 ≤ 601024; omega, by show ns + 0 + 0 ≤ 7293034; omega⟩ (fun v6 nx6 sh6 mu6 hp6 => ?_)
  obtain ⟨rfl, rfl, rfl, rfl⟩ := hp6
  refine bs_icmp_eq (tgt := 1654) dL_law_839 (by decide) (fun _ => ?_) (fun c => absurd rfl c)
  exact kend _ _ _ _ _ _ v0 v1 v2 v3 v4 (by show nc + 0 + 0 ≤ nc + 20; omega) (by show ns + 0 + 0 ≤ ns + 200; omega)
set_option maxHeartbeats 4000000 in
set_option maxRecDepth 100000 in
/-- alike -/
theorem law_c17 {nm : String} {b L i x nx nc ns : Nat} {xs : Nat → Int32} {lo : bs_L} {sh : bs_Sh} {mu : bs_Mm} (hi : i + 7 ≤ L) (hL : L ≤ 3584) (v0 : lo 0 = some (.ref b)) (v1 : lo 1 = some (.ref x)) (v2 : lo 2 = some (.ref (x + 159))) (v3 : lo 3 = some (.ref (x + 194))) (v4 : lo 4 = some (.int (nI i))) (hnc : nc + 20 ≤ 601024) (hns : ns + 200 ≤ 7293034) (GS : bs_Fr (bs_tS x) x sh mu) (GM : bs_Fr (bs_tM (x + 159)) (x + 159) sh mu) (kend : ∀ lo2 nc2 ns2 nx2 sh2 mu2, lo2 0 = some (.ref b) → lo2 1 = some (.ref x) → lo2 2 = some (.ref (x + 159)) → lo2 3 = some (.ref (x + 194)) → lo2 4 = some (.int (nI i)) → nc2 ≤ nc + 20 → ns2 ≤ ns + 200 → bs_V (bs_zl b L xs) (mL nm) room_1 1654 lo2 [] nc2 ns2 nx2 sh2 mu2) : bs_V (bs_zl b L xs) (mL nm) room_1 844 lo [] nc ns nx sh mu := by
  refine bs_aload_n dL_law_844 v1 ?_
  refine law_arg (k := 1) (K := 851) hi hL (by decide) rfl dL_law_845 dL_law_846 dL_law_848 (by decide) dL_law_849 dL_law_850 rfl v0 v4 ?_
  refine law_arg (k := 2) (K := 857) hi hL (by decide) rfl dL_law_851 dL_law_852 dL_law_854 (by decide) dL_law_855 dL_law_856 rfl v0 v4 ?_
  refine bs_callV dL_law_857 qL_105 (p_alike GS.st (GS.i 0 13 rfl rfl rfl) _ _) rfl (GS.st.s 0 rfl rfl rfl) rfl (Nat.le_of_ble_eq_true rfl) ⟨⟨Nat.le_of_ble_eq_true rfl, Nat.le_of_ble_eq_true rfl⟩, by show nc + 0 ≤ 601024; omega, by show ns + 0 ≤ 7293034; omega⟩ (fun v5 nx5 sh5 mu5 hp5 => ?_)
  obtain ⟨rfl, rfl, rfl, rfl⟩ := hp5
  refine bs_aload_n dL_law_860 v2 ?_
  refine law_arg (k := 1) (K := 867) hi hL (by decide) rfl dL_law_861 dL_law_862 dL_law_864 (by decide) dL_law_865 dL_law_866 rfl v0 v4 ?_
  refine law_arg (k := 2) (K := 873) hi hL (by decide) rfl dL_law_867 dL_law_868 dL_law_870 (by decide) dL_law_871 dL_law_872 rfl v0 v4 ?_
  refine bs_callV dL_law_873 qL_108 (m_alike GM _ _) rfl (GM.st.s 0 rfl rfl rfl) rfl (Nat.le_of_ble_eq_true rfl) ⟨⟨Nat.le_of_ble_eq_true rfl, Nat.le_of_ble_eq_true rfl⟩, by show nc + 0 + 0 ≤ 601024; omega, by show ns + 0 + 0 ≤ 7293034; omega⟩ (fun v6 nx6 sh6 mu6 hp6 => ?_)
  obtain ⟨rfl, rfl, rfl, rfl⟩ := hp6
  refine bs_icmp_eq (tgt := 1654) dL_law_876 (by decide) (fun _ => ?_) (fun c => absurd rfl c)
  exact kend _ _ _ _ _ _ v0 v1 v2 v3 v4 (by show nc + 0 + 0 ≤ nc + 20; omega) (by show ns + 0 + 0 ≤ ns + 200; omega)
set_option maxHeartbeats 4000000 in
set_option maxRecDepth 100000 in
/-- match -/
theorem law_c18 {nm : String} {b L i x nx nc ns : Nat} {xs : Nat → Int32} {lo : bs_L} {sh : bs_Sh} {mu : bs_Mm} (hi : i + 7 ≤ L) (hL : L ≤ 3584) (v0 : lo 0 = some (.ref b)) (v1 : lo 1 = some (.ref x)) (v2 : lo 2 = some (.ref (x + 159))) (v3 : lo 3 = some (.ref (x + 194))) (v4 : lo 4 = some (.int (nI i))) (hnc : nc + 20 ≤ 601024) (hns : ns + 200 ≤ 7293034) (GS : bs_Fr (bs_tS x) x sh mu) (GM : bs_Fr (bs_tM (x + 159)) (x + 159) sh mu) (kend : ∀ lo2 nc2 ns2 nx2 sh2 mu2, lo2 0 = some (.ref b) → lo2 1 = some (.ref x) → lo2 2 = some (.ref (x + 159)) → lo2 3 = some (.ref (x + 194)) → lo2 4 = some (.int (nI i)) → nc2 ≤ nc + 20 → ns2 ≤ ns + 200 → bs_V (bs_zl b L xs) (mL nm) room_1 1654 lo2 [] nc2 ns2 nx2 sh2 mu2) : bs_V (bs_zl b L xs) (mL nm) room_1 881 lo [] nc ns nx sh mu := by
  refine bs_aload_n dL_law_881 v1 ?_
  refine law_arg (k := 1) (K := 888) hi hL (by decide) rfl dL_law_882 dL_law_883 dL_law_885 (by decide) dL_law_886 dL_law_887 rfl v0 v4 ?_
  refine law_arg (k := 2) (K := 894) hi hL (by decide) rfl dL_law_888 dL_law_889 dL_law_891 (by decide) dL_law_892 dL_law_893 rfl v0 v4 ?_
  refine law_arg (k := 3) (K := 900) hi hL (by decide) rfl dL_law_894 dL_law_895 dL_law_897 (by decide) dL_law_898 dL_law_899 rfl v0 v4 ?_
  refine bs_callV dL_law_900 qL_109 (p_match GS.st (GS.i 0 13 rfl rfl rfl) _ _ _) rfl (GS.st.s 0 rfl rfl rfl) rfl (Nat.le_of_ble_eq_true rfl) ⟨⟨Nat.le_of_ble_eq_true rfl, Nat.le_of_ble_eq_true rfl⟩, by show nc + 0 ≤ 601024; omega, by show ns + 0 ≤ 7293034; omega⟩ (fun v5 nx5 sh5 mu5 hp5 => ?_)
  obtain ⟨rfl, rfl, rfl, rfl⟩ := hp5
  refine bs_aload_n dL_law_903 v2 ?_
  refine law_arg (k := 1) (K := 910) hi hL (by decide) rfl dL_law_904 dL_law_905 dL_law_907 (by decide) dL_law_908 dL_law_909 rfl v0 v4 ?_
  refine law_arg (k := 2) (K := 916) hi hL (by decide) rfl dL_law_910 dL_law_911 dL_law_913 (by decide) dL_law_914 dL_law_915 rfl v0 v4 ?_
  refine law_arg (k := 3) (K := 922) hi hL (by decide) rfl dL_law_916 dL_law_917 dL_law_919 (by decide) dL_law_920 dL_law_921 rfl v0 v4 ?_
  refine bs_callV dL_law_922 qL_112 (m_match GM _ _ _) rfl (GM.st.s 0 rfl rfl rfl) rfl (Nat.le_of_ble_eq_true rfl) ⟨⟨Nat.le_of_ble_eq_true rfl, Nat.le_of_ble_eq_true rfl⟩, by show nc + 0 + 0 ≤ 601024; omega, by show ns + 0 + 0 ≤ 7293034; omega⟩ (fun v6 nx6 sh6 mu6 hp6 => ?_)
  obtain ⟨rfl, rfl, rfl, rfl⟩ := hp6
  refine bs_icmp_eq (tgt := 1654) dL_law_925 (by decide) (fun _ => ?_) (fun c => absurd rfl c)
  exact kend _ _ _ _ _ _ v0 v1 v2 v3 v4 (by show nc + 0 + 0 ≤ nc + 20; omega) (by show ns + 0 + 0 ≤ ns + 200; omega)
set_option maxHeartbeats 4000000 in
set_option maxRecDepth 100000 in
/-- far -/
theorem law_c19 {nm : String} {b L i x nx nc ns : Nat} {xs : Nat → Int32} {lo : bs_L} {sh : bs_Sh} {mu : bs_Mm} (hi : i + 7 ≤ L) (hL : L ≤ 3584) (v0 : lo 0 = some (.ref b)) (v1 : lo 1 = some (.ref x)) (v2 : lo 2 = some (.ref (x + 159))) (v3 : lo 3 = some (.ref (x + 194))) (v4 : lo 4 = some (.int (nI i))) (hnc : nc + 20 ≤ 601024) (hns : ns + 200 ≤ 7293034) (GS : bs_Fr (bs_tS x) x sh mu) (GM : bs_Fr (bs_tM (x + 159)) (x + 159) sh mu) (kend : ∀ lo2 nc2 ns2 nx2 sh2 mu2, lo2 0 = some (.ref b) → lo2 1 = some (.ref x) → lo2 2 = some (.ref (x + 159)) → lo2 3 = some (.ref (x + 194)) → lo2 4 = some (.int (nI i)) → nc2 ≤ nc + 20 → ns2 ≤ ns + 200 → bs_V (bs_zl b L xs) (mL nm) room_1 1654 lo2 [] nc2 ns2 nx2 sh2 mu2) : bs_V (bs_zl b L xs) (mL nm) room_1 930 lo [] nc ns nx sh mu := by
  refine bs_aload_n dL_law_930 v1 ?_
  refine law_arg (k := 1) (K := 937) hi hL (by decide) rfl dL_law_931 dL_law_932 dL_law_934 (by decide) dL_law_935 dL_law_936 rfl v0 v4 ?_
  refine law_arg (k := 2) (K := 943) hi hL (by decide) rfl dL_law_937 dL_law_938 dL_law_940 (by decide) dL_law_941 dL_law_942 rfl v0 v4 ?_
  refine law_arg (k := 3) (K := 949) hi hL (by decide) rfl dL_law_943 dL_law_944 dL_law_946 (by decide) dL_law_947 dL_law_948 rfl v0 v4 ?_
  refine bs_callV dL_law_949 qL_113 (p_far GS.st (GS.i 0 13 rfl rfl rfl) _ _ _) rfl (GS.st.s 0 rfl rfl rfl) rfl (Nat.le_of_ble_eq_true rfl) ⟨⟨Nat.le_of_ble_eq_true rfl, Nat.le_of_ble_eq_true rfl⟩, by show nc + 0 ≤ 601024; omega, by show ns + 0 ≤ 7293034; omega⟩ (fun v5 nx5 sh5 mu5 hp5 => ?_)
  obtain ⟨rfl, rfl, rfl, rfl⟩ := hp5
  refine bs_aload_n dL_law_952 v2 ?_
  refine law_arg (k := 1) (K := 959) hi hL (by decide) rfl dL_law_953 dL_law_954 dL_law_956 (by decide) dL_law_957 dL_law_958 rfl v0 v4 ?_
  refine law_arg (k := 2) (K := 965) hi hL (by decide) rfl dL_law_959 dL_law_960 dL_law_962 (by decide) dL_law_963 dL_law_964 rfl v0 v4 ?_
  refine law_arg (k := 3) (K := 971) hi hL (by decide) rfl dL_law_965 dL_law_966 dL_law_968 (by decide) dL_law_969 dL_law_970 rfl v0 v4 ?_
  refine bs_callV dL_law_971 qL_116 (m_far GM _ _ _) rfl (GM.st.s 0 rfl rfl rfl) rfl (Nat.le_of_ble_eq_true rfl) ⟨⟨Nat.le_of_ble_eq_true rfl, Nat.le_of_ble_eq_true rfl⟩, by show nc + 0 + 0 ≤ 601024; omega, by show ns + 0 + 0 ≤ 7293034; omega⟩ (fun v6 nx6 sh6 mu6 hp6 => ?_)
  obtain ⟨rfl, rfl, rfl, rfl⟩ := hp6
  refine bs_icmp_eq (tgt := 1654) dL_law_974 (by decide) (fun _ => ?_) (fun c => absurd rfl c)
  exact kend _ _ _ _ _ _ v0 v1 v2 v3 v4 (by show nc + 0 + 0 ≤ nc + 20; omega) (by show ns + 0 + 0 ≤ ns + 200; omega)
set_option maxHeartbeats 4000000 in
set_option maxRecDepth 100000 in
/-- span -/
theorem law_c20 {nm : String} {b L i x nx nc ns : Nat} {xs : Nat → Int32} {lo : bs_L} {sh : bs_Sh} {mu : bs_Mm} (hi : i + 7 ≤ L) (hL : L ≤ 3584) (v0 : lo 0 = some (.ref b)) (v1 : lo 1 = some (.ref x)) (v2 : lo 2 = some (.ref (x + 159))) (v3 : lo 3 = some (.ref (x + 194))) (v4 : lo 4 = some (.int (nI i))) (hnc : nc + 20 ≤ 601024) (hns : ns + 200 ≤ 7293034) (GS : bs_Fr (bs_tS x) x sh mu) (GM : bs_Fr (bs_tM (x + 159)) (x + 159) sh mu) (kend : ∀ lo2 nc2 ns2 nx2 sh2 mu2, lo2 0 = some (.ref b) → lo2 1 = some (.ref x) → lo2 2 = some (.ref (x + 159)) → lo2 3 = some (.ref (x + 194)) → lo2 4 = some (.int (nI i)) → nc2 ≤ nc + 20 → ns2 ≤ ns + 200 → bs_V (bs_zl b L xs) (mL nm) room_1 1654 lo2 [] nc2 ns2 nx2 sh2 mu2) : bs_V (bs_zl b L xs) (mL nm) room_1 979 lo [] nc ns nx sh mu := by
  refine bs_aload_n dL_law_979 v1 ?_
  refine law_arg (k := 1) (K := 986) hi hL (by decide) rfl dL_law_980 dL_law_981 dL_law_983 (by decide) dL_law_984 dL_law_985 rfl v0 v4 ?_
  refine bs_callV dL_law_986 qL_117 (p_span GS.st (GS.i 0 13 rfl rfl rfl) _) rfl (GS.st.s 0 rfl rfl rfl) rfl (Nat.le_of_ble_eq_true rfl) ⟨⟨Nat.le_of_ble_eq_true rfl, Nat.le_of_ble_eq_true rfl⟩, by show nc + 0 ≤ 601024; omega, by show ns + 0 ≤ 7293034; omega⟩ (fun v5 nx5 sh5 mu5 hp5 => ?_)
  obtain ⟨rfl, rfl, rfl, rfl⟩ := hp5
  refine bs_aload_n dL_law_989 v2 ?_
  refine law_arg (k := 1) (K := 996) hi hL (by decide) rfl dL_law_990 dL_law_991 dL_law_993 (by decide) dL_law_994 dL_law_995 rfl v0 v4 ?_
  refine bs_callV dL_law_996 qL_120 (m_span GM _) rfl (GM.st.s 0 rfl rfl rfl) rfl (Nat.le_of_ble_eq_true rfl) ⟨⟨Nat.le_of_ble_eq_true rfl, Nat.le_of_ble_eq_true rfl⟩, by show nc + 0 + 0 ≤ 601024; omega, by show ns + 0 + 0 ≤ 7293034; omega⟩ (fun v6 nx6 sh6 mu6 hp6 => ?_)
  obtain ⟨rfl, rfl, rfl, rfl⟩ := hp6
  refine bs_icmp_eq (tgt := 1654) dL_law_999 (by decide) (fun _ => ?_) (fun c => absurd rfl c)
  exact kend _ _ _ _ _ _ v0 v1 v2 v3 v4 (by show nc + 0 + 0 ≤ nc + 20; omega) (by show ns + 0 + 0 ≤ ns + 200; omega)
set_option maxHeartbeats 4000000 in
set_option maxRecDepth 100000 in
/-- strokes -/
theorem law_c21 {nm : String} {b L i x nx nc ns : Nat} {xs : Nat → Int32} {lo : bs_L} {sh : bs_Sh} {mu : bs_Mm} (hi : i + 7 ≤ L) (hL : L ≤ 3584) (v0 : lo 0 = some (.ref b)) (v1 : lo 1 = some (.ref x)) (v2 : lo 2 = some (.ref (x + 159))) (v3 : lo 3 = some (.ref (x + 194))) (v4 : lo 4 = some (.int (nI i))) (hnc : nc + 20 ≤ 601024) (hns : ns + 200 ≤ 7293034) (GS : bs_Fr (bs_tS x) x sh mu) (GM : bs_Fr (bs_tM (x + 159)) (x + 159) sh mu) (kend : ∀ lo2 nc2 ns2 nx2 sh2 mu2, lo2 0 = some (.ref b) → lo2 1 = some (.ref x) → lo2 2 = some (.ref (x + 159)) → lo2 3 = some (.ref (x + 194)) → lo2 4 = some (.int (nI i)) → nc2 ≤ nc + 20 → ns2 ≤ ns + 200 → bs_V (bs_zl b L xs) (mL nm) room_1 1654 lo2 [] nc2 ns2 nx2 sh2 mu2) : bs_V (bs_zl b L xs) (mL nm) room_1 1004 lo [] nc ns nx sh mu := by
  refine bs_aload_n dL_law_1004 v1 ?_
  refine law_arg (k := 1) (K := 1011) hi hL (by decide) rfl dL_law_1005 dL_law_1006 dL_law_1008 (by decide) dL_law_1009 dL_law_1010 rfl v0 v4 ?_
  refine bs_callV dL_law_1011 qL_121 (p_strokes GS.st (GS.i 0 13 rfl rfl rfl) _) rfl (GS.st.s 0 rfl rfl rfl) rfl (Nat.le_of_ble_eq_true rfl) ⟨⟨Nat.le_of_ble_eq_true rfl, Nat.le_of_ble_eq_true rfl⟩, by show nc + 0 ≤ 601024; omega, by show ns + 0 ≤ 7293034; omega⟩ (fun v5 nx5 sh5 mu5 hp5 => ?_)
  obtain ⟨rfl, rfl, rfl, rfl⟩ := hp5
  refine bs_aload_n dL_law_1014 v2 ?_
  refine law_arg (k := 1) (K := 1021) hi hL (by decide) rfl dL_law_1015 dL_law_1016 dL_law_1018 (by decide) dL_law_1019 dL_law_1020 rfl v0 v4 ?_
  refine bs_callV dL_law_1021 qL_124 (m_strokes GM _) rfl (GM.st.s 0 rfl rfl rfl) rfl (Nat.le_of_ble_eq_true rfl) ⟨⟨Nat.le_of_ble_eq_true rfl, Nat.le_of_ble_eq_true rfl⟩, by show nc + 0 + 0 ≤ 601024; omega, by show ns + 0 + 0 ≤ 7293034; omega⟩ (fun v6 nx6 sh6 mu6 hp6 => ?_)
  obtain ⟨rfl, rfl, rfl, rfl⟩ := hp6
  refine bs_icmp_eq (tgt := 1654) dL_law_1024 (by decide) (fun _ => ?_) (fun c => absurd rfl c)
  exact kend _ _ _ _ _ _ v0 v1 v2 v3 v4 (by show nc + 0 + 0 ≤ nc + 20; omega) (by show ns + 0 + 0 ≤ ns + 200; omega)
set_option maxHeartbeats 4000000 in
set_option maxRecDepth 100000 in
/-- made -/
theorem law_c22 {nm : String} {b L i x nx nc ns : Nat} {xs : Nat → Int32} {lo : bs_L} {sh : bs_Sh} {mu : bs_Mm} (hi : i + 7 ≤ L) (hL : L ≤ 3584) (v0 : lo 0 = some (.ref b)) (v1 : lo 1 = some (.ref x)) (v2 : lo 2 = some (.ref (x + 159))) (v3 : lo 3 = some (.ref (x + 194))) (v4 : lo 4 = some (.int (nI i))) (hnc : nc + 20 ≤ 601024) (hns : ns + 200 ≤ 7293034) (GS : bs_Fr (bs_tS x) x sh mu) (GM : bs_Fr (bs_tM (x + 159)) (x + 159) sh mu) (kend : ∀ lo2 nc2 ns2 nx2 sh2 mu2, lo2 0 = some (.ref b) → lo2 1 = some (.ref x) → lo2 2 = some (.ref (x + 159)) → lo2 3 = some (.ref (x + 194)) → lo2 4 = some (.int (nI i)) → nc2 ≤ nc + 20 → ns2 ≤ ns + 200 → bs_V (bs_zl b L xs) (mL nm) room_1 1654 lo2 [] nc2 ns2 nx2 sh2 mu2) : bs_V (bs_zl b L xs) (mL nm) room_1 1029 lo [] nc ns nx sh mu := by
  refine bs_aload_n dL_law_1029 v1 ?_
  refine law_arg (k := 1) (K := 1036) hi hL (by decide) rfl dL_law_1030 dL_law_1031 dL_law_1033 (by decide) dL_law_1034 dL_law_1035 rfl v0 v4 ?_
  refine law_arg (k := 2) (K := 1042) hi hL (by decide) rfl dL_law_1036 dL_law_1037 dL_law_1039 (by decide) dL_law_1040 dL_law_1041 rfl v0 v4 ?_
  refine bs_callV dL_law_1042 qL_125 (p_made GS.st (GS.i 0 13 rfl rfl rfl) _ _) rfl (GS.st.s 0 rfl rfl rfl) rfl (Nat.le_of_ble_eq_true rfl) ⟨⟨Nat.le_of_ble_eq_true rfl, Nat.le_of_ble_eq_true rfl⟩, by show nc + 0 ≤ 601024; omega, by show ns + 0 ≤ 7293034; omega⟩ (fun v5 nx5 sh5 mu5 hp5 => ?_)
  obtain ⟨rfl, rfl, rfl, rfl⟩ := hp5
  refine bs_aload_n dL_law_1045 v2 ?_
  refine law_arg (k := 1) (K := 1052) hi hL (by decide) rfl dL_law_1046 dL_law_1047 dL_law_1049 (by decide) dL_law_1050 dL_law_1051 rfl v0 v4 ?_
  refine law_arg (k := 2) (K := 1058) hi hL (by decide) rfl dL_law_1052 dL_law_1053 dL_law_1055 (by decide) dL_law_1056 dL_law_1057 rfl v0 v4 ?_
  refine bs_callV dL_law_1058 qL_128 (m_made GM _ _) rfl (GM.st.s 0 rfl rfl rfl) rfl (Nat.le_of_ble_eq_true rfl) ⟨⟨Nat.le_of_ble_eq_true rfl, Nat.le_of_ble_eq_true rfl⟩, by show nc + 0 + 0 ≤ 601024; omega, by show ns + 0 + 0 ≤ 7293034; omega⟩ (fun v6 nx6 sh6 mu6 hp6 => ?_)
  obtain ⟨rfl, rfl, rfl, rfl⟩ := hp6
  refine bs_icmp_eq (tgt := 1654) dL_law_1061 (by decide) (fun _ => ?_) (fun c => absurd rfl c)
  exact kend _ _ _ _ _ _ v0 v1 v2 v3 v4 (by show nc + 0 + 0 ≤ nc + 20; omega) (by show ns + 0 + 0 ≤ ns + 200; omega)
set_option maxHeartbeats 4000000 in
set_option maxRecDepth 100000 in
/-- set -/
theorem law_c23 {nm : String} {b L i x nx nc ns : Nat} {xs : Nat → Int32} {lo : bs_L} {sh : bs_Sh} {mu : bs_Mm} (hi : i + 7 ≤ L) (hL : L ≤ 3584) (v0 : lo 0 = some (.ref b)) (v1 : lo 1 = some (.ref x)) (v2 : lo 2 = some (.ref (x + 159))) (v3 : lo 3 = some (.ref (x + 194))) (v4 : lo 4 = some (.int (nI i))) (hnc : nc + 20 ≤ 601024) (hns : ns + 200 ≤ 7293034) (GS : bs_Fr (bs_tS x) x sh mu) (GM : bs_Fr (bs_tM (x + 159)) (x + 159) sh mu) (kend : ∀ lo2 nc2 ns2 nx2 sh2 mu2, lo2 0 = some (.ref b) → lo2 1 = some (.ref x) → lo2 2 = some (.ref (x + 159)) → lo2 3 = some (.ref (x + 194)) → lo2 4 = some (.int (nI i)) → nc2 ≤ nc + 20 → ns2 ≤ ns + 200 → bs_V (bs_zl b L xs) (mL nm) room_1 1654 lo2 [] nc2 ns2 nx2 sh2 mu2) : bs_V (bs_zl b L xs) (mL nm) room_1 1066 lo [] nc ns nx sh mu := by
  refine bs_aload_n dL_law_1066 v1 ?_
  refine law_arg (k := 1) (K := 1073) hi hL (by decide) rfl dL_law_1067 dL_law_1068 dL_law_1070 (by decide) dL_law_1071 dL_law_1072 rfl v0 v4 ?_
  refine law_arg (k := 2) (K := 1079) hi hL (by decide) rfl dL_law_1073 dL_law_1074 dL_law_1076 (by decide) dL_law_1077 dL_law_1078 rfl v0 v4 ?_
  refine law_arg (k := 3) (K := 1085) hi hL (by decide) rfl dL_law_1079 dL_law_1080 dL_law_1082 (by decide) dL_law_1083 dL_law_1084 rfl v0 v4 ?_
  refine bs_callV dL_law_1085 qL_129 (p_set GS.st (GS.i 0 13 rfl rfl rfl) _ _ _) rfl (GS.st.s 0 rfl rfl rfl) rfl (Nat.le_of_ble_eq_true rfl) ⟨⟨Nat.le_of_ble_eq_true rfl, Nat.le_of_ble_eq_true rfl⟩, by show nc + 0 ≤ 601024; omega, by show ns + 0 ≤ 7293034; omega⟩ (fun v5 nx5 sh5 mu5 hp5 => ?_)
  obtain ⟨rfl, rfl, rfl, rfl⟩ := hp5
  refine bs_aload_n dL_law_1088 v2 ?_
  refine law_arg (k := 1) (K := 1095) hi hL (by decide) rfl dL_law_1089 dL_law_1090 dL_law_1092 (by decide) dL_law_1093 dL_law_1094 rfl v0 v4 ?_
  refine law_arg (k := 2) (K := 1101) hi hL (by decide) rfl dL_law_1095 dL_law_1096 dL_law_1098 (by decide) dL_law_1099 dL_law_1100 rfl v0 v4 ?_
  refine law_arg (k := 3) (K := 1107) hi hL (by decide) rfl dL_law_1101 dL_law_1102 dL_law_1104 (by decide) dL_law_1105 dL_law_1106 rfl v0 v4 ?_
  refine bs_callV dL_law_1107 qL_132 (m_set GM _ _ _) rfl (GM.st.s 0 rfl rfl rfl) rfl (Nat.le_of_ble_eq_true rfl) ⟨⟨Nat.le_of_ble_eq_true rfl, Nat.le_of_ble_eq_true rfl⟩, by show nc + 0 + 0 ≤ 601024; omega, by show ns + 0 + 0 ≤ 7293034; omega⟩ (fun v6 nx6 sh6 mu6 hp6 => ?_)
  obtain ⟨rfl, rfl, rfl, rfl⟩ := hp6
  refine bs_icmp_eq (tgt := 1654) dL_law_1110 (by decide) (fun _ => ?_) (fun c => absurd rfl c)
  exact kend _ _ _ _ _ _ v0 v1 v2 v3 v4 (by show nc + 0 + 0 ≤ nc + 20; omega) (by show ns + 0 + 0 ≤ ns + 200; omega)
set_option maxHeartbeats 4000000 in
set_option maxRecDepth 100000 in
/-- twice -/
theorem law_c24 {nm : String} {b L i x nx nc ns : Nat} {xs : Nat → Int32} {lo : bs_L} {sh : bs_Sh} {mu : bs_Mm} (hi : i + 7 ≤ L) (hL : L ≤ 3584) (v0 : lo 0 = some (.ref b)) (v1 : lo 1 = some (.ref x)) (v2 : lo 2 = some (.ref (x + 159))) (v3 : lo 3 = some (.ref (x + 194))) (v4 : lo 4 = some (.int (nI i))) (hnc : nc + 20 ≤ 601024) (hns : ns + 200 ≤ 7293034) (GS : bs_Fr (bs_tS x) x sh mu) (GM : bs_Fr (bs_tM (x + 159)) (x + 159) sh mu) (kend : ∀ lo2 nc2 ns2 nx2 sh2 mu2, lo2 0 = some (.ref b) → lo2 1 = some (.ref x) → lo2 2 = some (.ref (x + 159)) → lo2 3 = some (.ref (x + 194)) → lo2 4 = some (.int (nI i)) → nc2 ≤ nc + 20 → ns2 ≤ ns + 200 → bs_V (bs_zl b L xs) (mL nm) room_1 1654 lo2 [] nc2 ns2 nx2 sh2 mu2) : bs_V (bs_zl b L xs) (mL nm) room_1 1115 lo [] nc ns nx sh mu := by
  refine bs_aload_n dL_law_1115 v1 ?_
  refine law_arg (k := 1) (K := 1122) hi hL (by decide) rfl dL_law_1116 dL_law_1117 dL_law_1119 (by decide) dL_law_1120 dL_law_1121 rfl v0 v4 ?_
  refine bs_callV dL_law_1122 qL_133 (p_twice GS.st (GS.i 0 13 rfl rfl rfl) _) rfl (GS.st.s 0 rfl rfl rfl) rfl (Nat.le_of_ble_eq_true rfl) ⟨⟨Nat.le_of_ble_eq_true rfl, Nat.le_of_ble_eq_true rfl⟩, by show nc + 0 ≤ 601024; omega, by show ns + 0 ≤ 7293034; omega⟩ (fun v5 nx5 sh5 mu5 hp5 => ?_)
  obtain ⟨rfl, rfl, rfl, rfl⟩ := hp5
  refine bs_aload_n dL_law_1125 v2 ?_
  refine law_arg (k := 1) (K := 1132) hi hL (by decide) rfl dL_law_1126 dL_law_1127 dL_law_1129 (by decide) dL_law_1130 dL_law_1131 rfl v0 v4 ?_
  refine bs_callV dL_law_1132 qL_136 (m_twice GM _) rfl (GM.st.s 0 rfl rfl rfl) rfl (Nat.le_of_ble_eq_true rfl) ⟨⟨Nat.le_of_ble_eq_true rfl, Nat.le_of_ble_eq_true rfl⟩, by show nc + 0 + 0 ≤ 601024; omega, by show ns + 0 + 0 ≤ 7293034; omega⟩ (fun v6 nx6 sh6 mu6 hp6 => ?_)
  obtain ⟨rfl, rfl, rfl, rfl⟩ := hp6
  refine bs_icmp_eq (tgt := 1654) dL_law_1135 (by decide) (fun _ => ?_) (fun c => absurd rfl c)
  exact kend _ _ _ _ _ _ v0 v1 v2 v3 v4 (by show nc + 0 + 0 ≤ nc + 20; omega) (by show ns + 0 + 0 ≤ ns + 200; omega)
set_option maxHeartbeats 4000000 in
set_option maxRecDepth 100000 in
/-- stock -/
theorem law_c25 {nm : String} {b L i x nx nc ns : Nat} {xs : Nat → Int32} {lo : bs_L} {sh : bs_Sh} {mu : bs_Mm} (hi : i + 7 ≤ L) (hL : L ≤ 3584) (v0 : lo 0 = some (.ref b)) (v1 : lo 1 = some (.ref x)) (v2 : lo 2 = some (.ref (x + 159))) (v3 : lo 3 = some (.ref (x + 194))) (v4 : lo 4 = some (.int (nI i))) (hnc : nc + 20 ≤ 601024) (hns : ns + 200 ≤ 7293034) (GS : bs_Fr (bs_tS x) x sh mu) (GM : bs_Fr (bs_tM (x + 159)) (x + 159) sh mu) (kend : ∀ lo2 nc2 ns2 nx2 sh2 mu2, lo2 0 = some (.ref b) → lo2 1 = some (.ref x) → lo2 2 = some (.ref (x + 159)) → lo2 3 = some (.ref (x + 194)) → lo2 4 = some (.int (nI i)) → nc2 ≤ nc + 20 → ns2 ≤ ns + 200 → bs_V (bs_zl b L xs) (mL nm) room_1 1654 lo2 [] nc2 ns2 nx2 sh2 mu2) : bs_V (bs_zl b L xs) (mL nm) room_1 1140 lo [] nc ns nx sh mu := by
  refine bs_aload_n dL_law_1140 v1 ?_
  refine law_arg (k := 1) (K := 1147) hi hL (by decide) rfl dL_law_1141 dL_law_1142 dL_law_1144 (by decide) dL_law_1145 dL_law_1146 rfl v0 v4 ?_
  refine law_arg (k := 2) (K := 1153) hi hL (by decide) rfl dL_law_1147 dL_law_1148 dL_law_1150 (by decide) dL_law_1151 dL_law_1152 rfl v0 v4 ?_
  refine bs_callV dL_law_1153 qL_137 (p_stock GS _ _) rfl (GS.st.s 0 rfl rfl rfl) rfl (Nat.le_of_ble_eq_true rfl) ⟨⟨Nat.le_of_ble_eq_true rfl, Nat.le_of_ble_eq_true rfl⟩, by show nc + 0 ≤ 601024; omega, by show ns + 0 ≤ 7293034; omega⟩ (fun v5 nx5 sh5 mu5 hp5 => ?_)
  obtain ⟨rfl, rfl, rfl, rfl⟩ := hp5
  refine bs_aload_n dL_law_1156 v2 ?_
  refine law_arg (k := 1) (K := 1163) hi hL (by decide) rfl dL_law_1157 dL_law_1158 dL_law_1160 (by decide) dL_law_1161 dL_law_1162 rfl v0 v4 ?_
  refine law_arg (k := 2) (K := 1169) hi hL (by decide) rfl dL_law_1163 dL_law_1164 dL_law_1166 (by decide) dL_law_1167 dL_law_1168 rfl v0 v4 ?_
  refine bs_callV dL_law_1169 qL_141 (m_stock GM _ _) rfl (GM.st.s 0 rfl rfl rfl) rfl (Nat.le_of_ble_eq_true rfl) ⟨⟨Nat.le_of_ble_eq_true rfl, Nat.le_of_ble_eq_true rfl⟩, by show nc + 0 + 0 ≤ 601024; omega, by show ns + 0 + 0 ≤ 7293034; omega⟩ (fun v6 nx6 sh6 mu6 hp6 => ?_)
  obtain ⟨rfl, rfl, rfl, rfl⟩ := hp6
  refine bs_icmp_eq (tgt := 1654) dL_law_1172 (by decide) (fun _ => ?_) (fun c => absurd rfl c)
  exact kend _ _ _ _ _ _ v0 v1 v2 v3 v4 (by show nc + 0 + 0 ≤ nc + 20; omega) (by show ns + 0 + 0 ≤ ns + 200; omega)
set_option maxHeartbeats 4000000 in
set_option maxRecDepth 100000 in
/-- pace -/
theorem law_c26 {nm : String} {b L i x nx nc ns : Nat} {xs : Nat → Int32} {lo : bs_L} {sh : bs_Sh} {mu : bs_Mm} (hi : i + 7 ≤ L) (hL : L ≤ 3584) (v0 : lo 0 = some (.ref b)) (v1 : lo 1 = some (.ref x)) (v2 : lo 2 = some (.ref (x + 159))) (v3 : lo 3 = some (.ref (x + 194))) (v4 : lo 4 = some (.int (nI i))) (hnc : nc + 20 ≤ 601024) (hns : ns + 200 ≤ 7293034) (GS : bs_Fr (bs_tS x) x sh mu) (GM : bs_Fr (bs_tM (x + 159)) (x + 159) sh mu) (kend : ∀ lo2 nc2 ns2 nx2 sh2 mu2, lo2 0 = some (.ref b) → lo2 1 = some (.ref x) → lo2 2 = some (.ref (x + 159)) → lo2 3 = some (.ref (x + 194)) → lo2 4 = some (.int (nI i)) → nc2 ≤ nc + 20 → ns2 ≤ ns + 200 → bs_V (bs_zl b L xs) (mL nm) room_1 1654 lo2 [] nc2 ns2 nx2 sh2 mu2) : bs_V (bs_zl b L xs) (mL nm) room_1 1177 lo [] nc ns nx sh mu := by
  refine bs_aload_n dL_law_1177 v1 ?_
  refine law_arg (k := 1) (K := 1184) hi hL (by decide) rfl dL_law_1178 dL_law_1179 dL_law_1181 (by decide) dL_law_1182 dL_law_1183 rfl v0 v4 ?_
  refine law_arg (k := 2) (K := 1190) hi hL (by decide) rfl dL_law_1184 dL_law_1185 dL_law_1187 (by decide) dL_law_1188 dL_law_1189 rfl v0 v4 ?_
  refine bs_callV dL_law_1190 qL_142 (p_pace GS _ _) rfl (GS.st.s 0 rfl rfl rfl) rfl (Nat.le_of_ble_eq_true rfl) ⟨⟨Nat.le_of_ble_eq_true rfl, Nat.le_of_ble_eq_true rfl⟩, by show nc + 0 ≤ 601024; omega, by show ns + 0 ≤ 7293034; omega⟩ (fun v5 nx5 sh5 mu5 hp5 => ?_)
  obtain ⟨rfl, rfl, rfl, hfr⟩ := hp5
  have GM2 := GM.same (sh' := _) (mu' := mu5) (fun a h1 h2 => ⟨rfl, hfr a (Or.inr (by omega))⟩)
  refine bs_aload_n dL_law_1193 v2 ?_
  refine law_arg (k := 1) (K := 1200) hi hL (by decide) rfl dL_law_1194 dL_law_1195 dL_law_1197 (by decide) dL_law_1198 dL_law_1199 rfl v0 v4 ?_
  refine law_arg (k := 2) (K := 1206) hi hL (by decide) rfl dL_law_1200 dL_law_1201 dL_law_1203 (by decide) dL_law_1204 dL_law_1205 rfl v0 v4 ?_
  refine bs_callV dL_law_1206 qL_145 (m_pace GM2 _ _) rfl (GM2.st.s 0 rfl rfl rfl) rfl (Nat.le_of_ble_eq_true rfl) ⟨⟨Nat.le_of_ble_eq_true rfl, Nat.le_of_ble_eq_true rfl⟩, by show nc + 0 + 0 ≤ 601024; omega, by show ns + 0 + 0 ≤ 7293034; omega⟩ (fun v6 nx6 sh6 mu6 hp6 => ?_)
  obtain ⟨rfl, rfl, rfl⟩ := hp6
  refine bs_icmp_eq (tgt := 1654) dL_law_1209 (by decide) (fun _ => ?_) (fun c => absurd rfl c)
  exact kend _ _ _ _ _ _ v0 v1 v2 v3 v4 (by show nc + 0 + 0 ≤ nc + 20; omega) (by show ns + 0 + 0 ≤ ns + 200; omega)
set_option maxHeartbeats 4000000 in
set_option maxRecDepth 100000 in
/-- comes -/
theorem law_c27 {nm : String} {b L i x nx nc ns : Nat} {xs : Nat → Int32} {lo : bs_L} {sh : bs_Sh} {mu : bs_Mm} (hi : i + 7 ≤ L) (hL : L ≤ 3584) (v0 : lo 0 = some (.ref b)) (v1 : lo 1 = some (.ref x)) (v2 : lo 2 = some (.ref (x + 159))) (v3 : lo 3 = some (.ref (x + 194))) (v4 : lo 4 = some (.int (nI i))) (hnc : nc + 20 ≤ 601024) (hns : ns + 200 ≤ 7293034) (GS : bs_Fr (bs_tS x) x sh mu) (GM : bs_Fr (bs_tM (x + 159)) (x + 159) sh mu) (kend : ∀ lo2 nc2 ns2 nx2 sh2 mu2, lo2 0 = some (.ref b) → lo2 1 = some (.ref x) → lo2 2 = some (.ref (x + 159)) → lo2 3 = some (.ref (x + 194)) → lo2 4 = some (.int (nI i)) → nc2 ≤ nc + 20 → ns2 ≤ ns + 200 → bs_V (bs_zl b L xs) (mL nm) room_1 1654 lo2 [] nc2 ns2 nx2 sh2 mu2) : bs_V (bs_zl b L xs) (mL nm) room_1 1214 lo [] nc ns nx sh mu := by
  refine bs_aload_n dL_law_1214 v1 ?_
  refine law_arg (k := 1) (K := 1221) hi hL (by decide) rfl dL_law_1215 dL_law_1216 dL_law_1218 (by decide) dL_law_1219 dL_law_1220 rfl v0 v4 ?_
  refine law_arg (k := 2) (K := 1227) hi hL (by decide) rfl dL_law_1221 dL_law_1222 dL_law_1224 (by decide) dL_law_1225 dL_law_1226 rfl v0 v4 ?_
  refine law_arg (k := 3) (K := 1233) hi hL (by decide) rfl dL_law_1227 dL_law_1228 dL_law_1230 (by decide) dL_law_1231 dL_law_1232 rfl v0 v4 ?_
  refine bs_callV dL_law_1233 qL_146 (p_comes GS.st (GS.i 0 13 rfl rfl rfl) _ _ _) rfl (GS.st.s 0 rfl rfl rfl) rfl (Nat.le_of_ble_eq_true rfl) ⟨⟨Nat.le_of_ble_eq_true rfl, Nat.le_of_ble_eq_true rfl⟩, by show nc + 0 ≤ 601024; omega, by show ns + 0 ≤ 7293034; omega⟩ (fun v5 nx5 sh5 mu5 hp5 => ?_)
  obtain ⟨rfl, rfl, rfl, rfl⟩ := hp5
  refine bs_aload_n dL_law_1236 v2 ?_
  refine law_arg (k := 1) (K := 1243) hi hL (by decide) rfl dL_law_1237 dL_law_1238 dL_law_1240 (by decide) dL_law_1241 dL_law_1242 rfl v0 v4 ?_
  refine law_arg (k := 2) (K := 1249) hi hL (by decide) rfl dL_law_1243 dL_law_1244 dL_law_1246 (by decide) dL_law_1247 dL_law_1248 rfl v0 v4 ?_
  refine law_arg (k := 3) (K := 1255) hi hL (by decide) rfl dL_law_1249 dL_law_1250 dL_law_1252 (by decide) dL_law_1253 dL_law_1254 rfl v0 v4 ?_
  refine bs_callV dL_law_1255 qL_149 (m_comes GM _ _ _) rfl (GM.st.s 0 rfl rfl rfl) rfl (Nat.le_of_ble_eq_true rfl) ⟨⟨Nat.le_of_ble_eq_true rfl, Nat.le_of_ble_eq_true rfl⟩, by show nc + 0 + 0 ≤ 601024; omega, by show ns + 0 + 0 ≤ 7293034; omega⟩ (fun v6 nx6 sh6 mu6 hp6 => ?_)
  obtain ⟨rfl, rfl, rfl, rfl⟩ := hp6
  refine bs_icmp_eq (tgt := 1654) dL_law_1258 (by decide) (fun _ => ?_) (fun c => absurd rfl c)
  exact kend _ _ _ _ _ _ v0 v1 v2 v3 v4 (by show nc + 0 + 0 ≤ nc + 20; omega) (by show ns + 0 + 0 ≤ ns + 200; omega)
set_option maxHeartbeats 4000000 in
set_option maxRecDepth 100000 in
/-- close -/
theorem law_c28 {nm : String} {b L i x nx nc ns : Nat} {xs : Nat → Int32} {lo : bs_L} {sh : bs_Sh} {mu : bs_Mm} (hi : i + 7 ≤ L) (hL : L ≤ 3584) (v0 : lo 0 = some (.ref b)) (v1 : lo 1 = some (.ref x)) (v2 : lo 2 = some (.ref (x + 159))) (v3 : lo 3 = some (.ref (x + 194))) (v4 : lo 4 = some (.int (nI i))) (hnc : nc + 20 ≤ 601024) (hns : ns + 200 ≤ 7293034) (GS : bs_Fr (bs_tS x) x sh mu) (GM : bs_Fr (bs_tM (x + 159)) (x + 159) sh mu) (kend : ∀ lo2 nc2 ns2 nx2 sh2 mu2, lo2 0 = some (.ref b) → lo2 1 = some (.ref x) → lo2 2 = some (.ref (x + 159)) → lo2 3 = some (.ref (x + 194)) → lo2 4 = some (.int (nI i)) → nc2 ≤ nc + 20 → ns2 ≤ ns + 200 → bs_V (bs_zl b L xs) (mL nm) room_1 1654 lo2 [] nc2 ns2 nx2 sh2 mu2) : bs_V (bs_zl b L xs) (mL nm) room_1 1263 lo [] nc ns nx sh mu := by
  refine bs_aload_n dL_law_1263 v1 ?_
  refine bs_callV dL_law_1264 qL_150 (p_close GS) rfl (GS.st.s 0 rfl rfl rfl) rfl (Nat.le_of_ble_eq_true rfl) ⟨⟨Nat.le_of_ble_eq_true rfl, Nat.le_of_ble_eq_true rfl⟩, by show nc + 0 ≤ 601024; omega, by show ns + 0 ≤ 7293034; omega⟩ (fun v5 nx5 sh5 mu5 hp5 => ?_)
  obtain ⟨rfl, rfl, rfl, hfr⟩ := hp5
  have GM2 := GM.same (sh' := _) (mu' := mu5) (fun a h1 h2 => ⟨rfl, hfr a (Or.inr (by omega))⟩)
  refine bs_aload_n dL_law_1267 v2 ?_
  refine bs_callV dL_law_1268 qL_153 (m_close GM2) rfl (GM2.st.s 0 rfl rfl rfl) rfl (Nat.le_of_ble_eq_true rfl) ⟨⟨Nat.le_of_ble_eq_true rfl, Nat.le_of_ble_eq_true rfl⟩, by show nc + 0 + 0 ≤ 601024; omega, by show ns + 0 + 0 ≤ 7293034; omega⟩ (fun v6 nx6 sh6 mu6 hp6 => ?_)
  obtain ⟨rfl, rfl, rfl⟩ := hp6
  refine bs_icmp_eq (tgt := 1654) dL_law_1271 (by decide) (fun _ => ?_) (fun c => absurd rfl c)
  exact kend _ _ _ _ _ _ v0 v1 v2 v3 v4 (by show nc + 0 + 0 ≤ nc + 20; omega) (by show ns + 0 + 0 ≤ ns + 200; omega)
set_option maxHeartbeats 4000000 in
set_option maxRecDepth 100000 in
/-- run -/
theorem law_c29 {nm : String} {b L i x nx nc ns : Nat} {xs : Nat → Int32} {lo : bs_L} {sh : bs_Sh} {mu : bs_Mm} (hi : i + 7 ≤ L) (hL : L ≤ 3584) (v0 : lo 0 = some (.ref b)) (v1 : lo 1 = some (.ref x)) (v2 : lo 2 = some (.ref (x + 159))) (v3 : lo 3 = some (.ref (x + 194))) (v4 : lo 4 = some (.int (nI i))) (hnc : nc + 20 ≤ 601024) (hns : ns + 200 ≤ 7293034) (GS : bs_Fr (bs_tS x) x sh mu) (GM : bs_Fr (bs_tM (x + 159)) (x + 159) sh mu) (kend : ∀ lo2 nc2 ns2 nx2 sh2 mu2, lo2 0 = some (.ref b) → lo2 1 = some (.ref x) → lo2 2 = some (.ref (x + 159)) → lo2 3 = some (.ref (x + 194)) → lo2 4 = some (.int (nI i)) → nc2 ≤ nc + 20 → ns2 ≤ ns + 200 → bs_V (bs_zl b L xs) (mL nm) room_1 1654 lo2 [] nc2 ns2 nx2 sh2 mu2) : bs_V (bs_zl b L xs) (mL nm) room_1 1276 lo [] nc ns nx sh mu := by
  refine bs_aload_n dL_law_1276 v1 ?_
  refine law_arg (k := 1) (K := 1283) hi hL (by decide) rfl dL_law_1277 dL_law_1278 dL_law_1280 (by decide) dL_law_1281 dL_law_1282 rfl v0 v4 ?_
  refine bs_i2l dL_law_1283 ?_
  refine bs_bipush (v := 32) dL_law_1284 (by decide) ?_
  refine bs_lshl dL_law_1286 ?_
  refine law_arg (k := 2) (K := 1293) hi hL (by decide) rfl dL_law_1287 dL_law_1288 dL_law_1290 (by decide) dL_law_1291 dL_law_1292 rfl v0 v4 ?_
  refine bs_i2l dL_law_1293 ?_
  refine bs_ldc2 dL_law_1294 cL_154 ?_
  refine bs_land dL_law_1297 ?_
  refine bs_lor dL_law_1298 ?_
  refine bs_callV dL_law_1299 qL_156 (p_run GS _) rfl (GS.st.s 0 rfl rfl rfl) rfl (Nat.le_of_ble_eq_true rfl) ⟨⟨Nat.le_of_ble_eq_true rfl, Nat.le_of_ble_eq_true rfl⟩, by show nc + 0 ≤ 601024; omega, by show ns + 0 ≤ 7293034; omega⟩ (fun v5 nx5 sh5 mu5 hp5 => ?_)
  obtain ⟨rfl, rfl, rfl, hfr⟩ := hp5
  have GM2 := GM.same (sh' := _) (mu' := mu5) (fun a h1 h2 => ⟨rfl, hfr a (Or.inr (by omega))⟩)
  refine bs_aload_n dL_law_1302 v2 ?_
  refine law_arg (k := 1) (K := 1309) hi hL (by decide) rfl dL_law_1303 dL_law_1304 dL_law_1306 (by decide) dL_law_1307 dL_law_1308 rfl v0 v4 ?_
  refine bs_i2l dL_law_1309 ?_
  refine bs_bipush (v := 32) dL_law_1310 (by decide) ?_
  refine bs_lshl dL_law_1312 ?_
  refine law_arg (k := 2) (K := 1319) hi hL (by decide) rfl dL_law_1313 dL_law_1314 dL_law_1316 (by decide) dL_law_1317 dL_law_1318 rfl v0 v4 ?_
  refine bs_i2l dL_law_1319 ?_
  refine bs_ldc2 dL_law_1320 cL_154 ?_
  refine bs_land dL_law_1323 ?_
  refine bs_lor dL_law_1324 ?_
  refine bs_callV dL_law_1325 qL_160 (m_run GM2 _) rfl (GM2.st.s 0 rfl rfl rfl) rfl (Nat.le_of_ble_eq_true rfl) ⟨⟨Nat.le_of_ble_eq_true rfl, Nat.le_of_ble_eq_true rfl⟩, by show nc + 0 + 0 ≤ 601024; omega, by show ns + 0 + 0 ≤ 7293034; omega⟩ (fun v6 nx6 sh6 mu6 hp6 => ?_)
  obtain ⟨rfl, rfl, rfl⟩ := hp6
  refine bs_icmp_eq (tgt := 1654) dL_law_1328 (by decide) (fun _ => ?_) (fun c => absurd rfl c)
  exact kend _ _ _ _ _ _ v0 v1 v2 v3 v4 (by show nc + 0 + 0 ≤ nc + 20; omega) (by show ns + 0 + 0 ≤ ns + 200; omega)
set_option maxHeartbeats 4000000 in
set_option maxRecDepth 100000 in
/-- aged -/
theorem law_c32 {nm : String} {b L i x nx nc ns : Nat} {xs : Nat → Int32} {lo : bs_L} {sh : bs_Sh} {mu : bs_Mm} (hi : i + 7 ≤ L) (hL : L ≤ 3584) (v0 : lo 0 = some (.ref b)) (v1 : lo 1 = some (.ref x)) (v2 : lo 2 = some (.ref (x + 159))) (v3 : lo 3 = some (.ref (x + 194))) (v4 : lo 4 = some (.int (nI i))) (hnc : nc + 20 ≤ 601024) (hns : ns + 200 ≤ 7293034) (GS : bs_Fr (bs_tS x) x sh mu) (GM : bs_Fr (bs_tM (x + 159)) (x + 159) sh mu) (kend : ∀ lo2 nc2 ns2 nx2 sh2 mu2, lo2 0 = some (.ref b) → lo2 1 = some (.ref x) → lo2 2 = some (.ref (x + 159)) → lo2 3 = some (.ref (x + 194)) → lo2 4 = some (.int (nI i)) → nc2 ≤ nc + 20 → ns2 ≤ ns + 200 → bs_V (bs_zl b L xs) (mL nm) room_1 1654 lo2 [] nc2 ns2 nx2 sh2 mu2) : bs_V (bs_zl b L xs) (mL nm) room_1 1519 lo [] nc ns nx sh mu := by
  refine bs_aload_n dL_law_1519 v1 ?_
  refine law_arg (k := 1) (K := 1526) hi hL (by decide) rfl dL_law_1520 dL_law_1521 dL_law_1523 (by decide) dL_law_1524 dL_law_1525 rfl v0 v4 ?_
  refine law_arg (k := 2) (K := 1532) hi hL (by decide) rfl dL_law_1526 dL_law_1527 dL_law_1529 (by decide) dL_law_1530 dL_law_1531 rfl v0 v4 ?_
  refine law_arg (k := 3) (K := 1538) hi hL (by decide) rfl dL_law_1532 dL_law_1533 dL_law_1535 (by decide) dL_law_1536 dL_law_1537 rfl v0 v4 ?_
  refine law_arg (k := 4) (K := 1544) hi hL (by decide) rfl dL_law_1538 dL_law_1539 dL_law_1541 (by decide) dL_law_1542 dL_law_1543 rfl v0 v4 ?_
  refine bs_callV dL_law_1544 qL_169 (p_aged GS.st (GS.i 0 13 rfl rfl rfl) (GS.i 0 14 rfl rfl rfl) _ _ _ _) rfl (GS.st.s 0 rfl rfl rfl) rfl (Nat.le_of_ble_eq_true rfl) ⟨⟨Nat.le_of_ble_eq_true rfl, Nat.le_of_ble_eq_true rfl⟩, by show nc + 0 ≤ 601024; omega, by show ns + 0 ≤ 7293034; omega⟩ (fun v5 nx5 sh5 mu5 hp5 => ?_)
  obtain ⟨rfl, rfl, rfl, rfl⟩ := hp5
  refine bs_aload_n dL_law_1547 v2 ?_
  refine law_arg (k := 1) (K := 1554) hi hL (by decide) rfl dL_law_1548 dL_law_1549 dL_law_1551 (by decide) dL_law_1552 dL_law_1553 rfl v0 v4 ?_
  refine law_arg (k := 2) (K := 1560) hi hL (by decide) rfl dL_law_1554 dL_law_1555 dL_law_1557 (by decide) dL_law_1558 dL_law_1559 rfl v0 v4 ?_
  refine law_arg (k := 3) (K := 1566) hi hL (by decide) rfl dL_law_1560 dL_law_1561 dL_law_1563 (by decide) dL_law_1564 dL_law_1565 rfl v0 v4 ?_
  refine law_arg (k := 4) (K := 1572) hi hL (by decide) rfl dL_law_1566 dL_law_1567 dL_law_1569 (by decide) dL_law_1570 dL_law_1571 rfl v0 v4 ?_
  refine bs_callV dL_law_1572 qL_172 (m_aged GM _ _ _ _) rfl (GM.st.s 0 rfl rfl rfl) rfl (Nat.le_of_ble_eq_true rfl) ⟨⟨Nat.le_of_ble_eq_true rfl, Nat.le_of_ble_eq_true rfl⟩, by show nc + 0 + 0 ≤ 601024; omega, by show ns + 0 + 0 ≤ 7293034; omega⟩ (fun v6 nx6 sh6 mu6 hp6 => ?_)
  obtain ⟨rfl, rfl, rfl, rfl⟩ := hp6
  refine bs_icmp_eq (tgt := 1654) dL_law_1575 (by decide) (fun _ => ?_) (fun c => absurd rfl c)
  exact kend _ _ _ _ _ _ v0 v1 v2 v3 v4 (by show nc + 0 + 0 ≤ nc + 20; omega) (by show ns + 0 + 0 ≤ ns + 200; omega)
set_option maxHeartbeats 4000000 in
set_option maxRecDepth 100000 in
/-- falls -/
theorem law_c33 {nm : String} {b L i x nx nc ns : Nat} {xs : Nat → Int32} {lo : bs_L} {sh : bs_Sh} {mu : bs_Mm} (hi : i + 7 ≤ L) (hL : L ≤ 3584) (v0 : lo 0 = some (.ref b)) (v1 : lo 1 = some (.ref x)) (v2 : lo 2 = some (.ref (x + 159))) (v3 : lo 3 = some (.ref (x + 194))) (v4 : lo 4 = some (.int (nI i))) (hnc : nc + 20 ≤ 601024) (hns : ns + 200 ≤ 7293034) (GS : bs_Fr (bs_tS x) x sh mu) (GM : bs_Fr (bs_tM (x + 159)) (x + 159) sh mu) (kend : ∀ lo2 nc2 ns2 nx2 sh2 mu2, lo2 0 = some (.ref b) → lo2 1 = some (.ref x) → lo2 2 = some (.ref (x + 159)) → lo2 3 = some (.ref (x + 194)) → lo2 4 = some (.int (nI i)) → nc2 ≤ nc + 20 → ns2 ≤ ns + 200 → bs_V (bs_zl b L xs) (mL nm) room_1 1654 lo2 [] nc2 ns2 nx2 sh2 mu2) : bs_V (bs_zl b L xs) (mL nm) room_1 1580 lo [] nc ns nx sh mu := by
  refine bs_aload_n dL_law_1580 v1 ?_
  refine law_arg (k := 1) (K := 1587) hi hL (by decide) rfl dL_law_1581 dL_law_1582 dL_law_1584 (by decide) dL_law_1585 dL_law_1586 rfl v0 v4 ?_
  refine law_arg (k := 2) (K := 1593) hi hL (by decide) rfl dL_law_1587 dL_law_1588 dL_law_1590 (by decide) dL_law_1591 dL_law_1592 rfl v0 v4 ?_
  refine law_arg (k := 3) (K := 1599) hi hL (by decide) rfl dL_law_1593 dL_law_1594 dL_law_1596 (by decide) dL_law_1597 dL_law_1598 rfl v0 v4 ?_
  refine bs_callV dL_law_1599 qL_173 (p_falls GS.st (GS.i 0 13 rfl rfl rfl) (GS.i 0 14 rfl rfl rfl) _ _ _) rfl (GS.st.s 0 rfl rfl rfl) rfl (Nat.le_of_ble_eq_true rfl) ⟨⟨Nat.le_of_ble_eq_true rfl, Nat.le_of_ble_eq_true rfl⟩, by show nc + 0 ≤ 601024; omega, by show ns + 0 ≤ 7293034; omega⟩ (fun v5 nx5 sh5 mu5 hp5 => ?_)
  obtain ⟨rfl, rfl, rfl, rfl⟩ := hp5
  refine bs_aload_n dL_law_1602 v2 ?_
  refine law_arg (k := 1) (K := 1609) hi hL (by decide) rfl dL_law_1603 dL_law_1604 dL_law_1606 (by decide) dL_law_1607 dL_law_1608 rfl v0 v4 ?_
  refine law_arg (k := 2) (K := 1615) hi hL (by decide) rfl dL_law_1609 dL_law_1610 dL_law_1612 (by decide) dL_law_1613 dL_law_1614 rfl v0 v4 ?_
  refine law_arg (k := 3) (K := 1621) hi hL (by decide) rfl dL_law_1615 dL_law_1616 dL_law_1618 (by decide) dL_law_1619 dL_law_1620 rfl v0 v4 ?_
  refine bs_callV dL_law_1621 qL_176 (m_falls GM _ _ _) rfl (GM.st.s 0 rfl rfl rfl) rfl (Nat.le_of_ble_eq_true rfl) ⟨⟨Nat.le_of_ble_eq_true rfl, Nat.le_of_ble_eq_true rfl⟩, by show nc + 0 + 0 ≤ 601024; omega, by show ns + 0 + 0 ≤ 7293034; omega⟩ (fun v6 nx6 sh6 mu6 hp6 => ?_)
  obtain ⟨rfl, rfl, rfl, rfl⟩ := hp6
  refine bs_icmp_eq (tgt := 1654) dL_law_1624 (by decide) (fun _ => ?_) (fun c => absurd rfl c)
  exact kend _ _ _ _ _ _ v0 v1 v2 v3 v4 (by show nc + 0 + 0 ≤ nc + 20; omega) (by show ns + 0 + 0 ≤ ns + 200; omega)
set_option maxHeartbeats 4000000 in
set_option maxRecDepth 100000 in
/-- count -/
theorem law_c34 {nm : String} {b L i x nx nc ns : Nat} {xs : Nat → Int32} {lo : bs_L} {sh : bs_Sh} {mu : bs_Mm} (hi : i + 7 ≤ L) (hL : L ≤ 3584) (v0 : lo 0 = some (.ref b)) (v1 : lo 1 = some (.ref x)) (v2 : lo 2 = some (.ref (x + 159))) (v3 : lo 3 = some (.ref (x + 194))) (v4 : lo 4 = some (.int (nI i))) (hnc : nc + 20 ≤ 601024) (hns : ns + 200 ≤ 7293034) (GS : bs_Fr (bs_tS x) x sh mu) (GM : bs_Fr (bs_tM (x + 159)) (x + 159) sh mu) (kend : ∀ lo2 nc2 ns2 nx2 sh2 mu2, lo2 0 = some (.ref b) → lo2 1 = some (.ref x) → lo2 2 = some (.ref (x + 159)) → lo2 3 = some (.ref (x + 194)) → lo2 4 = some (.int (nI i)) → nc2 ≤ nc + 20 → ns2 ≤ ns + 200 → bs_V (bs_zl b L xs) (mL nm) room_1 1654 lo2 [] nc2 ns2 nx2 sh2 mu2) : bs_V (bs_zl b L xs) (mL nm) room_1 1629 lo [] nc ns nx sh mu := by
  refine bs_aload_n dL_law_1629 v1 ?_
  refine law_arg (k := 1) (K := 1636) hi hL (by decide) rfl dL_law_1630 dL_law_1631 dL_law_1633 (by decide) dL_law_1634 dL_law_1635 rfl v0 v4 ?_
  refine bs_callV dL_law_1636 qL_177 (p_count GS _) rfl (GS.st.s 0 rfl rfl rfl) rfl (Nat.le_of_ble_eq_true rfl) ⟨⟨Nat.le_of_ble_eq_true rfl, Nat.le_of_ble_eq_true rfl⟩, by show nc + 0 ≤ 601024; omega, by show ns + 0 ≤ 7293034; omega⟩ (fun v5 nx5 sh5 mu5 hp5 => ?_)
  obtain ⟨rfl, rfl, rfl, rfl⟩ := hp5
  refine bs_aload_n dL_law_1639 v2 ?_
  refine law_arg (k := 1) (K := 1646) hi hL (by decide) rfl dL_law_1640 dL_law_1641 dL_law_1643 (by decide) dL_law_1644 dL_law_1645 rfl v0 v4 ?_
  refine bs_callV dL_law_1646 qL_180 (m_count GM _) rfl (GM.st.s 0 rfl rfl rfl) rfl (Nat.le_of_ble_eq_true rfl) ⟨⟨Nat.le_of_ble_eq_true rfl, Nat.le_of_ble_eq_true rfl⟩, by show nc + 0 + 0 ≤ 601024; omega, by show ns + 0 + 0 ≤ 7293034; omega⟩ (fun v6 nx6 sh6 mu6 hp6 => ?_)
  obtain ⟨rfl, rfl, rfl, rfl⟩ := hp6
  refine bs_icmp_eq (tgt := 1654) dL_law_1649 (by decide) (fun _ => ?_) (fun c => absurd rfl c)
  exact kend _ _ _ _ _ _ v0 v1 v2 v3 v4 (by show nc + 0 + 0 ≤ nc + 20; omega) (by show ns + 0 + 0 ≤ ns + 200; omega)
theorem m_thrown2 {x nx : Nat} {sh : bs_Sh} {mu : bs_Mm} (H : (sh x).1 = 12) : bs_C mX12_thrown (bs_rm 0 0 0) [.ref x] nx sh mu (bs_no nx sh mu (.int (bs_iv (mu x 0)))) := by
  refine bs_ct (by decide +kernel) (Nat.le_of_ble_eq_true rfl) ?_
  refine bs_aload_n dX12_thrown_0 rfl ?_
  refine bs_getI dX12_thrown_1 fX12_118 H ?_
  exact bs_iret dX12_thrown_4 rfl (by decide) (by decide) ⟨rfl, rfl, rfl, rfl⟩
set_option maxHeartbeats 4000000 in
set_option maxRecDepth 100000 in
theorem law_c7 {nm : String} {b L i x nx nc ns : Nat} {xs : Nat → Int32} {lo : bs_L} {sh : bs_Sh} {mu : bs_Mm} (hi : i + 7 ≤ L) (hL : L ≤ 3584) (v0 : lo 0 = some (.ref b)) (v1 : lo 1 = some (.ref x)) (v2 : lo 2 = some (.ref (x + 159))) (v3 : lo 3 = some (.ref (x + 194))) (v4 : lo 4 = some (.int (nI i))) (hnc : nc + 20 ≤ 601024) (hns : ns + 200 ≤ 7293034) (GS : bs_Fr (bs_tS x) x sh mu) (GM : bs_Fr (bs_tM (x + 159)) (x + 159) sh mu) (kend : ∀ lo2 nc2 ns2 nx2 sh2 mu2, lo2 0 = some (.ref b) → lo2 1 = some (.ref x) → lo2 2 = some (.ref (x + 159)) → lo2 3 = some (.ref (x + 194)) → lo2 4 = some (.int (nI i)) → nc2 ≤ nc + 20 → ns2 ≤ ns + 200 → bs_V (bs_zl b L xs) (mL nm) room_1 1654 lo2 [] nc2 ns2 nx2 sh2 mu2) : bs_V (bs_zl b L xs) (mL nm) room_1 431 lo [] nc ns nx sh mu := by
  refine bs_aload_n dL_law_431 v1 ?_
  refine law_arg (k := 1) (K := 438) hi hL (by decide) rfl dL_law_432 dL_law_433 dL_law_435 (by decide) dL_law_436 dL_law_437 rfl v0 v4 ?_
  refine law_arg (k := 2) (K := 444) hi hL (by decide) rfl dL_law_438 dL_law_439 dL_law_441 (by decide) dL_law_442 dL_law_443 rfl v0 v4 ?_
  refine law_arg (k := 3) (K := 450) hi hL (by decide) rfl dL_law_444 dL_law_445 dL_law_447 (by decide) dL_law_448 dL_law_449 rfl v0 v4 ?_
  refine bs_aload_n dL_law_450 v3 ?_
  refine bs_callST dL_law_451 tL_59 (l_bubble GS _ _ _) rfl rfl (Nat.le_of_ble_eq_true rfl) ⟨⟨Nat.le_of_ble_eq_true rfl, Nat.le_of_ble_eq_true rfl⟩, by show nc + 1 ≤ 601024; omega, by show ns + 6 ≤ 7293034; omega⟩ (fun _ _ _ _ h => law_J h) (fun v5 nx5 sh5 mu5 hp5 => ?_)
  obtain ⟨rfl, rfl, rfl⟩ := hp5
  refine bs_istore dL_law_454 (by simp [bs_ok, v4]) (Nat.le_of_ble_eq_true rfl) ?_
  refine bs_aload_n dL_law_456 v2 ?_
  refine law_arg (k := 1) (K := 463) hi hL (by decide) rfl dL_law_457 dL_law_458 dL_law_460 (by decide) dL_law_461 dL_law_462 rfl v0 v4 ?_
  refine law_arg (k := 2) (K := 469) hi hL (by decide) rfl dL_law_463 dL_law_464 dL_law_466 (by decide) dL_law_467 dL_law_468 rfl v0 v4 ?_
  refine law_arg (k := 3) (K := 475) hi hL (by decide) rfl dL_law_469 dL_law_470 dL_law_472 (by decide) dL_law_473 dL_law_474 rfl v0 v4 ?_
  refine bs_callV dL_law_475 qL_64 (m_bubble GM _ _ _) rfl (GM.st.s 0 rfl rfl rfl) rfl (Nat.le_of_ble_eq_true rfl) ⟨⟨Nat.le_of_ble_eq_true rfl, Nat.le_of_ble_eq_true rfl⟩, by show nc + 1 + 0 ≤ 601024; omega, by show ns + 6 + 0 ≤ 7293034; omega⟩ (fun v6 nx6 sh6 mu6 hp6 => ?_)
  obtain ⟨rfl, rfl, rfl, rfl⟩ := hp6
  refine bs_istore dL_law_478 rfl (Nat.le_of_ble_eq_true rfl) ?_
  refine bs_aload_n dL_law_480 v2 ?_
  refine bs_callV dL_law_481 qL_65 (m_thrown2 (GM.st.s 0 rfl rfl rfl)) rfl (GM.st.s 0 rfl rfl rfl) rfl (Nat.le_of_ble_eq_true rfl) ⟨⟨Nat.le_of_ble_eq_true rfl, Nat.le_of_ble_eq_true rfl⟩, by show nc + 1 + 0 + 0 ≤ 601024; omega, by show ns + 6 + 0 + 0 ≤ 7293034; omega⟩ (fun v7 nx7 sh7 mu7 hp7 => ?_)
  obtain ⟨rfl, rfl, rfl, rfl⟩ := hp7
  refine bs_topq (x' := 1) (by rw [bs_up_eq]; rfl) ?_
  refine bs_iload dL_law_484 rfl ?_
  refine bs_icmp_eq (tgt := 491) dL_law_486 (by decide) (fun _ => ?_) (fun c => absurd rfl c)
  refine bs_iload dL_law_491 rfl ?_
  refine bs_if_ne (tgt := 508) dL_law_493 (by decide) (fun _ => ?_) (fun c => absurd c (by decide))
  refine bs_goto (tgt := 1654) dL_law_508 (by decide) ?_
  exact kend _ _ _ _ _ _ v0 v1 v2 v3 v4 (by show nc + 1 + 0 + 0 ≤ nc + 20; omega) (by show ns + 6 + 0 + 0 ≤ ns + 200; omega)
set_option maxHeartbeats 4000000 in
set_option maxRecDepth 100000 in
theorem law_c30 {nm : String} {b L i x nx nc ns : Nat} {xs : Nat → Int32} {lo : bs_L} {sh : bs_Sh} {mu : bs_Mm} (hi : i + 7 ≤ L) (hL : L ≤ 3584) (v0 : lo 0 = some (.ref b)) (v1 : lo 1 = some (.ref x)) (v2 : lo 2 = some (.ref (x + 159))) (v3 : lo 3 = some (.ref (x + 194))) (v4 : lo 4 = some (.int (nI i))) (hnc : nc + 20 ≤ 601024) (hns : ns + 200 ≤ 7293034) (GS : bs_Fr (bs_tS x) x sh mu) (GM : bs_Fr (bs_tM (x + 159)) (x + 159) sh mu) (kend : ∀ lo2 nc2 ns2 nx2 sh2 mu2, lo2 0 = some (.ref b) → lo2 1 = some (.ref x) → lo2 2 = some (.ref (x + 159)) → lo2 3 = some (.ref (x + 194)) → lo2 4 = some (.int (nI i)) → nc2 ≤ nc + 20 → ns2 ≤ ns + 200 → bs_V (bs_zl b L xs) (mL nm) room_1 1654 lo2 [] nc2 ns2 nx2 sh2 mu2) : bs_V (bs_zl b L xs) (mL nm) room_1 1333 lo [] nc ns nx sh mu := by
  refine bs_aload_n dL_law_1333 v1 ?_
  refine law_arg (k := 1) (K := 1340) hi hL (by decide) rfl dL_law_1334 dL_law_1335 dL_law_1337 (by decide) dL_law_1338 dL_law_1339 rfl v0 v4 ?_
  refine law_arg (k := 2) (K := 1346) hi hL (by decide) rfl dL_law_1340 dL_law_1341 dL_law_1343 (by decide) dL_law_1344 dL_law_1345 rfl v0 v4 ?_
  refine bs_aload_n dL_law_1346 v3 ?_
  refine bs_callST dL_law_1347 tL_161 (l_guest GS _ _) rfl rfl (Nat.le_of_ble_eq_true rfl) ⟨⟨Nat.le_of_ble_eq_true rfl, Nat.le_of_ble_eq_true rfl⟩, by show nc + 1 ≤ 601024; omega, by show ns + 6 ≤ 7293034; omega⟩ (fun _ _ _ _ h => law_J h) (fun v5 nx5 sh5 mu5 hp5 => ?_)
  obtain ⟨rfl, rfl, rfl⟩ := hp5
  refine bs_istore dL_law_1350 (by simp [bs_ok, v4]) (Nat.le_of_ble_eq_true rfl) ?_
  refine bs_aload_n dL_law_1352 v2 ?_
  refine law_arg (k := 1) (K := 1359) hi hL (by decide) rfl dL_law_1353 dL_law_1354 dL_law_1356 (by decide) dL_law_1357 dL_law_1358 rfl v0 v4 ?_
  refine law_arg (k := 2) (K := 1365) hi hL (by decide) rfl dL_law_1359 dL_law_1360 dL_law_1362 (by decide) dL_law_1363 dL_law_1364 rfl v0 v4 ?_
  refine bs_callV dL_law_1365 qL_164 (m_guest GM _ _) rfl (GM.st.s 0 rfl rfl rfl) rfl (Nat.le_of_ble_eq_true rfl) ⟨⟨Nat.le_of_ble_eq_true rfl, Nat.le_of_ble_eq_true rfl⟩, by show nc + 1 + 0 ≤ 601024; omega, by show ns + 6 + 0 ≤ 7293034; omega⟩ (fun v6 nx6 sh6 mu6 hp6 => ?_)
  obtain ⟨rfl, rfl, rfl, rfl⟩ := hp6
  refine bs_istore dL_law_1368 rfl (Nat.le_of_ble_eq_true rfl) ?_
  refine bs_aload_n dL_law_1370 v2 ?_
  refine bs_callV dL_law_1371 qL_65 (m_thrown2 (GM.st.s 0 rfl rfl rfl)) rfl (GM.st.s 0 rfl rfl rfl) rfl (Nat.le_of_ble_eq_true rfl) ⟨⟨Nat.le_of_ble_eq_true rfl, Nat.le_of_ble_eq_true rfl⟩, by show nc + 1 + 0 + 0 ≤ 601024; omega, by show ns + 6 + 0 + 0 ≤ 7293034; omega⟩ (fun v7 nx7 sh7 mu7 hp7 => ?_)
  obtain ⟨rfl, rfl, rfl, rfl⟩ := hp7
  refine bs_topq (x' := 1) (by rw [bs_up_eq]; rfl) ?_
  refine bs_iload dL_law_1374 rfl ?_
  refine bs_icmp_eq (tgt := 1381) dL_law_1376 (by decide) (fun _ => ?_) (fun c => absurd rfl c)
  refine bs_iload dL_law_1381 rfl ?_
  refine bs_if_ne (tgt := 1398) dL_law_1383 (by decide) (fun _ => ?_) (fun c => absurd c (by decide))
  refine bs_goto (tgt := 1654) dL_law_1398 (by decide) ?_
  exact kend _ _ _ _ _ _ v0 v1 v2 v3 v4 (by show nc + 1 + 0 + 0 ≤ nc + 20; omega) (by show ns + 6 + 0 + 0 ≤ ns + 200; omega)
set_option maxHeartbeats 4000000 in
set_option maxRecDepth 100000 in
theorem law_c31 {nm : String} {b L i x nx nc ns : Nat} {xs : Nat → Int32} {lo : bs_L} {sh : bs_Sh} {mu : bs_Mm} (hi : i + 7 ≤ L) (hL : L ≤ 3584) (v0 : lo 0 = some (.ref b)) (v1 : lo 1 = some (.ref x)) (v2 : lo 2 = some (.ref (x + 159))) (v3 : lo 3 = some (.ref (x + 194))) (v4 : lo 4 = some (.int (nI i))) (hnc : nc + 20 ≤ 601024) (hns : ns + 200 ≤ 7293034) (GS : bs_Fr (bs_tS x) x sh mu) (GM : bs_Fr (bs_tM (x + 159)) (x + 159) sh mu) (kend : ∀ lo2 nc2 ns2 nx2 sh2 mu2, lo2 0 = some (.ref b) → lo2 1 = some (.ref x) → lo2 2 = some (.ref (x + 159)) → lo2 3 = some (.ref (x + 194)) → lo2 4 = some (.int (nI i)) → nc2 ≤ nc + 20 → ns2 ≤ ns + 200 → bs_V (bs_zl b L xs) (mL nm) room_1 1654 lo2 [] nc2 ns2 nx2 sh2 mu2) : bs_V (bs_zl b L xs) (mL nm) room_1 1401 lo [] nc ns nx sh mu := by
  refine bs_aload_n dL_law_1401 v1 ?_
  refine law_arg (k := 1) (K := 1408) hi hL (by decide) rfl dL_law_1402 dL_law_1403 dL_law_1405 (by decide) dL_law_1406 dL_law_1407 rfl v0 v4 ?_
  refine law_arg (k := 2) (K := 1414) hi hL (by decide) rfl dL_law_1408 dL_law_1409 dL_law_1411 (by decide) dL_law_1412 dL_law_1413 rfl v0 v4 ?_
  refine law_arg (k := 3) (K := 1420) hi hL (by decide) rfl dL_law_1414 dL_law_1415 dL_law_1417 (by decide) dL_law_1418 dL_law_1419 rfl v0 v4 ?_
  refine law_arg (k := 4) (K := 1426) hi hL (by decide) rfl dL_law_1420 dL_law_1421 dL_law_1423 (by decide) dL_law_1424 dL_law_1425 rfl v0 v4 ?_
  refine law_arg (k := 5) (K := 1432) hi hL (by decide) rfl dL_law_1426 dL_law_1427 dL_law_1429 (by decide) dL_law_1430 dL_law_1431 rfl v0 v4 ?_
  refine law_argb (k := 6) (K := 1439) hi hL (by decide) rfl dL_law_1432 dL_law_1433 dL_law_1435 (by decide) dL_law_1437 dL_law_1438 rfl v0 v4 ?_
  refine bs_aload_n dL_law_1439 v3 ?_
  refine bs_callST dL_law_1440 tL_165 (l_worth GS _ _ _ _ _ _) rfl rfl (Nat.le_of_ble_eq_true rfl) ⟨⟨Nat.le_of_ble_eq_true rfl, Nat.le_of_ble_eq_true rfl⟩, by show nc + 1 ≤ 601024; omega, by show ns + 6 ≤ 7293034; omega⟩ (fun _ _ _ _ h => law_J h) (fun v5 nx5 sh5 mu5 hp5 => ?_)
  obtain ⟨rfl, rfl, rfl⟩ := hp5
  refine bs_istore dL_law_1443 (by simp [bs_ok, v4]) (Nat.le_of_ble_eq_true rfl) ?_
  refine bs_aload_n dL_law_1445 v2 ?_
  refine law_arg (k := 1) (K := 1452) hi hL (by decide) rfl dL_law_1446 dL_law_1447 dL_law_1449 (by decide) dL_law_1450 dL_law_1451 rfl v0 v4 ?_
  refine law_arg (k := 2) (K := 1458) hi hL (by decide) rfl dL_law_1452 dL_law_1453 dL_law_1455 (by decide) dL_law_1456 dL_law_1457 rfl v0 v4 ?_
  refine law_arg (k := 3) (K := 1464) hi hL (by decide) rfl dL_law_1458 dL_law_1459 dL_law_1461 (by decide) dL_law_1462 dL_law_1463 rfl v0 v4 ?_
  refine law_arg (k := 4) (K := 1470) hi hL (by decide) rfl dL_law_1464 dL_law_1465 dL_law_1467 (by decide) dL_law_1468 dL_law_1469 rfl v0 v4 ?_
  refine law_arg (k := 5) (K := 1476) hi hL (by decide) rfl dL_law_1470 dL_law_1471 dL_law_1473 (by decide) dL_law_1474 dL_law_1475 rfl v0 v4 ?_
  refine law_argb (k := 6) (K := 1483) hi hL (by decide) rfl dL_law_1476 dL_law_1477 dL_law_1479 (by decide) dL_law_1481 dL_law_1482 rfl v0 v4 ?_
  refine bs_callV dL_law_1483 qL_168 (m_worth GM _ _ _ _ _ _) rfl (GM.st.s 0 rfl rfl rfl) rfl (Nat.le_of_ble_eq_true rfl) ⟨⟨Nat.le_of_ble_eq_true rfl, Nat.le_of_ble_eq_true rfl⟩, by show nc + 1 + 0 ≤ 601024; omega, by show ns + 6 + 0 ≤ 7293034; omega⟩ (fun v6 nx6 sh6 mu6 hp6 => ?_)
  obtain ⟨rfl, rfl, rfl, rfl⟩ := hp6
  refine bs_istore dL_law_1486 rfl (Nat.le_of_ble_eq_true rfl) ?_
  refine bs_aload_n dL_law_1488 v2 ?_
  refine bs_callV dL_law_1489 qL_65 (m_thrown2 (GM.st.s 0 rfl rfl rfl)) rfl (GM.st.s 0 rfl rfl rfl) rfl (Nat.le_of_ble_eq_true rfl) ⟨⟨Nat.le_of_ble_eq_true rfl, Nat.le_of_ble_eq_true rfl⟩, by show nc + 1 + 0 + 0 ≤ 601024; omega, by show ns + 6 + 0 + 0 ≤ 7293034; omega⟩ (fun v7 nx7 sh7 mu7 hp7 => ?_)
  obtain ⟨rfl, rfl, rfl, rfl⟩ := hp7
  refine bs_topq (x' := 1) (by rw [bs_up_eq]; rfl) ?_
  refine bs_iload dL_law_1492 rfl ?_
  refine bs_icmp_eq (tgt := 1499) dL_law_1494 (by decide) (fun _ => ?_) (fun c => absurd rfl c)
  refine bs_iload dL_law_1499 rfl ?_
  refine bs_if_ne (tgt := 1516) dL_law_1501 (by decide) (fun _ => ?_) (fun c => absurd c (by decide))
  refine bs_goto (tgt := 1654) dL_law_1516 (by decide) ?_
  exact kend _ _ _ _ _ _ v0 v1 v2 v3 v4 (by show nc + 1 + 0 + 0 ≤ nc + 20; omega) (by show ns + 6 + 0 + 0 ≤ ns + 200; omega)
