/-- a constructor: it makes mc cells of ms places; behind it the world is K u -/
def CN {S : Type} (l : Launch) (g : evG) (y : MethodName) (cw : Cond) (fr mc ms lo : Nat) (As : List Value) (ws : va_W) (post : S → Prop) (K : S → va_W) : Prop :=
  ∀ sz : Nat, Met l y (cw :: bw) { frames := fr, cells := mc, slots := ms, locals := lo } (va_Pc As (ctB g ws sz)) (va_Qv post (fun u t => va_P g.1 vwCl (K u) t.heap ∧ va_D (va_A ws sz) (K u)) (va_A ws sz)) mc ms (va_A ws sz)
theorem seg_r (wr wc : va_W) : (List.range' wr.length wc.length).map (fun i => (wr ++ wc)[i]?) = wc.map some := by
  apply List.ext_getElem?
  intro k
  rw [List.getElem?_map, List.getElem?_map]
  by_cases hk : k < wc.length
  · rw [List.getElem?_range' hk]
    simp only [Option.map_some, Nat.one_mul]
    rw [List.getElem?_append_right (Nat.le_add_right _ _), Nat.add_sub_cancel_left, List.getElem?_eq_getElem hk]
    rfl
  · rw [List.getElem?_eq_none (by simpa using hk), List.getElem?_eq_none (by simpa using hk)]
    rfl
theorem seg_l (wr wc : va_W) : (List.range' 0 wr.length).map (fun i => (wr ++ wc)[i]?) = wr.map some := by
  apply List.ext_getElem?
  intro k
  rw [List.getElem?_map, List.getElem?_map]
  by_cases hk : k < wr.length
  · rw [List.getElem?_range' hk]
    simp only [Option.map_some, Nat.zero_add, Nat.one_mul]
    rw [List.getElem?_append_left hk, List.getElem?_eq_getElem hk]
    rfl
  · rw [List.getElem?_eq_none (by simpa using hk), List.getElem?_eq_none (by simpa using hk)]
    rfl
theorem nd_range : ∀ (n a : Nat), va_nd (List.range' a n) = true
  | 0, _ => rfl
  | n + 1, a => by
    rw [List.range'_succ]
    simp only [va_nd, Bool.and_eq_true, decide_eq_true_eq]
    refine ⟨fun h => ?_, nd_range n (a + 1)⟩
    have := (List.mem_range'_1.mp h).1
    omega
theorem wl_new {g : evG} {A : Nat → Prop} {H0 H H1 : Heap} {wr wc w1 : va_W} {locs locs1 : List Loc} (w : wl g A H0 (wr ++ wc) H locs) (hA : ∀ q : Nat, H0.size ≤ q → A q)
    (hP1 : va_P g.1 vwCl w1 H1) (hD1 : va_D (va_A wc H.size) w1) (hk : ∀ q : Nat, q < H.size → ¬ va_A wc H.size q → H1[q]? = H[q]?) (hS1 : va_S A H0 H1 locs1) : wl g A H0 (wr ++ w1) H1 locs1 := by
  have hF := va_free w.2.1 w.2.2 hA _ (seg_r wr wc)
  obtain ⟨h1, h2⟩ := va_join (wr := wr) (w1 := w1) w.1 w.2.1 _ _ (seg_r wr wc) (seg_l wr wc) (nd_range _ _) (fun i hi hj => by
    have h3 := (List.mem_range'_1.mp hi).2
    have h4 := (List.mem_range'_1.mp hj).1
    omega) hk hF hP1 hD1
  exact ⟨h1, h2, hS1⟩
section ROWS3
variable {l : Launch} {g : evG} {p : Program} {e : Env} {R : Room} {s : State} {m : MethodId} {args : Array Value} {below : List Frame} {meth : Method} {c : Code} {own : String} {cc : ByteArray} {nL : Nat} {ret : Option FieldType} {A : Nat → Prop}
variable {ws : va_W} {H : Heap} {locs : List Loc} {cells slots : Nat} {Q : State → Prop} {pc : Nat} {ls : Array Slot} {rest st : List Value}
theorem r_objInit (C : ctx g p s m args meth c own cc nL ret A) (hsz : ls.size = nL) {idx : Nat} (hl : Cond.methodLink own idx objectInit ∈ bw) (hin : Cond.instanceMethod objectInit ∈ bw) (hcd : Cond.code objectInit ⟨#[0xb1]⟩ 1 none ∈ bw) {a : Nat} (hdg : decode cc pc = .ok (.invokespecial idx, 3)) (hframes : 1 ≤ R.frames) (hlocals : 2 * (F0 m pc ls (.ref a :: rest)).monitorRoom + (rest.map fun v => v.category).sum + 12 ≤ R.locals)
    (kk : W p l e R s m args below meth c H locs cells slots Q (F0 m (pc + 3) ls rest)) : W p l e R s m args below meth c H locs cells slots Q (F0 m pc ls (.ref a :: rest)) := by
  obtain ⟨hx, hb, hml, hown, hts, -⟩ := C
  refine W.objInit hx hb hown (hts _ hl) (hts _ hin) (hts _ hcd) rfl (hsz.trans hml.symm) rfl hdg hframes hlocals kk
theorem r_newI (C : ctx g p s m args meth c own cc nL ret A) (w : wl g A s.heap ws H locs) {n : Int32} {N : Nat} (hac : Cond.arrayClass .int ∈ bw) (hn : ¬ n < 0) (hN : n.toNatClampNeg = N) (hbytes : N * componentBytes .int ≤ 536870912) (hcells : cells + 1 ≤ R.cells) (hslots : slots + N ≤ R.slots) (hdg : decode cc pc = .ok (.newarray .int, 2))
    (kk : ∀ (q : Nat) (H1 : Heap), wl g A s.heap (ws ++ [(q, .inl (gI g, N, .inl (fun _ => 0)))]) H1 locs → W p l e R s m args below meth c H1 locs (cells + 1) (slots + N) Q (F0 m (pc + 2) ls (.ref q :: rest))) : W p l e R s m args below meth c H locs cells slots Q (F0 m pc ls (.int n :: rest)) := by
  obtain ⟨hx, hb, hml, hown, hts, hlk, hr, hK, hA, hN2, hE⟩ := C
  refine va_newa (atype := .int) (ty := .int) (N' := N) (a0 := (N, .inl (fun _ => 0))) hx hb (hts _ hac) rfl hK w.1 w.2.1 w.2.2 hA (fun cA => rfl) hn hN hbytes hcells hslots hdg (fun q cA H1 hK1 hP1 hD1 hS1 => ?_)
  have e1 : cA = gI g := by
    have h1 := (hK1.2 3 (cA, .int) rfl).2
    have h2 := (hK.2 0 (gI g, .int) rfl).2
    have h1 : s.vm.findClass _ = some cA := h1
    have h2 : s.vm.findClass _ = some (gI g) := h2
    exact Option.some.inj (h1.symm.trans h2)
  subst e1
  exact kk q H1 ⟨hP1, hD1, hS1⟩
theorem r_newZ (C : ctx g p s m args meth c own cc nL ret A) (w : wl g A s.heap ws H locs) {n : Int32} {N : Nat} (hac : Cond.arrayClass .boolean ∈ bw) (hn : ¬ n < 0) (hN : n.toNatClampNeg = N) (hbytes : N * componentBytes .boolean ≤ 536870912) (hcells : cells + 1 ≤ R.cells) (hslots : slots + N ≤ R.slots) (hdg : decode cc pc = .ok (.newarray .boolean, 2))
    (kk : ∀ (q : Nat) (H1 : Heap), wl g A s.heap (ws ++ [(q, .inl (gZ g, N, .inl (fun _ => 0)))]) H1 locs → W p l e R s m args below meth c H1 locs (cells + 1) (slots + N) Q (F0 m (pc + 2) ls (.ref q :: rest))) : W p l e R s m args below meth c H locs cells slots Q (F0 m pc ls (.int n :: rest)) := by
  obtain ⟨hx, hb, hml, hown, hts, hlk, hr, hK, hA, hN2, hE⟩ := C
  refine va_newa (atype := .boolean) (ty := .boolean) (N' := N) (a0 := (N, .inl (fun _ => 0))) hx hb (hts _ hac) rfl hK w.1 w.2.1 w.2.2 hA (fun cA => rfl) hn hN hbytes hcells hslots hdg (fun q cA H1 hK1 hP1 hD1 hS1 => ?_)
  have e1 : cA = gZ g := by
    have h1 := (hK1.2 3 (cA, .boolean) rfl).2
    have h2 := (hK.2 1 (gZ g, .boolean) rfl).2
    have h1 : s.vm.findClass _ = some cA := h1
    have h2 : s.vm.findClass _ = some (gZ g) := h2
    exact Option.some.inj (h1.symm.trans h2)
  subst e1
  exact kk q H1 ⟨hP1, hD1, hS1⟩
theorem r_newO (C : ctx g p s m args meth c own cc nL ret A) (w : wl g A s.heap ws H locs) {index : Nat} (hcl : Cond.classLink own index "EvenDays$Days" ∈ bw) (hao : va_AO "EvenDays$Days" s) {n : Int32} {N : Nat} (hn : ¬ n < 0) (hN : n.toNatClampNeg = N) (hbytes : N * 4 ≤ 536870912) (hcells : cells + 1 ≤ R.cells) (hslots : slots + N ≤ R.slots) (hdg : decode cc pc = .ok (.anewarray index, 3))
    (kk : ∀ (q : Nat) (H1 : Heap), wl g A s.heap (ws ++ [(q, .inl (gO g, N, .inr (.inr (.inr (.inr (fun _ => none))))))]) H1 locs → W p l e R s m args below meth c H1 locs (cells + 1) (slots + N) Q (F0 m (pc + 3) ls (.ref q :: rest))) : W p l e R s m args below meth c H locs cells slots Q (F0 m pc ls (.int n :: rest)) := by
  obtain ⟨hx, hb, hml, hown, hts, hlk, hr, hK, hA, hN2, hE⟩ := C
  refine va_newq hx hb hown (hts _ hcl) hao hK w.1 w.2.1 w.2.2 hA hn hN hbytes hcells hslots hdg (fun q cA H1 hK1 hP1 hD1 hS1 => ?_)
  have e1 : cA = gO g := by
    obtain ⟨kA, comp, h1, h2, h3, h4⟩ := (hK1.2 3 (cA, .object "EvenDays$Days") rfl).2
    obtain ⟨kA2, comp2, g1, g2, g3, g4⟩ := (hK.2 2 (gO g, .object "EvenDays$Days") rfl).2
    exact Option.some.inj (h4.symm.trans g4)
  subst e1
  exact kk q H1 ⟨hP1, hD1, hS1⟩
theorem r_newOb (C : ctx g p s m args meth c own cc nL ret A) (w : wl g A s.heap ws H locs) {index ci N : Nat} {Cn : String} {T : u_T} {ty0 : Nat → FieldType} (cf : clF ci Cn T N ty0) (hcl : Cond.classLink own index Cn ∈ bw) (hinst : Cond.instantiable Cn N ∈ bw) (hini : Cond.initialized Cn ∈ bw) {fs : List Value} (hfs : ∀ j, j < N → defaultValue (ty0 j) = vp_V fs j) (hcells : cells + 1 ≤ R.cells) (hslots : slots + N ≤ R.slots) (hdg : decode cc pc = .ok (.new index, 3))
    (kk : ∀ (q : Nat) (H1 : Heap), wl g A s.heap (ws ++ [(q, .inr (ci, fs))]) H1 locs → W p l e R s m args below meth c H1 locs (cells + 1) (slots + N) Q (F0 m (pc + 3) ls (.ref q :: rest))) : W p l e R s m args below meth c H locs cells slots Q (F0 m pc ls rest) := by
  obtain ⟨hx, hb, hml, hown, hts, hlk, hr, hK, hA, hN2, hE⟩ := C
  exact va_new hx hb hts cf.2.1 ty0 cf.2.2.1 hown (hts _ hcl) (hts _ hinst) (hts _ hini) hK w.1 w.2.1 w.2.2 hA cf.1 hfs hcells hslots hdg (fun q H1 hP hD hS => kk q H1 ⟨hP, hD, hS⟩)
theorem r_putR (C : ctx g p s m args meth c own cc nL ret A) (w : wl g A s.heap ws H locs) (q0 : Nat) {a ci N : Nat} {Cn : String} {T : u_T} {ty0 : Nat → FieldType} {fs : List Value} (he : ws[q0]? = some (a, .inr (ci, fs))) (cf : clF ci Cn T N ty0) (k : Nat) (hk : k < N) {index : Nat} (hl : Cond.fieldLink own index (T k).1 (T k).2.1 (T k).2.2.1 ∈ bw) {v : Nat} (hf : (T k).2.2.2 = true) (hin : meth.name = "<init>") (hdecl : (T k).1 = own) (hn : narrow (ty0 k) (.ref v) = .ref v) (hfit : fits (ty0 k) (.ref v) = true) (hk2 : k < fs.length) {ws' : va_W} (e1 : ws.set q0 (a, .inr (ci, fs.set k (.ref v))) = ws') (hdg : decode cc pc = .ok (.putfield index, 3))
    (kk : ∀ (H1 : Heap) (locs1 : List Loc), wl g A s.heap ws' H1 locs1 → W p l e R s m args below meth c H1 locs1 cells slots Q (F0 m (pc + 3) ls rest)) : W p l e R s m args below meth c H locs cells slots Q (F0 m pc ls (.ref v :: .ref a :: rest)) := by
  obtain ⟨hx, hb, hml, hown, hts, hlk, hr, hK, hA, hN, hE⟩ := C
  exact va_putF hx hb hts cf.2.1 ty0 cf.2.2.1 cf.2.2.2 hown hK w.1 w.2.1 w.2.2 q0 he cf.1 k hk (hts _ hl) (fun _ h => h) hf hin hdecl (cf.2.2.1 k hk) hn hfit hk2 hdg (fun H1 locs1 hP hD hS => kk H1 locs1 (e1 ▸ ⟨hP, hD, hS⟩))
theorem r_astO (C : ctx g p s m args meth c own cc nL ret A) (w : wl g A s.heap ws H locs) (q0 qk : Nat) {a n v : Nat} {vs : List Value} {f : Nat → Option Nat} (ha : ws[q0]? = some (a, .inl (gO g, n, .inr (.inr (.inr (.inr f)))))) (hv : ws[qk]? = some (v, .inr (0, vs))) {i : Int32} (hin : ix i n) {ws' : va_W} (e1 : ws.set q0 (a, .inl (gO g, n, .inr (.inr (.inr (.inr (va_up f i.toNatClampNeg (some v))))))) = ws') (hdg : decode cc pc = .ok (.aastore, 1))
    (kk : ∀ (H1 : Heap) (locs1 : List Loc), wl g A s.heap ws' H1 locs1 → W p l e R s m args below meth c H1 locs1 cells slots Q (F0 m (pc + 1) ls rest)) : W p l e R s m args below meth c H locs cells slots Q (F0 m pc ls (.ref v :: .int i :: .ref a :: rest)) := by
  obtain ⟨hx, hb, hml, hown, hts, hlk, hr, hK, hA, hN, hE⟩ := C
  exact va_astq hx hb hK w.1 w.2.1 w.2.2 q0 2 qk 0 (r := (RX0, TX0, 6)) ha rfl hv rfl hin hdg (fun H1 locs1 hP hD hS => kk H1 locs1 (e1 ▸ ⟨hP, hD, hS⟩))
/-- of a constructor that is called -/
def mdI (y : MethodName) (cw : Cond) (bytes : ByteArray) (maxL : Nat) (n : Nat) : Prop := cw = Cond.code y bytes maxL none ∧ (y.cls ≠ "java/lang/invoke/MethodHandle" ∧ y.cls ≠ "java/lang/invoke/VarHandle" ∧ (parseMethodDescriptor y.desc).map (fun d => d.parameters.length) = some n) ∧ Cond.instanceMethod y ∈ bw ∧ Cond.initialized y.cls ∈ bw ∧ cw ∈ bw
theorem r_callC {S : Type} {post : S → Prop} {K : S → va_W} {wr wc : va_W} (C : ctx g p s m args meth c own cc nL ret A) (w : wl g A s.heap (wr ++ wc) H locs) {y : MethodName} {cw : Cond} {bytes : ByteArray} {maxL n fr lo mc ms : Nat} {b : Nat} {As : List Value}
    (hM : CN l g y cw fr mc ms lo (.ref b :: As) wc post K) (md : mdI y cw bytes maxL n) (hy : y.name = "<init>") {index : Nat} (hl : Cond.methodLink own index y ∈ bw)
    (hR : fr + 1 ≤ R.frames ∧ 8 + (maxL + 11) + lo ≤ R.locals) (hcs : cells + mc ≤ R.cells ∧ slots + ms ≤ R.slots) (hsz : ls.size = nL) (hAs : As.length = n) (hst : st = As.reverse ++ .ref b :: rest) (hrm : (rest.map fun v => v.category).sum ≤ 8) (hdg : decode cc pc = .ok (.invokespecial index, 3))
    (kk : ∀ (u : S) (H1 : Heap) (locs1 : List Loc), post u → wl g A s.heap (wr ++ K u) H1 locs1 → W p l e R s m args below meth c H1 locs1 (cells + mc) (slots + ms) Q (F0 m (pc + 3) ls rest)) : W p l e R s m args below meth c H locs cells slots Q (F0 m pc ls st) := by
  obtain ⟨hx, hb, hml, hown, hts, hlk, hr, hK, hA, hN, hE⟩ := id C
  obtain ⟨hcw, hd, hin, hini, hcd⟩ := md
  have hC := seg_r wr wc
  have hF := va_free w.2.1 w.2.2 hA _ hC
  refine va_callv (va_runI (As := As) (rest := rest) (n := n) (maxL := maxL) (bytes := bytes) ⟨hx, hb, hml, hown, hts⟩ (hM H.size) ⟨⟨rfl, rfl, hR.1, hR.2, pay_in hts (fun v hv => ?_), by rw [hcw]; exact List.mem_cons_self, by rw [← hcw]; exact hts _ hcd, hts _ hini, ⟨hd.1, hd.2.1⟩, fun sig h => ?_, hts _ hl⟩, hy, hts _ hin⟩ ⟨ctB_blind, r_pre C w hC (nd_range _ _)⟩ rfl hAs hsz hst (lv_room hrm) hdg hcs) w.2.2 (fun q _ h => hF q h) hF (fun u t H1 locs1 ht hvm hw hB hz1 hk1 hS => ?_)
  · have h1 := bw_gi (c := cw) (bw_c hcd) v hv
    exact ⟨bw_c hcd v hv, h1.2⟩
  · have h2 := hd.2.2
    rw [h] at h2
    exact (Option.some.inj h2).symm
  · rw [ht] at hB
    exact kk u H1 locs1 hw (wl_new w hA hB.1 hB.2 hk1 hS)
theorem r_callCN {S : Type} {post : S → Prop} {K : S → va_W} {wr wc : va_W} (C : ctx g p s m args meth c own cc nL ret A) (w : wl g A s.heap (wr ++ wc) H locs) {y : MethodName} {cw : Cond} {bytes : ByteArray} {maxL n fr lo mc ms : Nat} {b : Nat} {As : List Value}
    (hM : CN l g y cw fr mc ms lo (.ref b :: As) wc post K) (md : mdI y cw bytes maxL n) (hy : y.name = "<init>") {index : Nat} {host : String} (hl : Cond.methodLinkNest own index y host ∈ ev_nw)
    (hR : fr + 1 ≤ R.frames ∧ 8 + (maxL + 11) + lo ≤ R.locals) (hcs : cells + mc ≤ R.cells ∧ slots + ms ≤ R.slots) (hsz : ls.size = nL) (hAs : As.length = n) (hst : st = As.reverse ++ .ref b :: rest) (hrm : (rest.map fun v => v.category).sum ≤ 8) (hdg : decode cc pc = .ok (.invokespecial index, 3))
    (kk : ∀ (u : S) (H1 : Heap) (locs1 : List Loc), post u → wl g A s.heap (wr ++ K u) H1 locs1 → W p l e R s m args below meth c H1 locs1 (cells + mc) (slots + ms) Q (F0 m (pc + 3) ls rest)) : W p l e R s m args below meth c H locs cells slots Q (F0 m pc ls st) := by
  obtain ⟨hx, hb, hml, hown, hts, hlk, hr, hK, hA, hN, hE⟩ := id C
  obtain ⟨hcw, hd, hin, hini, hcd⟩ := md
  have hC := seg_r wr wc
  have hF := va_free w.2.1 w.2.2 hA _ hC
  refine va_callv (va_runIN (As := As) (rest := rest) (n := n) (maxL := maxL) (bytes := bytes) ⟨hx, hb, hml, hown, hts⟩ (hM H.size) ⟨⟨⟨rfl, rfl, hR.1, hR.2, pay_in hts (fun v hv => ?_), by rw [hcw]; exact List.mem_cons_self⟩, by rw [← hcw]; exact hts _ hcd, hts _ hini, ⟨hd.1, hd.2.1⟩, fun sig h => ?_, va_Nw.use rfl (hN.1 _ hl)⟩, hy, hts _ hin⟩ ⟨ctB_blind, r_pre C w hC (nd_range _ _)⟩ rfl hAs hsz hst (lv_room hrm) hdg hcs) w.2.2 (fun q _ h => hF q h) hF (fun u t H1 locs1 ht hvm hw hB hz1 hk1 hS => ?_)
  · have h1 := bw_gi (c := cw) (bw_c hcd) v hv
    exact ⟨bw_c hcd v hv, h1.2⟩
  · have h2 := hd.2.2
    rw [h] at h2
    exact (Option.some.inj h2).symm
  · rw [ht] at hB
    exact kk u H1 locs1 hw (wl_new w hA hB.1 hB.2 hk1 hS)
abbrev Qn {S : Type} (g : evG) (A : Nat → Prop) (post : S → Prop) (K : S → va_W) : Array Value → State → Outcome → State → Prop := va_Qv post (fun u t => va_P g.1 vwCl (K u) t.heap ∧ va_D A (K u)) A
theorem r_cret {S : Type} {post : S → Prop} {K : S → va_W} (C : ctx g p s m args meth c own cc nL none A) (u : S) (w : wl g A s.heap (K u) H locs) (hp : post u) (hdg : decode cc pc = .ok (.return_, 1)) : W p l e R s m args below meth c H locs cells slots (MQ below (Qn g A post K) args s cells slots A) (F0 m pc ls []) := by
  obtain ⟨hx, hb, hml, hown, hts, hlk, hr, hK, hA, hN, hE⟩ := C
  exact W.vret hx hb hr (fun t ht hW => ⟨⟨u, rfl, hp, by show va_P g.1 vwCl (K u) t.heap; rw [ht]; exact w.1, w.2.1⟩, w.2.2.F ht⟩) w.2.2.2.2 hdg
end ROWS3
theorem ct_n {S : Type} {post : S → Prop} {K : S → va_W} {l : Launch} {g : evG} {y : MethodName} {cc : ByteArray} {maxL fr mc ms lo : Nat} {As : List Value} {ws : va_W} (hy : plainName y.cls = true) (hyi : y.name = "<init>") (hln : (lg_sl As).length ≤ maxL)
    (k : ∀ (p : Program) (e : Env) (s : State) (m : MethodId) (args : Array Value) (below : List Frame) (meth : Method) (c : Code) (A : Nat → Prop) (ls : Array Slot), ctx g p s m args meth c y.cls cc maxL none A → meth.name = "<init>" → wl g A s.heap ws s.heap [] → lv_has ls maxL (lv_args 0 As) → W p l e { frames := fr, cells := mc, slots := ms, locals := lo } s m args below meth c s.heap [] 0 0 (MQ below (Qn g A post K) args s mc ms A) (F0 m 0 ls [])) : CN l g y (Cond.code y cc maxL none) fr mc ms lo As ws post K := by
  intro sz
  refine Met.ofW (cc := cc) (maxL := maxL) (ret := none) hy rfl ?_
  intro p e s m args below meth c s₁ B hml hv
  obtain ⟨rfl, hsz, hP, hK, hD0, hN, hE⟩ := hv
  subst hsz
  have hts := atoms_spec (ws := Cond.code y cc maxL none :: bw) B.pre
  have hown : s.vm.findClass y.cls = some m.cls := findClass_of_methodNamed B.named
  have hl := lv_entry As (n := maxL) hln
  rw [lg_entry_eq]
  exact k p e s m _ below meth c (va_A ws s.heap.size) _ ⟨B.exec, B.bytes, hml, hown, fun w hw => hts w (List.mem_cons_of_mem _ hw), B.notSynchronized, B.returns, hK, fun q h => Or.inr h, hN, hE⟩ ((name_of_methodNamed B.named B.method).1.trans hyi) ⟨hP, hD0.self, va_S.rf⟩ hl
