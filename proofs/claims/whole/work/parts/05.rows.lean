theorem putAt_spec : ∀ (is : List Nat) (qs ws : va_W), is.length = qs.length → va_nd is = true → ∀ (k : Nat) (q : Nat × va_E), (putAt ws is qs)[k]? = some q → (k ∉ is ∧ ws[k]? = some q) ∨ ∃ j : Nat, is[j]? = some k ∧ qs[j]? = some q
  | [], [], ws, _, _, k, q, h => Or.inl ⟨List.not_mem_nil, h⟩
  | [], _ :: _, _, hl, _, _, _, _ => by simp at hl
  | _ :: _, [], _, hl, _, _, _, _ => by simp at hl
  | i :: is, q0 :: qs, ws, hl, hn, k, q, h => by
    simp only [va_nd, Bool.and_eq_true, decide_eq_true_eq] at hn
    rcases putAt_spec is qs (ws.set i q0) (by simpa using hl) hn.2 k q h with ⟨h1, h2⟩ | ⟨j, h1, h2⟩
    · by_cases hk : i = k
      · subst hk
        have hlt : i < ws.length := by
          have := (List.getElem?_eq_some_iff.mp h2).1
          simpa using this
        rw [List.getElem?_set_self hlt] at h2
        exact Or.inr ⟨0, rfl, h2⟩
      · rw [List.getElem?_set_ne hk] at h2
        exact Or.inl ⟨fun hm => (List.mem_cons.mp hm).elim (fun e => hk e.symm) h1, h2⟩
    · exact Or.inr ⟨j + 1, h1, h2⟩
theorem map_at {ws wc : va_W} {is : List Nat} (hC : is.map (fun i => ws[i]?) = wc.map some) {k : Nat} {q : Nat × va_E} (h : wc[k]? = some q) : ∃ i, is[k]? = some i ∧ ws[i]? = some q := by
  have h1 : (is.map (fun i => ws[i]?))[k]? = some (some q) := by rw [hC, List.getElem?_map, h]; rfl
  rw [List.getElem?_map] at h1
  cases hi : is[k]? with
  | none => rw [hi] at h1; cases h1
  | some i => rw [hi] at h1; exact ⟨i, rfl, Option.some.inj h1⟩
theorem map_ta {ws wc : va_W} {is : List Nat} (hC : is.map (fun i => ws[i]?) = wc.map some) {k i : Nat} (h : is[k]? = some i) : ∃ q, wc[k]? = some q ∧ ws[i]? = some q := by
  have h1 : (is.map (fun i => ws[i]?))[k]? = some (ws[i]?) := by rw [List.getElem?_map, h]; rfl
  rw [hC, List.getElem?_map] at h1
  cases hi : wc[k]? with
  | none => rw [hi] at h1; cases h1
  | some q => rw [hi] at h1; exact ⟨q, rfl, (Option.some.inj h1).symm⟩
theorem wl_P {D : va_G} {cl : List vw_C} {ws wc : va_W} {H : Heap} {is : List Nat} (hP : va_P D cl ws H) (hC : is.map (fun i => ws[i]?) = wc.map some) : va_P D cl wc H := fun k q hk => by
  obtain ⟨i, _, h⟩ := map_at hC hk
  exact hP i q h
theorem fst_at {wc wc' : va_W} (ha : wc'.map Prod.fst = wc.map Prod.fst) {j : Nat} {q : Nat × va_E} (h : wc'[j]? = some q) {q2 : Nat × va_E} (h2 : wc[j]? = some q2) : q2.1 = q.1 := by
  have h3 : (wc'.map Prod.fst)[j]? = some q.1 := by rw [List.getElem?_map, h]; rfl
  rw [ha, List.getElem?_map, h2] at h3
  exact Option.some.inj h3
theorem wl_call {g : evG} {A : Nat → Prop} {H0 H H1 : Heap} {ws wc wc' : va_W} {locs locs1 : List Loc} {is : List Nat} (w : wl g A H0 ws H locs) (hC : is.map (fun i => ws[i]?) = wc.map some) (hn : va_nd is = true) (ha : wc'.map Prod.fst = wc.map Prod.fst)
    (hP1 : va_P g.1 vwCl wc' H1) (hk : ∀ q : Nat, q < H.size → ¬ va_A wc H.size q → H1[q]? = H[q]?) (hS1 : va_S A H0 H1 locs1) : wl g A H0 (putAt ws is wc') H1 locs1 := by
  obtain ⟨hP, hD, _⟩ := w
  have hlen : is.length = wc'.length := by
    have h1 := congrArg List.length hC
    have h2 := congrArg List.length ha
    simp only [List.length_map] at h1 h2
    omega
  have key : ∀ (k : Nat) (q : Nat × va_E), (putAt ws is wc')[k]? = some q → ∃ q2, ws[k]? = some q2 ∧ q2.1 = q.1 := by
    intro k q h
    rcases putAt_spec is wc' ws hlen hn k q h with ⟨_, h2⟩ | ⟨j, h1, h2⟩
    · exact ⟨q, h2, rfl⟩
    · obtain ⟨q2, h3, h4⟩ := map_ta hC h1
      exact ⟨q2, h4, fst_at ha h2 h3⟩
  refine ⟨fun k q h => ?_, ⟨fun i j x y hi hj hxy => ?_, fun k q h => ?_⟩, hS1⟩
  · rcases putAt_spec is wc' ws hlen hn k q h with ⟨h1, h2⟩ | ⟨j, h1, h2⟩
    · have hl := (hP k q h2).lt
      refine (hP k q h2).kept (hk q.1 hl fun hA => ?_)
      rcases hA with ⟨k2, e, h3⟩ | h3
      · obtain ⟨i, h4, h5⟩ := map_at hC h3
        have := hD.1 k i q (q.1, e) h2 h5 rfl
        subst this
        exact h1 (List.mem_of_getElem? h4)
      · omega
    · exact hP1 j q h2
  · obtain ⟨x2, h1, h2⟩ := key i x hi
    obtain ⟨y2, h3, h4⟩ := key j y hj
    exact hD.1 i j x2 y2 h1 h3 (h2.trans (hxy.trans h4.symm))
  · obtain ⟨q2, h1, h2⟩ := key k q h
    rw [← h2]
    exact hD.2 k q2 h1
/-- of a class: its row in the list of classes, its fields' words, types, names -/
def clF (ci : Nat) (Cn : String) (T : u_T) (N : Nat) (ty0 : Nat → FieldType) : Prop := vwCl[ci]? = some (Cn, T, N) ∧ (∀ w ∈ u_ws Cn T N, w ∈ bw) ∧ (∀ k, k < N → parseFieldDescriptor (T k).2.2.1 = some (ty0 k)) ∧ ∀ a, a < N → ∀ b, b < N → a ≠ b → (T a).2.1 ≠ (T b).2.1
/-- of a method that is called: its code, its head, its words -/
def mdV (y : MethodName) (cw : Cond) (bytes : ByteArray) (maxL : Nat) (rt : Option FieldType) (n : Nat) : Prop := cw = Cond.code y bytes maxL rt ∧ (y.cls ≠ "java/lang/invoke/MethodHandle" ∧ y.cls ≠ "java/lang/invoke/VarHandle" ∧ (parseMethodDescriptor y.desc).map (fun d => d.parameters.length) = some n) ∧ Cond.instanceMethod y ∈ bw ∧ Cond.selects y.cls y y ∈ bw ∧ Cond.initialized y.cls ∈ bw ∧ cw ∈ bw
def mdS (y : MethodName) (cw : Cond) (bytes : ByteArray) (maxL : Nat) (rt : Option FieldType) (n : Nat) : Prop := cw = Cond.code y bytes maxL rt ∧ (y.cls ≠ "java/lang/invoke/MethodHandle" ∧ y.cls ≠ "java/lang/invoke/VarHandle" ∧ (parseMethodDescriptor y.desc).map (fun d => d.parameters.length) = some n) ∧ Cond.static y ∈ bw ∧ Cond.initialized y.cls ∈ bw ∧ cw ∈ bw
section ROWS
variable {l : Launch} {g : evG} {p : Program} {e : Env} {R : Room} {s : State} {m : MethodId} {args : Array Value} {below : List Frame} {meth : Method} {c : Code} {own : String} {cc : ByteArray} {nL : Nat} {ret : Option FieldType} {A : Nat → Prop}
variable {ws : va_W} {H : Heap} {locs : List Loc} {cells slots : Nat} {Q : State → Prop} {pc : Nat} {ls : Array Slot} {rest st : List Value}
theorem r_pre (C : ctx g p s m args meth c own cc nL ret A) (w : wl g A s.heap ws H locs) {wc : va_W} {is : List Nat} (hC : is.map (fun i => ws[i]?) = wc.map some) (hn : va_nd is = true) {As : List Value} : ∀ U : State, U.heap = H → s.WarmedH U.vm → va_Pc As (ctB g wc H.size) As.toArray U := by
  intro U hU hW
  obtain ⟨hx, hb, hml, hown, hts, hlk, hr, hK, hA, hN, hE⟩ := C
  have hF := va_free w.2.1 w.2.2 hA is hC
  exact ⟨rfl, by rw [hU], by rw [hU]; exact wl_P w.1 hC, va_K.moved hW.alike hK, (va_D.sub w.2.1 is hn hC).weaken (fun _ _ _ _ => trivial), ev_N_warm hW hN, ev_S_call hE w.2.2 hW hU hF⟩
theorem r_callVi (C : ctx g p s m args meth c own cc nL ret A) (w : wl g A s.heap ws H locs) {y : MethodName} {cw : Cond} {bytes : ByteArray} {maxL n fr lo : Nat} {rt : Option FieldType} {b : Nat} {As : List Value} {wc wc' : va_W} {r : Int32}
    (hM : CTi l g y cw fr lo (.ref b :: As) wc wc' r) (md : mdV y cw bytes maxL rt n) (is : List Nat) (hC : is.map (fun i => ws[i]?) = wc.map some) (hn : va_nd is = true) (ha : wc'.map Prod.fst = wc.map Prod.fst) {index : Nat} (hl : Cond.methodLink own index y ∈ bw)
    (q0 : Nat) {ci : Nat} {fs : List Value} (hrv : ws[q0]? = some (b, .inr (ci, fs))) {T : u_T} {N : Nat} (hcl : vwCl[ci]? = some (y.cls, T, N)) (hR : fr + 1 ≤ R.frames ∧ 8 + (maxL + 11) + lo ≤ R.locals) (hcs : cells ≤ R.cells ∧ slots ≤ R.slots) (hsz : ls.size = nL) (hAs : As.length = n) (hst : st = As.reverse ++ .ref b :: rest) (hrm : (rest.map fun v => v.category).sum ≤ 8) (hdg : decode cc pc = .ok (.invokevirtual index, 3))
    (kk : ∀ (H1 : Heap) (locs1 : List Loc), wl g A s.heap (putAt ws is wc') H1 locs1 → W p l e R s m args below meth c H1 locs1 cells slots Q (F0 m (pc + 3) ls (.int r :: rest))) : W p l e R s m args below meth c H locs cells slots Q (F0 m pc ls st) := by
  obtain ⟨hx, hb, hml, hown, hts, hlk, hr, hK, hA, hN, hE⟩ := id C
  obtain ⟨hcw, hd, hin, hse, hini, hcd⟩ := md
  have hF := va_free w.2.1 w.2.2 hA is hC
  refine va_calli (va_runV (As := As) (rest := rest) (n := n) (maxL := maxL) (ret := rt) (bytes := bytes) ⟨hx, hb, hml, hown, hts⟩ (hM H.size) ⟨⟨rfl, rfl, hR.1, hR.2, pay_in hts (fun v hv => ?_), by rw [hcw]; exact List.mem_cons_self, by rw [← hcw]; exact hts _ hcd, hts _ hini, ⟨hd.1, hd.2.1⟩, fun sig h => ?_, hts _ hl⟩, hts _ hin, hts _ hse⟩ ⟨ctB_blind, va_recv hK w.1 hcl hrv, r_pre C w hC hn⟩ rfl hAs hsz hst (lv_room hrm) hdg hcs) w.2.2 (fun q _ h => hF q h) hF (fun r_1 u t H1 locs1 ht hvm hw hB hz1 hk1 hS => ?_)
  · have h1 := bw_gi (c := cw) (bw_c hcd) v hv
    exact ⟨bw_c hcd v hv, h1.2⟩
  · have h2 := hd.2.2
    rw [h] at h2
    exact (Option.some.inj h2).symm
  · have hw : r_1 = r := hw
    subst hw
    rw [ht] at hB
    exact kk H1 locs1 (wl_call w hC hn ha hB hk1 hS)
theorem r_callVv (C : ctx g p s m args meth c own cc nL ret A) (w : wl g A s.heap ws H locs) {y : MethodName} {cw : Cond} {bytes : ByteArray} {maxL n fr lo : Nat} {rt : Option FieldType} {b : Nat} {As : List Value} {wc wc' : va_W}
    (hM : CTv l g y cw fr lo (.ref b :: As) wc wc') (md : mdV y cw bytes maxL rt n) (is : List Nat) (hC : is.map (fun i => ws[i]?) = wc.map some) (hn : va_nd is = true) (ha : wc'.map Prod.fst = wc.map Prod.fst) {index : Nat} (hl : Cond.methodLink own index y ∈ bw)
    (q0 : Nat) {ci : Nat} {fs : List Value} (hrv : ws[q0]? = some (b, .inr (ci, fs))) {T : u_T} {N : Nat} (hcl : vwCl[ci]? = some (y.cls, T, N)) (hR : fr + 1 ≤ R.frames ∧ 8 + (maxL + 11) + lo ≤ R.locals) (hcs : cells ≤ R.cells ∧ slots ≤ R.slots) (hsz : ls.size = nL) (hAs : As.length = n) (hst : st = As.reverse ++ .ref b :: rest) (hrm : (rest.map fun v => v.category).sum ≤ 8) (hdg : decode cc pc = .ok (.invokevirtual index, 3))
    (kk : ∀ (H1 : Heap) (locs1 : List Loc), wl g A s.heap (putAt ws is wc') H1 locs1 → W p l e R s m args below meth c H1 locs1 cells slots Q (F0 m (pc + 3) ls rest)) : W p l e R s m args below meth c H locs cells slots Q (F0 m pc ls st) := by
  obtain ⟨hx, hb, hml, hown, hts, hlk, hr, hK, hA, hN, hE⟩ := id C
  obtain ⟨hcw, hd, hin, hse, hini, hcd⟩ := md
  have hF := va_free w.2.1 w.2.2 hA is hC
  refine va_callv (va_runV (As := As) (rest := rest) (n := n) (maxL := maxL) (ret := rt) (bytes := bytes) ⟨hx, hb, hml, hown, hts⟩ (hM H.size) ⟨⟨rfl, rfl, hR.1, hR.2, pay_in hts (fun v hv => ?_), by rw [hcw]; exact List.mem_cons_self, by rw [← hcw]; exact hts _ hcd, hts _ hini, ⟨hd.1, hd.2.1⟩, fun sig h => ?_, hts _ hl⟩, hts _ hin, hts _ hse⟩ ⟨ctB_blind, va_recv hK w.1 hcl hrv, r_pre C w hC hn⟩ rfl hAs hsz hst (lv_room hrm) hdg hcs) w.2.2 (fun q _ h => hF q h) hF (fun u t H1 locs1 ht hvm hw hB hz1 hk1 hS => ?_)
  · have h1 := bw_gi (c := cw) (bw_c hcd) v hv
    exact ⟨bw_c hcd v hv, h1.2⟩
  · have h2 := hd.2.2
    rw [h] at h2
    exact (Option.some.inj h2).symm
  · rw [ht] at hB
    exact kk H1 locs1 (wl_call w hC hn ha hB hk1 hS)
theorem r_callSi (C : ctx g p s m args meth c own cc nL ret A) (w : wl g A s.heap ws H locs) {y : MethodName} {cw : Cond} {bytes : ByteArray} {maxL n fr lo : Nat} {rt : Option FieldType} {As : List Value} {wc wc' : va_W} {r : Int32}
    (hM : CTi l g y cw fr lo As wc wc' r) (md : mdS y cw bytes maxL rt n) (is : List Nat) (hC : is.map (fun i => ws[i]?) = wc.map some) (hn : va_nd is = true) (ha : wc'.map Prod.fst = wc.map Prod.fst) {index : Nat} (hl : Cond.methodLink own index y ∈ bw)
    (hR : fr + 1 ≤ R.frames ∧ 8 + (maxL + 11) + lo ≤ R.locals) (hcs : cells ≤ R.cells ∧ slots ≤ R.slots) (hsz : ls.size = nL) (hAs : As.length = n) (hst : st = As.reverse ++ rest) (hrm : (rest.map fun v => v.category).sum ≤ 8) (hdg : decode cc pc = .ok (.invokestatic index, 3))
    (kk : ∀ (H1 : Heap) (locs1 : List Loc), wl g A s.heap (putAt ws is wc') H1 locs1 → W p l e R s m args below meth c H1 locs1 cells slots Q (F0 m (pc + 3) ls (.int r :: rest))) : W p l e R s m args below meth c H locs cells slots Q (F0 m pc ls st) := by
  obtain ⟨hx, hb, hml, hown, hts, hlk, hr, hK, hA, hN, hE⟩ := id C
  obtain ⟨hcw, hd, hin, hini, hcd⟩ := md
  have hF := va_free w.2.1 w.2.2 hA is hC
  refine va_calli (va_runS (As := As) (rest := rest) (n := n) (maxL := maxL) (ret := rt) (bytes := bytes) ⟨hx, hb, hml, hown, hts⟩ (hM H.size) ⟨⟨rfl, rfl, hR.1, hR.2, pay_in hts (fun v hv => ?_), by rw [hcw]; exact List.mem_cons_self, by rw [← hcw]; exact hts _ hcd, hts _ hini, ⟨hd.1, hd.2.1⟩, fun sig h => ?_, hts _ hl⟩, hts _ hin⟩ ⟨ctB_blind, r_pre C w hC hn⟩ rfl hAs hsz hst (lv_room hrm) hdg hcs) w.2.2 (fun q _ h => hF q h) hF (fun r_1 u t H1 locs1 ht hvm hw hB hz1 hk1 hS => ?_)
  · have h1 := bw_gi (c := cw) (bw_c hcd) v hv
    exact ⟨bw_c hcd v hv, h1.2⟩
  · have h2 := hd.2.2
    rw [h] at h2
    exact (Option.some.inj h2).symm
  · have hw : r_1 = r := hw
    subst hw
    rw [ht] at hB
    exact kk H1 locs1 (wl_call w hC hn ha hB hk1 hS)
theorem r_callSv (C : ctx g p s m args meth c own cc nL ret A) (w : wl g A s.heap ws H locs) {y : MethodName} {cw : Cond} {bytes : ByteArray} {maxL n fr lo : Nat} {rt : Option FieldType} {As : List Value} {wc wc' : va_W}
    (hM : CTv l g y cw fr lo As wc wc') (md : mdS y cw bytes maxL rt n) (is : List Nat) (hC : is.map (fun i => ws[i]?) = wc.map some) (hn : va_nd is = true) (ha : wc'.map Prod.fst = wc.map Prod.fst) {index : Nat} (hl : Cond.methodLink own index y ∈ bw)
    (hR : fr + 1 ≤ R.frames ∧ 8 + (maxL + 11) + lo ≤ R.locals) (hcs : cells ≤ R.cells ∧ slots ≤ R.slots) (hsz : ls.size = nL) (hAs : As.length = n) (hst : st = As.reverse ++ rest) (hrm : (rest.map fun v => v.category).sum ≤ 8) (hdg : decode cc pc = .ok (.invokestatic index, 3))
    (kk : ∀ (H1 : Heap) (locs1 : List Loc), wl g A s.heap (putAt ws is wc') H1 locs1 → W p l e R s m args below meth c H1 locs1 cells slots Q (F0 m (pc + 3) ls rest)) : W p l e R s m args below meth c H locs cells slots Q (F0 m pc ls st) := by
  obtain ⟨hx, hb, hml, hown, hts, hlk, hr, hK, hA, hN, hE⟩ := id C
  obtain ⟨hcw, hd, hin, hini, hcd⟩ := md
  have hF := va_free w.2.1 w.2.2 hA is hC
  refine va_callv (va_runS (As := As) (rest := rest) (n := n) (maxL := maxL) (ret := rt) (bytes := bytes) ⟨hx, hb, hml, hown, hts⟩ (hM H.size) ⟨⟨rfl, rfl, hR.1, hR.2, pay_in hts (fun v hv => ?_), by rw [hcw]; exact List.mem_cons_self, by rw [← hcw]; exact hts _ hcd, hts _ hini, ⟨hd.1, hd.2.1⟩, fun sig h => ?_, hts _ hl⟩, hts _ hin⟩ ⟨ctB_blind, r_pre C w hC hn⟩ rfl hAs hsz hst (lv_room hrm) hdg hcs) w.2.2 (fun q _ h => hF q h) hF (fun u t H1 locs1 ht hvm hw hB hz1 hk1 hS => ?_)
  · have h1 := bw_gi (c := cw) (bw_c hcd) v hv
    exact ⟨bw_c hcd v hv, h1.2⟩
  · have h2 := hd.2.2
    rw [h] at h2
    exact (Option.some.inj h2).symm
  · rw [ht] at hB
    exact kk H1 locs1 (wl_call w hC hn ha hB hk1 hS)
/-- a nest mate's static method -/
theorem r_callNi (C : ctx g p s m args meth c own cc nL ret A) (w : wl g A s.heap ws H locs) {y : MethodName} {cw : Cond} {bytes : ByteArray} {maxL n fr lo : Nat} {rt : Option FieldType} {As : List Value} {wc wc' : va_W} {r : Int32}
    (hM : CTi l g y cw fr lo As wc wc' r) (md : mdS y cw bytes maxL rt n) (is : List Nat) (hC : is.map (fun i => ws[i]?) = wc.map some) (hn : va_nd is = true) (ha : wc'.map Prod.fst = wc.map Prod.fst) {index : Nat} {host : String} (hl : Cond.methodLinkNest own index y host ∈ ev_nw)
    (hR : fr + 1 ≤ R.frames ∧ 8 + (maxL + 11) + lo ≤ R.locals) (hcs : cells ≤ R.cells ∧ slots ≤ R.slots) (hsz : ls.size = nL) (hAs : As.length = n) (hst : st = As.reverse ++ rest) (hrm : (rest.map fun v => v.category).sum ≤ 8) (hdg : decode cc pc = .ok (.invokestatic index, 3))
    (kk : ∀ (H1 : Heap) (locs1 : List Loc), wl g A s.heap (putAt ws is wc') H1 locs1 → W p l e R s m args below meth c H1 locs1 cells slots Q (F0 m (pc + 3) ls (.int r :: rest))) : W p l e R s m args below meth c H locs cells slots Q (F0 m pc ls st) := by
  obtain ⟨hx, hb, hml, hown, hts, hlk, hr, hK, hA, hN, hE⟩ := id C
  obtain ⟨hcw, hd, hin, hini, hcd⟩ := md
  have hF := va_free w.2.1 w.2.2 hA is hC
  refine va_calli (va_runSN (As := As) (rest := rest) (n := n) (maxL := maxL) (ret := rt) (bytes := bytes) ⟨hx, hb, hml, hown, hts⟩ (hM H.size) ⟨⟨⟨rfl, rfl, hR.1, hR.2, pay_in hts (fun v hv => ?_), by rw [hcw]; exact List.mem_cons_self⟩, by rw [← hcw]; exact hts _ hcd, hts _ hini, ⟨hd.1, hd.2.1⟩, fun sig h => ?_, va_Nw.use rfl (hN.1 _ hl)⟩, hts _ hin, trivial⟩ ⟨ctB_blind, r_pre C w hC hn⟩ rfl hAs hsz hst (lv_room hrm) hdg hcs) w.2.2 (fun q _ h => hF q h) hF (fun r_1 u t H1 locs1 ht hvm hw hB hz1 hk1 hS => ?_)
  · have h1 := bw_gi (c := cw) (bw_c hcd) v hv
    exact ⟨bw_c hcd v hv, h1.2⟩
  · have h2 := hd.2.2
    rw [h] at h2
    exact (Option.some.inj h2).symm
  · have hw : r_1 = r := hw
    subst hw
    rw [ht] at hB
    exact kk H1 locs1 (wl_call w hC hn ha hB hk1 hS)
theorem r_get (C : ctx g p s m args meth c own cc nL ret A) (w : wl g A s.heap ws H locs) (q0 : Nat) {a ci N : Nat} {Cn : String} {T : u_T} {ty0 : Nat → FieldType} {fs : List Value} (he : ws[q0]? = some (a, .inr (ci, fs))) (cf : clF ci Cn T N ty0) (k : Nat) (hk : k < N) {index : Nat} (hl : Cond.fieldLink own index (T k).1 (T k).2.1 (T k).2.2.1 ∈ bw) {v : Value} (hv : fs[k]? = some v) (hdg : decode cc pc = .ok (.getfield index, 3))
    (kk : W p l e R s m args below meth c H locs cells slots Q (F0 m (pc + 3) ls (v :: rest))) : W p l e R s m args below meth c H locs cells slots Q (F0 m pc ls (.ref a :: rest)) := by
  obtain ⟨hx, hb, hml, hown, hts, hlk, hr, hK, hA, hN, hE⟩ := C
  exact va_get hx hb hts cf.2.1 hown hK w.1 q0 he cf.1 k hk (hts _ hl) (fun _ h => h) hv hdg kk
theorem r_getN (C : ctx g p s m args meth c own cc nL ret A) (w : wl g A s.heap ws H locs) (q0 : Nat) {a ci N : Nat} {Cn : String} {T : u_T} {ty0 : Nat → FieldType} {fs : List Value} (he : ws[q0]? = some (a, .inr (ci, fs))) (cf : clF ci Cn T N ty0) (k : Nat) (hk : k < N) {index : Nat} {host : String} (hl : Cond.fieldLinkNest own index (T k).1 (T k).2.1 (T k).2.2.1 host ∈ ev_nw) {v : Value} (hv : fs[k]? = some v) (hdg : decode cc pc = .ok (.getfield index, 3))
    (kk : W p l e R s m args below meth c H locs cells slots Q (F0 m (pc + 3) ls (v :: rest))) : W p l e R s m args below meth c H locs cells slots Q (F0 m pc ls (.ref a :: rest)) := by
  obtain ⟨hx, hb, hml, hown, hts, hlk, hr, hK, hA, hN, hE⟩ := C
  exact va_getN hx hb hts cf.2.1 hown hK w.1 q0 he cf.1 k hk (va_Nw.use rfl (hN.1 _ hl)) (fun _ h => h) hv hdg kk
theorem r_puti (C : ctx g p s m args meth c own cc nL ret A) (w : wl g A s.heap ws H locs) (q0 : Nat) {a ci N : Nat} {Cn : String} {T : u_T} {ty0 : Nat → FieldType} {fs : List Value} (he : ws[q0]? = some (a, .inr (ci, fs))) (cf : clF ci Cn T N ty0) (k : Nat) (hk : k < N) {index : Nat} (hl : Cond.fieldLink own index (T k).1 (T k).2.1 (T k).2.2.1 ∈ bw) {x : Int32} (hf : (T k).2.2.2 = false) (hty : ty0 k = .int) (hk2 : k < fs.length) {ws' : va_W} (e1 : ws.set q0 (a, .inr (ci, fs.set k (.int x))) = ws') (hdg : decode cc pc = .ok (.putfield index, 3))
    (kk : ∀ (H1 : Heap) (locs1 : List Loc), wl g A s.heap ws' H1 locs1 → W p l e R s m args below meth c H1 locs1 cells slots Q (F0 m (pc + 3) ls rest)) : W p l e R s m args below meth c H locs cells slots Q (F0 m pc ls (.int x :: .ref a :: rest)) := by
  obtain ⟨hx, hb, hml, hown, hts, hlk, hr, hK, hA, hN, hE⟩ := C
  exact va_put hx hb hts cf.2.1 ty0 cf.2.2.1 cf.2.2.2 hown hK w.1 w.2.1 w.2.2 q0 he cf.1 k hk (hts _ hl) (fun _ h => h) hf ((cf.2.2.1 k hk).trans (congrArg some hty)) rfl rfl hk2 hdg (fun H1 locs1 hP hD hS => kk H1 locs1 (e1 ▸ ⟨hP, hD, hS⟩))
theorem r_putiN (C : ctx g p s m args meth c own cc nL ret A) (w : wl g A s.heap ws H locs) (q0 : Nat) {a ci N : Nat} {Cn : String} {T : u_T} {ty0 : Nat → FieldType} {fs : List Value} (he : ws[q0]? = some (a, .inr (ci, fs))) (cf : clF ci Cn T N ty0) (k : Nat) (hk : k < N) {index : Nat} {host : String} (hl : Cond.fieldLinkNest own index (T k).1 (T k).2.1 (T k).2.2.1 host ∈ ev_nw) {x : Int32} (hf : (T k).2.2.2 = false) (hty : ty0 k = .int) (hk2 : k < fs.length) {ws' : va_W} (e1 : ws.set q0 (a, .inr (ci, fs.set k (.int x))) = ws') (hdg : decode cc pc = .ok (.putfield index, 3))
    (kk : ∀ (H1 : Heap) (locs1 : List Loc), wl g A s.heap ws' H1 locs1 → W p l e R s m args below meth c H1 locs1 cells slots Q (F0 m (pc + 3) ls rest)) : W p l e R s m args below meth c H locs cells slots Q (F0 m pc ls (.int x :: .ref a :: rest)) := by
  obtain ⟨hx, hb, hml, hown, hts, hlk, hr, hK, hA, hN, hE⟩ := C
  exact va_putN hx hb hts cf.2.1 ty0 cf.2.2.1 cf.2.2.2 hown hK w.1 w.2.1 w.2.2 q0 he cf.1 k hk (va_Nw.use rfl (hN.1 _ hl)) (fun _ h => h) hf ((cf.2.2.1 k hk).trans (congrArg some hty)) rfl rfl hk2 hdg (fun H1 locs1 hP hD hS => kk H1 locs1 (e1 ▸ ⟨hP, hD, hS⟩))
theorem r_iald (C : ctx g p s m args meth c own cc nL ret A) (w : wl g A s.heap ws H locs) (q0 : Nat) {a n : Nat} {f : Nat → Int32} (ha : ws[q0]? = some (a, .inl (gI g, n, .inl f))) {i : Int32} (hin : ix i n) (hdg : decode cc pc = .ok (.iaload, 1))
    (kk : W p l e R s m args below meth c H locs cells slots Q (F0 m (pc + 1) ls (.int (f i.toNatClampNeg) :: rest))) : W p l e R s m args below meth c H locs cells slots Q (F0 m pc ls (.int i :: .ref a :: rest)) := by
  obtain ⟨hx, hb, hml, hown, hts, hlk, hr, hK, hA, hN, hE⟩ := C
  exact va_iald hx hb hK w.1 q0 0 ha rfl hin hdg kk
theorem r_zald (C : ctx g p s m args meth c own cc nL ret A) (w : wl g A s.heap ws H locs) (q0 : Nat) {a n : Nat} {f : Nat → Int32} (ha : ws[q0]? = some (a, .inl (gZ g, n, .inl f))) {i : Int32} (hin : ix i n) (hdg : decode cc pc = .ok (.baload, 1))
    (kk : W p l e R s m args below meth c H locs cells slots Q (F0 m (pc + 1) ls (.int (f i.toNatClampNeg) :: rest))) : W p l e R s m args below meth c H locs cells slots Q (F0 m pc ls (.int i :: .ref a :: rest)) := by
  obtain ⟨hx, hb, hml, hown, hts, hlk, hr, hK, hA, hN, hE⟩ := C
  exact va_zald hx hb hK w.1 q0 1 ha rfl hin hdg kk
theorem r_iast (C : ctx g p s m args meth c own cc nL ret A) (w : wl g A s.heap ws H locs) (q0 : Nat) {a n : Nat} {f : Nat → Int32} (ha : ws[q0]? = some (a, .inl (gI g, n, .inl f))) {i x : Int32} (hin : ix i n) {ws' : va_W} (e1 : ws.set q0 (a, .inl (gI g, n, .inl (upd f i.toNatClampNeg x))) = ws') (hdg : decode cc pc = .ok (.iastore, 1))
    (kk : ∀ (H1 : Heap) (locs1 : List Loc), wl g A s.heap ws' H1 locs1 → W p l e R s m args below meth c H1 locs1 cells slots Q (F0 m (pc + 1) ls rest)) : W p l e R s m args below meth c H locs cells slots Q (F0 m pc ls (.int x :: .int i :: .ref a :: rest)) := by
  obtain ⟨hx, hb, hml, hown, hts, hlk, hr, hK, hA, hN, hE⟩ := C
  exact va_iast hx hb hK w.1 w.2.1 w.2.2 q0 0 ha rfl hin hdg (fun H1 locs1 hP hD hS => kk H1 locs1 (e1 ▸ ⟨hP, hD, hS⟩))
theorem r_zast (C : ctx g p s m args meth c own cc nL ret A) (w : wl g A s.heap ws H locs) (q0 : Nat) {a n : Nat} {f : Nat → Int32} (ha : ws[q0]? = some (a, .inl (gZ g, n, .inl f))) {i x : Int32} (hin : ix i n) {ws' : va_W} (e1 : ws.set q0 (a, .inl (gZ g, n, .inl (upd f i.toNatClampNeg (vp_nar .boolean x)))) = ws') (hdg : decode cc pc = .ok (.bastore, 1))
    (kk : ∀ (H1 : Heap) (locs1 : List Loc), wl g A s.heap ws' H1 locs1 → W p l e R s m args below meth c H1 locs1 cells slots Q (F0 m (pc + 1) ls rest)) : W p l e R s m args below meth c H locs cells slots Q (F0 m pc ls (.int x :: .int i :: .ref a :: rest)) := by
  obtain ⟨hx, hb, hml, hown, hts, hlk, hr, hK, hA, hN, hE⟩ := C
  exact va_zast hx hb hK w.1 w.2.1 w.2.2 q0 1 ha rfl hin hdg (fun H1 locs1 hP hD hS => kk H1 locs1 (e1 ▸ ⟨hP, hD, hS⟩))
/-- the ends -/
theorem r_iret (C : ctx g p s m args meth c own cc nL (some .int) A) {wo : va_W} (w : wl g A s.heap wo H locs) {v r : Int32} (hv : v = r) (hdg : decode cc pc = .ok (.ireturn, 1)) : W p l e R s m args below meth c H locs 0 0 (MQ below (Qi g A wo r) args s 0 0 A) (F0 m pc ls [.int v]) := by
  obtain ⟨hx, hb, hml, hown, hts, hlk, hr, hK, hA, hN, hE⟩ := C
  subst hv
  exact W.iret hx hb hr (fun t ht hW => ⟨⟨v, (), rfl, rfl, by show va_P g.1 vwCl wo t.heap; rw [ht]; exact w.1⟩, w.2.2.F ht⟩) w.2.2.2.2 hdg
theorem r_zret (C : ctx g p s m args meth c own cc nL (some .boolean) A) {wo : va_W} (w : wl g A s.heap wo H locs) {v r : Int32} (hv : v = r) (hn : vp_nar .boolean v = v) (hdg : decode cc pc = .ok (.ireturn, 1)) : W p l e R s m args below meth c H locs 0 0 (MQ below (Qi g A wo r) args s 0 0 A) (F0 m pc ls [.int v]) := by
  obtain ⟨hx, hb, hml, hown, hts, hlk, hr, hK, hA, hN, hE⟩ := C
  subst hv
  exact W.zret hx hb hr (by rw [show narrow .boolean (.int v) = .int (vp_nar .boolean v) from rfl, hn]) (fun t ht hW => ⟨⟨v, (), rfl, rfl, by show va_P g.1 vwCl wo t.heap; rw [ht]; exact w.1⟩, w.2.2.F ht⟩) w.2.2.2.2 hdg
theorem r_vret (C : ctx g p s m args meth c own cc nL none A) {wo : va_W} (w : wl g A s.heap wo H locs) (hdg : decode cc pc = .ok (.return_, 1)) : W p l e R s m args below meth c H locs 0 0 (MQ below (Qv g A wo) args s 0 0 A) (F0 m pc ls []) := by
  obtain ⟨hx, hb, hml, hown, hts, hlk, hr, hK, hA, hN, hE⟩ := C
  exact W.vret hx hb hr (fun t ht hW => ⟨⟨(), rfl, trivial, by show va_P g.1 vwCl wo t.heap; rw [ht]; exact w.1⟩, w.2.2.F ht⟩) w.2.2.2.2 hdg
end ROWS
/-- a contract from a walk -/
theorem ct_i {l : Launch} {g : evG} {y : MethodName} {cc : ByteArray} {maxL fr lo : Nat} {ret : Option FieldType} {As : List Value} {ws ws' : va_W} {r : Int32} (hy : plainName y.cls = true) (hln : (lg_sl As).length ≤ maxL)
    (k : ∀ (p : Program) (e : Env) (s : State) (m : MethodId) (args : Array Value) (below : List Frame) (meth : Method) (c : Code) (A : Nat → Prop) (ls : Array Slot), ctx g p s m args meth c y.cls cc maxL ret A → wl g A s.heap ws s.heap [] → lv_has ls maxL (lv_args 0 As) → W p l e (rmK fr lo) s m args below meth c s.heap [] 0 0 (MQ below (Qi g A ws' r) args s 0 0 A) (F0 m 0 ls [])) : CTi l g y (Cond.code y cc maxL ret) fr lo As ws ws' r := by
  intro sz
  refine Met.ofW (cc := cc) (maxL := maxL) (ret := ret) hy rfl ?_
  intro p e s m args below meth c s₁ B hml hv
  obtain ⟨rfl, hsz, hP, hK, hD0, hN, hE⟩ := hv
  subst hsz
  have hts := atoms_spec (ws := Cond.code y cc maxL ret :: bw) B.pre
  have hown : s.vm.findClass y.cls = some m.cls := findClass_of_methodNamed B.named
  have hl := lv_entry As (n := maxL) hln
  rw [lg_entry_eq]
  exact k p e s m _ below meth c (va_A ws s.heap.size) _ ⟨B.exec, B.bytes, hml, hown, fun w hw => hts w (List.mem_cons_of_mem _ hw), B.notSynchronized, B.returns, hK, fun q h => Or.inr h, hN, hE⟩ ⟨hP, hD0.self, va_S.rf⟩ hl
theorem ct_v {l : Launch} {g : evG} {y : MethodName} {cc : ByteArray} {maxL fr lo : Nat} {As : List Value} {ws ws' : va_W} (hy : plainName y.cls = true) (hln : (lg_sl As).length ≤ maxL)
    (k : ∀ (p : Program) (e : Env) (s : State) (m : MethodId) (args : Array Value) (below : List Frame) (meth : Method) (c : Code) (A : Nat → Prop) (ls : Array Slot), ctx g p s m args meth c y.cls cc maxL none A → wl g A s.heap ws s.heap [] → lv_has ls maxL (lv_args 0 As) → W p l e (rmK fr lo) s m args below meth c s.heap [] 0 0 (MQ below (Qv g A ws') args s 0 0 A) (F0 m 0 ls [])) : CTv l g y (Cond.code y cc maxL none) fr lo As ws ws' := by
  intro sz
  refine Met.ofW (cc := cc) (maxL := maxL) (ret := none) hy rfl ?_
  intro p e s m args below meth c s₁ B hml hv
  obtain ⟨rfl, hsz, hP, hK, hD0, hN, hE⟩ := hv
  subst hsz
  have hts := atoms_spec (ws := Cond.code y cc maxL none :: bw) B.pre
  have hown : s.vm.findClass y.cls = some m.cls := findClass_of_methodNamed B.named
  have hl := lv_entry As (n := maxL) hln
  rw [lg_entry_eq]
  exact k p e s m _ below meth c (va_A ws s.heap.size) _ ⟨B.exec, B.bytes, hml, hown, fun w hw => hts w (List.mem_cons_of_mem _ hw), B.notSynchronized, B.returns, hK, fun q h => Or.inr h, hN, hE⟩ ⟨hP, hD0.self, va_S.rf⟩ hl
