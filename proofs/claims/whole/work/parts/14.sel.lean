/-- out of the world L the cells wc (at the places is), which become wc2: the world is then L2 -/
def Sel (L : va_W) (is : List Nat) (wc wc2 L2 : va_W) : Prop := is.map (fun i => L[i]?) = wc.map some ∧ putAt L is wc2 = L2 ∧ is.Nodup ∧ is.length = wc2.length ∧ wc2.map Prod.fst = wc.map Prod.fst
theorem nd_of : ∀ (l : List Nat), l.Nodup → va_nd l = true
  | [], _ => rfl
  | a :: l, h => by
    simp only [va_nd, Bool.and_eq_true, decide_eq_true_eq]
    exact ⟨(List.nodup_cons.mp h).1, nd_of l (List.nodup_cons.mp h).2⟩
theorem putAt_app : ∀ (is : List Nat) (js : List Nat) (L qs rs : va_W), is.length = qs.length → putAt L (is ++ js) (qs ++ rs) = putAt (putAt L is qs) js rs
  | [], js, L, [], rs, _ => by simp [putAt]
  | [], _, _, _ :: _, _, h => by simp at h
  | _ :: _, _, _, [], _, h => by simp at h
  | i :: is, js, L, q :: qs, rs, h => by
    show putAt (L.set i q) (is ++ js) (qs ++ rs) = putAt (putAt (L.set i q) is qs) js rs
    exact putAt_app is js _ qs rs (by simpa using h)
theorem putAt_skip : ∀ (is : List Nat) (G L qs : va_W), putAt (G ++ L) (is.map (fun i => i + G.length)) qs = G ++ putAt L is qs
  | [], _, _, _ => by simp [putAt]
  | _ :: _, _, _, [] => by simp [putAt]
  | i :: is, G, L, q :: qs => by
    show putAt ((G ++ L).set (i + G.length) q) (is.map (fun i => i + G.length)) qs = G ++ putAt (L.set i q) is qs
    rw [List.set_append_right _ _ (Nat.le_add_left _ _), Nat.add_sub_cancel]
    exact putAt_skip is G _ qs
theorem putAt_take (G G2 L : va_W) (h : G2.length = G.length) : putAt (G ++ L) (List.range' 0 G.length) G2 = G2 ++ L := by
  have key : ∀ (qs ws pre L : va_W), ws.length = qs.length → putAt (pre ++ (ws ++ L)) (List.range' pre.length qs.length) qs = pre ++ (qs ++ L) := by
    intro qs
    induction qs with
    | nil =>
      intro ws pre L h
      obtain rfl : ws = [] := List.length_eq_zero_iff.mp h
      simp [putAt]
    | cons q qs ih =>
      intro ws pre L h
      cases ws with
      | nil => simp at h
      | cons w ws =>
        have h1 : ws.length = qs.length := by simpa using h
        rw [List.length_cons, List.range'_succ]
        show putAt ((pre ++ (w :: ws ++ L)).set pre.length q) (List.range' (pre.length + 1) qs.length) qs = _
        have e1 : (pre ++ (w :: ws ++ L)).set pre.length q = (pre ++ [q]) ++ (ws ++ L) := by
          rw [List.set_append_right _ _ (Nat.le_refl _), Nat.sub_self]; simp
        have h3 := ih ws (pre ++ [q]) L h1
        have e3 : (pre ++ [q]).length = pre.length + 1 := by simp
        rw [e3] at h3
        rw [e1, h3]; simp
  have h4 := key G2 G [] L h.symm
  rw [h] at h4
  exact h4
theorem map_skip (is : List Nat) (G L wc : va_W) (h : is.map (fun i => L[i]?) = wc.map some) : (is.map (fun i => i + G.length)).map (fun i => (G ++ L)[i]?) = wc.map some := by
  rw [← h, List.map_map]
  refine List.map_congr_left fun i _ => ?_
  show (G ++ L)[i + G.length]? = L[i]?
  rw [List.getElem?_append_right (Nat.le_add_left _ _), Nat.add_sub_cancel]
theorem Sel.skip {L : va_W} {is : List Nat} {wc wc2 L2 : va_W} (G : va_W) (h : Sel L is wc wc2 L2) : Sel (G ++ L) (is.map (fun i => i + G.length)) wc wc2 (G ++ L2) := by
  obtain ⟨h1, h2, h3, h4, h5⟩ := h
  refine ⟨map_skip is G L wc h1, by rw [putAt_skip, h2], ?_, by simpa using h4, h5⟩
  exact List.Pairwise.map _ (fun a b hab h => hab (Nat.add_right_cancel h)) h3
theorem Sel.take {L : va_W} {is : List Nat} {wc wc2 L2 : va_W} (G G2 : va_W) (hl : G2.length = G.length) (ha : G2.map Prod.fst = G.map Prod.fst) (h : Sel L is wc wc2 L2) : Sel (G ++ L) (List.range' 0 G.length ++ is.map (fun i => i + G.length)) (G ++ wc) (G2 ++ wc2) (G2 ++ L2) := by
  obtain ⟨h1, h2, h3, h4, h5⟩ := h
  refine ⟨?_, ?_, ?_, ?_, ?_⟩
  · rw [List.map_append, List.map_append, map_skip is G L wc h1, seg_l]
  · rw [putAt_app _ _ _ _ _ (by simp [hl]), putAt_take _ _ _ hl, ← hl, putAt_skip, h2]
  · refine List.nodup_append.mpr ⟨List.nodup_range', List.Pairwise.map _ (fun a b hab h => hab (Nat.add_right_cancel h)) h3, ?_⟩
    intro a ha1 b hb e1
    obtain ⟨k, _, hk⟩ := List.mem_map.mp hb
    have := (List.mem_range'_1.mp ha1).2
    omega
  · simp [hl, h4]
  · rw [List.map_append, List.map_append, ha, h5]
theorem Sel.one (G G2 L : va_W) (hl : G2.length = G.length) (ha : G2.map Prod.fst = G.map Prod.fst) : Sel (G ++ L) (List.range' 0 G.length) G G2 (G2 ++ L) :=
  ⟨seg_l G L, putAt_take G G2 L hl, List.nodup_range', by simp [hl], ha⟩
theorem Sel.last (G G2 : va_W) (hl : G2.length = G.length) (ha : G2.map Prod.fst = G.map Prod.fst) : Sel G (List.range' 0 G.length) G G2 G2 := by
  have h := Sel.one G G2 [] hl ha
  simpa using h
section ROWS4
variable {l : Launch} {g : evG} {p : Program} {e : Env} {R : Room} {s : State} {m : MethodId} {args : Array Value} {below : List Frame} {meth : Method} {c : Code} {own : String} {cc : ByteArray} {nL : Nat} {ret : Option FieldType} {A : Nat → Prop}
variable {ws ws2 : va_W} {H : Heap} {locs : List Loc} {cells slots : Nat} {Q : State → Prop} {pc : Nat} {ls : Array Slot} {rest st : List Value}
theorem r_selVi (C : ctx g p s m args meth c own cc nL ret A) (w : wl g A s.heap ws H locs) {y : MethodName} {cw : Cond} {bytes : ByteArray} {maxL n fr lo : Nat} {rt : Option FieldType} {b : Nat} {As : List Value} {wc wc' : va_W} {r : Int32}
    (hM : CTi l g y cw fr lo (.ref b :: As) wc wc' r) (md : mdV y cw bytes maxL rt n) {is : List Nat} (sel : Sel ws is wc wc' ws2) {index : Nat} (hl : Cond.methodLink own index y ∈ bw)
    (q0 : Nat) {ci : Nat} {fs : List Value} (hrv : ws[q0]? = some (b, .inr (ci, fs))) {T : u_T} {N : Nat} (hcl : vwCl[ci]? = some (y.cls, T, N)) (hR : fr + 1 ≤ R.frames ∧ 8 + (maxL + 11) + lo ≤ R.locals) (hcs : cells ≤ R.cells ∧ slots ≤ R.slots) (hsz : ls.size = nL) (hAs : As.length = n) (hst : st = As.reverse ++ .ref b :: rest) (hrm : (rest.map fun v => v.category).sum ≤ 8) (hdg : decode cc pc = .ok (.invokevirtual index, 3))
    (kk : ∀ (H1 : Heap) (locs1 : List Loc), wl g A s.heap ws2 H1 locs1 → W p l e R s m args below meth c H1 locs1 cells slots Q (F0 m (pc + 3) ls (.int r :: rest))) : W p l e R s m args below meth c H locs cells slots Q (F0 m pc ls st) :=
  r_callVi C w hM md is sel.1 (nd_of _ sel.2.2.1) sel.2.2.2.2 hl q0 hrv hcl hR hcs hsz hAs hst hrm hdg (fun H1 locs1 h => kk H1 locs1 (h.eq sel.2.1))
theorem r_selVv (C : ctx g p s m args meth c own cc nL ret A) (w : wl g A s.heap ws H locs) {y : MethodName} {cw : Cond} {bytes : ByteArray} {maxL n fr lo : Nat} {rt : Option FieldType} {b : Nat} {As : List Value} {wc wc' : va_W}
    (hM : CTv l g y cw fr lo (.ref b :: As) wc wc') (md : mdV y cw bytes maxL rt n) {is : List Nat} (sel : Sel ws is wc wc' ws2) {index : Nat} (hl : Cond.methodLink own index y ∈ bw)
    (q0 : Nat) {ci : Nat} {fs : List Value} (hrv : ws[q0]? = some (b, .inr (ci, fs))) {T : u_T} {N : Nat} (hcl : vwCl[ci]? = some (y.cls, T, N)) (hR : fr + 1 ≤ R.frames ∧ 8 + (maxL + 11) + lo ≤ R.locals) (hcs : cells ≤ R.cells ∧ slots ≤ R.slots) (hsz : ls.size = nL) (hAs : As.length = n) (hst : st = As.reverse ++ .ref b :: rest) (hrm : (rest.map fun v => v.category).sum ≤ 8) (hdg : decode cc pc = .ok (.invokevirtual index, 3))
    (kk : ∀ (H1 : Heap) (locs1 : List Loc), wl g A s.heap ws2 H1 locs1 → W p l e R s m args below meth c H1 locs1 cells slots Q (F0 m (pc + 3) ls rest)) : W p l e R s m args below meth c H locs cells slots Q (F0 m pc ls st) :=
  r_callVv C w hM md is sel.1 (nd_of _ sel.2.2.1) sel.2.2.2.2 hl q0 hrv hcl hR hcs hsz hAs hst hrm hdg (fun H1 locs1 h => kk H1 locs1 (h.eq sel.2.1))
end ROWS4
