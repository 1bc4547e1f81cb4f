set_option maxRecDepth 100000 in
set_option maxHeartbeats 4000000 in
theorem kL_law_982 {l : Launch} {g : evG} {p : Program} {e : Env} {s : State} {m : MethodId} {b L : Nat} {xs : Nat → Int32} {below : List Frame} {meth : Method} {c : Code} {ad : Nat → Nat → Nat} {zm : Nat → Nat} (C : ctx g p s m #[Value.ref b] meth c RL code 4 ret (fun q : Nat => s.heap.size ≤ q)) (hX : va_X b L xs s s.heap) (hbl : b < s.heap.size) {rec18 : Gp → Gp → Gp → Gp → Gp → Gp → Gp → Gp → Gp → Gp → Gp → Gp → Gp → Gp → Gp → Int32 → Option (Int32)} (hr18 : ∀ (Tm : Gp) (Te : Gp) (Tp : Gp) (Tl : Gp) (Td : Gp) (Tk : Gp) (Tx : Gp) (Tt : Gp) (Tv : Gp) (Ta : Gp) (Tb : Gp) (Tn : Gp) (Th : Gp) (Tg : Gp) (Tr : Gp) (x3 : Int32) (H : Heap) (locs : List Loc) (ls : Array Slot), rec18 Tm Te Tp Tl Td Tk Tx Tt Tv Ta Tb Tn Th Tg Tr x3 = some (1 : Int32) → wl g (fun q : Nat => s.heap.size ≤ q) s.heap (gcM g zm Tm ++ (gcE g ad Te ++ (gcP g (ad 9) (ad 1) Tp ++ (gcL g (ad 4) (ad 5) Tl ++ (gcD g (ad 6) Td ++ (gcK g (ad 5) (ad 3) Tk ++ (gcX g (ad 3) Tx ++ (gcT g (ad 1) Tt ++ (gcT g (ad 2) Tv ++ (gcD g (ad 7) Ta ++ (gcD g (ad 8) Tb ++ (gcN g (ad 10) Tn ++ (gcH g (ad 11) Th ++ (gcG g (ad 12) Tg ++ (gcR g (ad 13) Tr))))))))))))))) H locs → lv_has ls 4 [(0, .ref b), (1, .ref ((ad 0) 0)), (2, .ref (zm 0)), (3, .int x3)] → W p l e room_1 s m #[Value.ref b] below meth c H locs 68 17327 (lw_Z below #[Value.ref b] s) (F0 m 18 ls [])) {Tm : Gp} {Te : Gp} {Tp : Gp} {Tl : Gp} {Td : Gp} {Tk : Gp} {Tx : Gp} {Tt : Gp} {Tv : Gp} {Ta : Gp} {Tb : Gp} {Tn : Gp} {Th : Gp} {Tg : Gp} {Tr : Gp} {x3 : Int32} {y0 : Int32} {y2 : Int32} {H : Heap} {locs : List Loc} {ls : Array Slot} (hf : fL_law_982 xs L rec18 Tm Te Tp Tl Td Tk Tx Tt Tv Ta Tb Tn Th Tg Tr x3 y0 y2 = some (1 : Int32)) (hw : wl g (fun q : Nat => s.heap.size ≤ q) s.heap (gcM g zm Tm ++ (gcE g ad Te ++ (gcP g (ad 9) (ad 1) Tp ++ (gcL g (ad 4) (ad 5) Tl ++ (gcD g (ad 6) Td ++ (gcK g (ad 5) (ad 3) Tk ++ (gcX g (ad 3) Tx ++ (gcT g (ad 1) Tt ++ (gcT g (ad 2) Tv ++ (gcD g (ad 7) Ta ++ (gcD g (ad 8) Tb ++ (gcN g (ad 10) Tn ++ (gcH g (ad 11) Th ++ (gcG g (ad 12) Tg ++ (gcR g (ad 13) Tr))))))))))))))) H locs) (hl : lv_has ls 4 [(0, .ref b), (1, .ref ((ad 0) 0)), (2, .ref (zm 0)), (3, .int x3)]) : W p l e room_1 s m #[Value.ref b] below meth c H locs 68 17327 (lw_Z below #[Value.ref b] s) (F0 m 982 ls [.int y2, .ref (zm 0), .int y0]) := by
  obtain ⟨hx, hb, hml, hown, hts, -⟩ := id C
  have hbA : ¬ (fun q : Nat => s.heap.size ≤ q) b := Nat.not_le.mpr hbl
  unfold fL_law_982 at hf
  obtain ⟨r1, Tm_2, hc3, hf⟩ := bd2_e hf
  refine r_selVi C hw (c_X11_record (zm := zm) hc3) md_X11_record (Sel.one (gcM g zm Tm) (gcM g zm Tm_2) _ rfl rfl) q6_11 0 rfl cf_X11.1 ⟨Nat.le_of_ble_eq_true rfl, Nat.le_of_ble_eq_true rfl⟩ ⟨Nat.le_refl _, Nat.le_refl _⟩ hl.1 rfl rfl (Nat.le_of_ble_eq_true rfl) dL_law_982 (fun H locs hw => ?_)
  refine lv_icmp_eq (tgt := 1115) hx hb dL_law_985 (by decide) (fun hc4 => ?_) (fun hc4 => ?_)
  · have hf := it_p hf hc4
    refine lv_iinc (v := (x3 + (6 : Int32))) (lv' := [(3, .int (x3 + (6 : Int32))), (0, .ref b), (1, .ref ((ad 0) 0)), (2, .ref (zm 0))]) hx hb dL_law_1115 hl (k := 3) rfl rfl (by decide) rfl (fun ls hl => ?_)
    refine lv_goto (tgt := 18) hx hb dL_law_1118 (by decide) ?_
    exact hr18 _ _ _ _ _ _ _ _ _ _ _ _ _ _ _ _ _ _ _ hf hw (lv_sub hl [1, 2, 3, 0] rfl)
  · have hf := it_n hf hc4
    refine lv_iconst (v := (0 : Int32)) hx hb dL_law_988 rfl ?_
    exact absurd (so1 hf) (by decide)
set_option maxRecDepth 100000 in
set_option maxHeartbeats 4000000 in
theorem kL_law_965 {l : Launch} {g : evG} {p : Program} {e : Env} {s : State} {m : MethodId} {b L : Nat} {xs : Nat → Int32} {below : List Frame} {meth : Method} {c : Code} {ad : Nat → Nat → Nat} {zm : Nat → Nat} (C : ctx g p s m #[Value.ref b] meth c RL code 4 ret (fun q : Nat => s.heap.size ≤ q)) (hX : va_X b L xs s s.heap) (hbl : b < s.heap.size) {rec18 : Gp → Gp → Gp → Gp → Gp → Gp → Gp → Gp → Gp → Gp → Gp → Gp → Gp → Gp → Gp → Int32 → Option (Int32)} (hr18 : ∀ (Tm : Gp) (Te : Gp) (Tp : Gp) (Tl : Gp) (Td : Gp) (Tk : Gp) (Tx : Gp) (Tt : Gp) (Tv : Gp) (Ta : Gp) (Tb : Gp) (Tn : Gp) (Th : Gp) (Tg : Gp) (Tr : Gp) (x3 : Int32) (H : Heap) (locs : List Loc) (ls : Array Slot), rec18 Tm Te Tp Tl Td Tk Tx Tt Tv Ta Tb Tn Th Tg Tr x3 = some (1 : Int32) → wl g (fun q : Nat => s.heap.size ≤ q) s.heap (gcM g zm Tm ++ (gcE g ad Te ++ (gcP g (ad 9) (ad 1) Tp ++ (gcL g (ad 4) (ad 5) Tl ++ (gcD g (ad 6) Td ++ (gcK g (ad 5) (ad 3) Tk ++ (gcX g (ad 3) Tx ++ (gcT g (ad 1) Tt ++ (gcT g (ad 2) Tv ++ (gcD g (ad 7) Ta ++ (gcD g (ad 8) Tb ++ (gcN g (ad 10) Tn ++ (gcH g (ad 11) Th ++ (gcG g (ad 12) Tg ++ (gcR g (ad 13) Tr))))))))))))))) H locs → lv_has ls 4 [(0, .ref b), (1, .ref ((ad 0) 0)), (2, .ref (zm 0)), (3, .int x3)] → W p l e room_1 s m #[Value.ref b] below meth c H locs 68 17327 (lw_Z below #[Value.ref b] s) (F0 m 18 ls [])) {Tm : Gp} {Te : Gp} {Tp : Gp} {Tl : Gp} {Td : Gp} {Tk : Gp} {Tx : Gp} {Tt : Gp} {Tv : Gp} {Ta : Gp} {Tb : Gp} {Tn : Gp} {Th : Gp} {Tg : Gp} {Tr : Gp} {x3 : Int32} {y1 : Int32} {H : Heap} {locs : List Loc} {ls : Array Slot} (hf : fL_law_965 xs L rec18 Tm Te Tp Tl Td Tk Tx Tt Tv Ta Tb Tn Th Tg Tr x3 y1 = some (1 : Int32)) (hw : wl g (fun q : Nat => s.heap.size ≤ q) s.heap (gcM g zm Tm ++ (gcE g ad Te ++ (gcP g (ad 9) (ad 1) Tp ++ (gcL g (ad 4) (ad 5) Tl ++ (gcD g (ad 6) Td ++ (gcK g (ad 5) (ad 3) Tk ++ (gcX g (ad 3) Tx ++ (gcT g (ad 1) Tt ++ (gcT g (ad 2) Tv ++ (gcD g (ad 7) Ta ++ (gcD g (ad 8) Tb ++ (gcN g (ad 10) Tn ++ (gcH g (ad 11) Th ++ (gcG g (ad 12) Tg ++ (gcR g (ad 13) Tr))))))))))))))) H locs) (hl : lv_has ls 4 [(0, .ref b), (1, .ref ((ad 0) 0)), (2, .ref (zm 0)), (3, .int x3)]) : W p l e room_1 s m #[Value.ref b] below meth c H locs 68 17327 (lw_Z below #[Value.ref b] s) (F0 m 965 ls [.int y1, .ref ((ad 0) 0)]) := by
  obtain ⟨hx, hb, hml, hown, hts, -⟩ := id C
  have hbA : ¬ (fun q : Nat => s.heap.size ≤ q) b := Nat.not_le.mpr hbl
  unfold fL_law_965 at hf
  obtain ⟨r1, Tr_2, hc3, hf⟩ := bd2_e hf
  refine r_selVi C hw (c_X10_record (ad := ad) hc3) md_X10_record (Sel.skip _ (Sel.take (gcE g ad Te) (gcE g ad Te) rfl rfl (Sel.skip _ (Sel.skip _ (Sel.skip _ (Sel.skip _ (Sel.skip _ (Sel.skip _ (Sel.skip _ (Sel.skip _ (Sel.skip _ (Sel.skip _ (Sel.skip _ (Sel.skip _ (Sel.last (gcR g (ad 13) Tr) (gcR g (ad 13) Tr_2) rfl rfl))))))))))))))) q4_100 19 rfl cf_X10.1 ⟨Nat.le_of_ble_eq_true rfl, Nat.le_of_ble_eq_true rfl⟩ ⟨Nat.le_refl _, Nat.le_refl _⟩ hl.1 rfl rfl (Nat.le_of_ble_eq_true rfl) dL_law_965 (fun H locs hw => ?_)
  refine lv_aload_n hx hb dL_law_968 rfl (lv_at hl 2 rfl) ?_
  refine lv_aload_n hx hb dL_law_969 rfl (lv_at hl 0 rfl) ?_
  refine lv_iload_n hx hb dL_law_970 rfl (lv_at hl 3 rfl) ?_
  refine lv_iconst (v := (1 : Int32)) hx hb dL_law_971 rfl ?_
  refine lv_iadd hx hb dL_law_972 ?_
  obtain ⟨hi4, hf⟩ := it_g hf
  refine va_sld hx hb hX hbl hbA hw.2.2 hi4 dL_law_973 ?_
  refine lv_if_eq (tgt := 981) hx hb dL_law_974 (by decide) (fun hc5 => ?_) (fun hc5 => ?_)
  · have hf := it_p hf hc5
    refine lv_iconst (v := (0 : Int32)) hx hb dL_law_981 rfl ?_
    exact kL_law_982 (ad := ad) (zm := zm) C hX hbl hr18 hf hw (lv_sub hl [0, 1, 2, 3] rfl)
  · have hf := it_n hf hc5
    refine lv_iconst (v := (1 : Int32)) hx hb dL_law_977 rfl ?_
    refine lv_goto (tgt := 982) hx hb dL_law_978 (by decide) ?_
    exact kL_law_982 (ad := ad) (zm := zm) C hX hbl hr18 hf hw (lv_sub hl [0, 1, 2, 3] rfl)
set_option maxRecDepth 100000 in
set_option maxHeartbeats 4000000 in
theorem kL_law_768 {l : Launch} {g : evG} {p : Program} {e : Env} {s : State} {m : MethodId} {b L : Nat} {xs : Nat → Int32} {below : List Frame} {meth : Method} {c : Code} {ad : Nat → Nat → Nat} {zm : Nat → Nat} (C : ctx g p s m #[Value.ref b] meth c RL code 4 ret (fun q : Nat => s.heap.size ≤ q)) (hX : va_X b L xs s s.heap) (hbl : b < s.heap.size) {rec18 : Gp → Gp → Gp → Gp → Gp → Gp → Gp → Gp → Gp → Gp → Gp → Gp → Gp → Gp → Gp → Int32 → Option (Int32)} (hr18 : ∀ (Tm : Gp) (Te : Gp) (Tp : Gp) (Tl : Gp) (Td : Gp) (Tk : Gp) (Tx : Gp) (Tt : Gp) (Tv : Gp) (Ta : Gp) (Tb : Gp) (Tn : Gp) (Th : Gp) (Tg : Gp) (Tr : Gp) (x3 : Int32) (H : Heap) (locs : List Loc) (ls : Array Slot), rec18 Tm Te Tp Tl Td Tk Tx Tt Tv Ta Tb Tn Th Tg Tr x3 = some (1 : Int32) → wl g (fun q : Nat => s.heap.size ≤ q) s.heap (gcM g zm Tm ++ (gcE g ad Te ++ (gcP g (ad 9) (ad 1) Tp ++ (gcL g (ad 4) (ad 5) Tl ++ (gcD g (ad 6) Td ++ (gcK g (ad 5) (ad 3) Tk ++ (gcX g (ad 3) Tx ++ (gcT g (ad 1) Tt ++ (gcT g (ad 2) Tv ++ (gcD g (ad 7) Ta ++ (gcD g (ad 8) Tb ++ (gcN g (ad 10) Tn ++ (gcH g (ad 11) Th ++ (gcG g (ad 12) Tg ++ (gcR g (ad 13) Tr))))))))))))))) H locs → lv_has ls 4 [(0, .ref b), (1, .ref ((ad 0) 0)), (2, .ref (zm 0)), (3, .int x3)] → W p l e room_1 s m #[Value.ref b] below meth c H locs 68 17327 (lw_Z below #[Value.ref b] s) (F0 m 18 ls [])) {Tm : Gp} {Te : Gp} {Tp : Gp} {Tl : Gp} {Td : Gp} {Tk : Gp} {Tx : Gp} {Tt : Gp} {Tv : Gp} {Ta : Gp} {Tb : Gp} {Tn : Gp} {Th : Gp} {Tg : Gp} {Tr : Gp} {x3 : Int32} {y0 : Int32} {y2 : Int32} {y3 : Int32} {y4 : Int32} {y5 : Int32} {H : Heap} {locs : List Loc} {ls : Array Slot} (hf : fL_law_768 xs L rec18 Tm Te Tp Tl Td Tk Tx Tt Tv Ta Tb Tn Th Tg Tr x3 y0 y2 y3 y4 y5 = some (1 : Int32)) (hw : wl g (fun q : Nat => s.heap.size ≤ q) s.heap (gcM g zm Tm ++ (gcE g ad Te ++ (gcP g (ad 9) (ad 1) Tp ++ (gcL g (ad 4) (ad 5) Tl ++ (gcD g (ad 6) Td ++ (gcK g (ad 5) (ad 3) Tk ++ (gcX g (ad 3) Tx ++ (gcT g (ad 1) Tt ++ (gcT g (ad 2) Tv ++ (gcD g (ad 7) Ta ++ (gcD g (ad 8) Tb ++ (gcN g (ad 10) Tn ++ (gcH g (ad 11) Th ++ (gcG g (ad 12) Tg ++ (gcR g (ad 13) Tr))))))))))))))) H locs) (hl : lv_has ls 4 [(0, .ref b), (1, .ref ((ad 0) 0)), (2, .ref (zm 0)), (3, .int x3)]) : W p l e room_1 s m #[Value.ref b] below meth c H locs 68 17327 (lw_Z below #[Value.ref b] s) (F0 m 768 ls [.int y5, .int y4, .int y3, .int y2, .ref (zm 0), .int y0]) := by
  obtain ⟨hx, hb, hml, hown, hts, -⟩ := id C
  have hbA : ¬ (fun q : Nat => s.heap.size ≤ q) b := Nat.not_le.mpr hbl
  unfold fL_law_768 at hf
  obtain ⟨r1, Tm_2, hc3, hf⟩ := bd2_e hf
  refine r_selVi C hw (c_X11_news (zm := zm) hc3) md_X11_news (Sel.one (gcM g zm Tm) (gcM g zm Tm_2) _ rfl rfl) q5_210 0 rfl cf_X11.1 ⟨Nat.le_of_ble_eq_true rfl, Nat.le_of_ble_eq_true rfl⟩ ⟨Nat.le_refl _, Nat.le_refl _⟩ hl.1 rfl rfl (Nat.le_of_ble_eq_true rfl) dL_law_768 (fun H locs hw => ?_)
  refine lv_icmp_eq (tgt := 1115) hx hb dL_law_771 (by decide) (fun hc4 => ?_) (fun hc4 => ?_)
  · have hf := it_p hf hc4
    refine lv_iinc (v := (x3 + (6 : Int32))) (lv' := [(3, .int (x3 + (6 : Int32))), (0, .ref b), (1, .ref ((ad 0) 0)), (2, .ref (zm 0))]) hx hb dL_law_1115 hl (k := 3) rfl rfl (by decide) rfl (fun ls hl => ?_)
    refine lv_goto (tgt := 18) hx hb dL_law_1118 (by decide) ?_
    exact hr18 _ _ _ _ _ _ _ _ _ _ _ _ _ _ _ _ _ _ _ hf hw (lv_sub hl [1, 2, 3, 0] rfl)
  · have hf := it_n hf hc4
    refine lv_iconst (v := (0 : Int32)) hx hb dL_law_774 rfl ?_
    exact absurd (so1 hf) (by decide)
set_option maxRecDepth 100000 in
set_option maxHeartbeats 4000000 in
theorem kL_law_736 {l : Launch} {g : evG} {p : Program} {e : Env} {s : State} {m : MethodId} {b L : Nat} {xs : Nat → Int32} {below : List Frame} {meth : Method} {c : Code} {ad : Nat → Nat → Nat} {zm : Nat → Nat} (C : ctx g p s m #[Value.ref b] meth c RL code 4 ret (fun q : Nat => s.heap.size ≤ q)) (hX : va_X b L xs s s.heap) (hbl : b < s.heap.size) {rec18 : Gp → Gp → Gp → Gp → Gp → Gp → Gp → Gp → Gp → Gp → Gp → Gp → Gp → Gp → Gp → Int32 → Option (Int32)} (hr18 : ∀ (Tm : Gp) (Te : Gp) (Tp : Gp) (Tl : Gp) (Td : Gp) (Tk : Gp) (Tx : Gp) (Tt : Gp) (Tv : Gp) (Ta : Gp) (Tb : Gp) (Tn : Gp) (Th : Gp) (Tg : Gp) (Tr : Gp) (x3 : Int32) (H : Heap) (locs : List Loc) (ls : Array Slot), rec18 Tm Te Tp Tl Td Tk Tx Tt Tv Ta Tb Tn Th Tg Tr x3 = some (1 : Int32) → wl g (fun q : Nat => s.heap.size ≤ q) s.heap (gcM g zm Tm ++ (gcE g ad Te ++ (gcP g (ad 9) (ad 1) Tp ++ (gcL g (ad 4) (ad 5) Tl ++ (gcD g (ad 6) Td ++ (gcK g (ad 5) (ad 3) Tk ++ (gcX g (ad 3) Tx ++ (gcT g (ad 1) Tt ++ (gcT g (ad 2) Tv ++ (gcD g (ad 7) Ta ++ (gcD g (ad 8) Tb ++ (gcN g (ad 10) Tn ++ (gcH g (ad 11) Th ++ (gcG g (ad 12) Tg ++ (gcR g (ad 13) Tr))))))))))))))) H locs → lv_has ls 4 [(0, .ref b), (1, .ref ((ad 0) 0)), (2, .ref (zm 0)), (3, .int x3)] → W p l e room_1 s m #[Value.ref b] below meth c H locs 68 17327 (lw_Z below #[Value.ref b] s) (F0 m 18 ls [])) {Tm : Gp} {Te : Gp} {Tp : Gp} {Tl : Gp} {Td : Gp} {Tk : Gp} {Tx : Gp} {Tt : Gp} {Tv : Gp} {Ta : Gp} {Tb : Gp} {Tn : Gp} {Th : Gp} {Tg : Gp} {Tr : Gp} {x3 : Int32} {y1 : Int32} {y2 : Int32} {y3 : Int32} {y4 : Int32} {H : Heap} {locs : List Loc} {ls : Array Slot} (hf : fL_law_736 xs L rec18 Tm Te Tp Tl Td Tk Tx Tt Tv Ta Tb Tn Th Tg Tr x3 y1 y2 y3 y4 = some (1 : Int32)) (hw : wl g (fun q : Nat => s.heap.size ≤ q) s.heap (gcM g zm Tm ++ (gcE g ad Te ++ (gcP g (ad 9) (ad 1) Tp ++ (gcL g (ad 4) (ad 5) Tl ++ (gcD g (ad 6) Td ++ (gcK g (ad 5) (ad 3) Tk ++ (gcX g (ad 3) Tx ++ (gcT g (ad 1) Tt ++ (gcT g (ad 2) Tv ++ (gcD g (ad 7) Ta ++ (gcD g (ad 8) Tb ++ (gcN g (ad 10) Tn ++ (gcH g (ad 11) Th ++ (gcG g (ad 12) Tg ++ (gcR g (ad 13) Tr))))))))))))))) H locs) (hl : lv_has ls 4 [(0, .ref b), (1, .ref ((ad 0) 0)), (2, .ref (zm 0)), (3, .int x3)]) : W p l e room_1 s m #[Value.ref b] below meth c H locs 68 17327 (lw_Z below #[Value.ref b] s) (F0 m 736 ls [.int y4, .int y3, .int y2, .int y1, .ref ((ad 0) 0)]) := by
  obtain ⟨hx, hb, hml, hown, hts, -⟩ := id C
  have hbA : ¬ (fun q : Nat => s.heap.size ≤ q) b := Nat.not_le.mpr hbl
  unfold fL_law_736 at hf
  obtain ⟨r1, Tn_2, hc3, hf⟩ := bd2_e hf
  refine r_selVi C hw (c_X10_news (ad := ad) hc3) md_X10_news (Sel.skip _ (Sel.take (gcE g ad Te) (gcE g ad Te) rfl rfl (Sel.skip _ (Sel.skip _ (Sel.skip _ (Sel.skip _ (Sel.skip _ (Sel.skip _ (Sel.skip _ (Sel.skip _ (Sel.skip _ (Sel.one (gcN g (ad 10) Tn) (gcN g (ad 10) Tn_2) _ rfl rfl)))))))))))) q3_232 19 rfl cf_X10.1 ⟨Nat.le_of_ble_eq_true rfl, Nat.le_of_ble_eq_true rfl⟩ ⟨Nat.le_refl _, Nat.le_refl _⟩ hl.1 rfl rfl (Nat.le_of_ble_eq_true rfl) dL_law_736 (fun H locs hw => ?_)
  refine lv_aload_n hx hb dL_law_739 rfl (lv_at hl 2 rfl) ?_
  refine lv_aload_n hx hb dL_law_740 rfl (lv_at hl 0 rfl) ?_
  refine lv_iload_n hx hb dL_law_741 rfl (lv_at hl 3 rfl) ?_
  refine lv_iconst (v := (1 : Int32)) hx hb dL_law_742 rfl ?_
  refine lv_iadd hx hb dL_law_743 ?_
  obtain ⟨hi4, hf⟩ := it_g hf
  refine va_sld hx hb hX hbl hbA hw.2.2 hi4 dL_law_744 ?_
  refine lv_aload_n hx hb dL_law_745 rfl (lv_at hl 0 rfl) ?_
  refine lv_iload_n hx hb dL_law_746 rfl (lv_at hl 3 rfl) ?_
  refine lv_iconst (v := (2 : Int32)) hx hb dL_law_747 rfl ?_
  refine lv_iadd hx hb dL_law_748 ?_
  obtain ⟨hi5, hf⟩ := it_g hf
  refine va_sld hx hb hX hbl hbA hw.2.2 hi5 dL_law_749 ?_
  refine lv_aload_n hx hb dL_law_750 rfl (lv_at hl 0 rfl) ?_
  refine lv_iload_n hx hb dL_law_751 rfl (lv_at hl 3 rfl) ?_
  refine lv_iconst (v := (3 : Int32)) hx hb dL_law_752 rfl ?_
  refine lv_iadd hx hb dL_law_753 ?_
  obtain ⟨hi6, hf⟩ := it_g hf
  refine va_sld hx hb hX hbl hbA hw.2.2 hi6 dL_law_754 ?_
  refine lv_aload_n hx hb dL_law_755 rfl (lv_at hl 0 rfl) ?_
  refine lv_iload_n hx hb dL_law_756 rfl (lv_at hl 3 rfl) ?_
  refine lv_iconst (v := (4 : Int32)) hx hb dL_law_757 rfl ?_
  refine lv_iadd hx hb dL_law_758 ?_
  obtain ⟨hi7, hf⟩ := it_g hf
  refine va_sld hx hb hX hbl hbA hw.2.2 hi7 dL_law_759 ?_
  refine lv_if_eq (tgt := 767) hx hb dL_law_760 (by decide) (fun hc8 => ?_) (fun hc8 => ?_)
  · have hf := it_p hf hc8
    refine lv_iconst (v := (0 : Int32)) hx hb dL_law_767 rfl ?_
    exact kL_law_768 (ad := ad) (zm := zm) C hX hbl hr18 hf hw (lv_sub hl [0, 1, 2, 3] rfl)
  · have hf := it_n hf hc8
    refine lv_iconst (v := (1 : Int32)) hx hb dL_law_763 rfl ?_
    refine lv_goto (tgt := 768) hx hb dL_law_764 (by decide) ?_
    exact kL_law_768 (ad := ad) (zm := zm) C hX hbl hr18 hf hw (lv_sub hl [0, 1, 2, 3] rfl)
set_option maxRecDepth 100000 in
set_option maxHeartbeats 4000000 in
theorem kL_law_448 {l : Launch} {g : evG} {p : Program} {e : Env} {s : State} {m : MethodId} {b L : Nat} {xs : Nat → Int32} {below : List Frame} {meth : Method} {c : Code} {ad : Nat → Nat → Nat} {zm : Nat → Nat} (C : ctx g p s m #[Value.ref b] meth c RL code 4 ret (fun q : Nat => s.heap.size ≤ q)) (hX : va_X b L xs s s.heap) (hbl : b < s.heap.size) {rec18 : Gp → Gp → Gp → Gp → Gp → Gp → Gp → Gp → Gp → Gp → Gp → Gp → Gp → Gp → Gp → Int32 → Option (Int32)} (hr18 : ∀ (Tm : Gp) (Te : Gp) (Tp : Gp) (Tl : Gp) (Td : Gp) (Tk : Gp) (Tx : Gp) (Tt : Gp) (Tv : Gp) (Ta : Gp) (Tb : Gp) (Tn : Gp) (Th : Gp) (Tg : Gp) (Tr : Gp) (x3 : Int32) (H : Heap) (locs : List Loc) (ls : Array Slot), rec18 Tm Te Tp Tl Td Tk Tx Tt Tv Ta Tb Tn Th Tg Tr x3 = some (1 : Int32) → wl g (fun q : Nat => s.heap.size ≤ q) s.heap (gcM g zm Tm ++ (gcE g ad Te ++ (gcP g (ad 9) (ad 1) Tp ++ (gcL g (ad 4) (ad 5) Tl ++ (gcD g (ad 6) Td ++ (gcK g (ad 5) (ad 3) Tk ++ (gcX g (ad 3) Tx ++ (gcT g (ad 1) Tt ++ (gcT g (ad 2) Tv ++ (gcD g (ad 7) Ta ++ (gcD g (ad 8) Tb ++ (gcN g (ad 10) Tn ++ (gcH g (ad 11) Th ++ (gcG g (ad 12) Tg ++ (gcR g (ad 13) Tr))))))))))))))) H locs → lv_has ls 4 [(0, .ref b), (1, .ref ((ad 0) 0)), (2, .ref (zm 0)), (3, .int x3)] → W p l e room_1 s m #[Value.ref b] below meth c H locs 68 17327 (lw_Z below #[Value.ref b] s) (F0 m 18 ls [])) {Tm : Gp} {Te : Gp} {Tp : Gp} {Tl : Gp} {Td : Gp} {Tk : Gp} {Tx : Gp} {Tt : Gp} {Tv : Gp} {Ta : Gp} {Tb : Gp} {Tn : Gp} {Th : Gp} {Tg : Gp} {Tr : Gp} {x3 : Int32} {y0 : Int32} {y2 : Int32} {y3 : Int32} {y4 : Int32} {H : Heap} {locs : List Loc} {ls : Array Slot} (hf : fL_law_448 xs L rec18 Tm Te Tp Tl Td Tk Tx Tt Tv Ta Tb Tn Th Tg Tr x3 y0 y2 y3 y4 = some (1 : Int32)) (hw : wl g (fun q : Nat => s.heap.size ≤ q) s.heap (gcM g zm Tm ++ (gcE g ad Te ++ (gcP g (ad 9) (ad 1) Tp ++ (gcL g (ad 4) (ad 5) Tl ++ (gcD g (ad 6) Td ++ (gcK g (ad 5) (ad 3) Tk ++ (gcX g (ad 3) Tx ++ (gcT g (ad 1) Tt ++ (gcT g (ad 2) Tv ++ (gcD g (ad 7) Ta ++ (gcD g (ad 8) Tb ++ (gcN g (ad 10) Tn ++ (gcH g (ad 11) Th ++ (gcG g (ad 12) Tg ++ (gcR g (ad 13) Tr))))))))))))))) H locs) (hl : lv_has ls 4 [(0, .ref b), (1, .ref ((ad 0) 0)), (2, .ref (zm 0)), (3, .int x3)]) : W p l e room_1 s m #[Value.ref b] below meth c H locs 68 17327 (lw_Z below #[Value.ref b] s) (F0 m 448 ls [.int y4, .int y3, .int y2, .ref (zm 0), .int y0]) := by
  obtain ⟨hx, hb, hml, hown, hts, -⟩ := id C
  have hbA : ¬ (fun q : Nat => s.heap.size ≤ q) b := Nat.not_le.mpr hbl
  unfold fL_law_448 at hf
  obtain ⟨r1, Tm_2, hc3, hf⟩ := bd2_e hf
  refine r_selVi C hw (c_X11_ill (zm := zm) hc3) md_X11_ill (Sel.one (gcM g zm Tm) (gcM g zm Tm_2) _ rfl rfl) q5_122 0 rfl cf_X11.1 ⟨Nat.le_of_ble_eq_true rfl, Nat.le_of_ble_eq_true rfl⟩ ⟨Nat.le_refl _, Nat.le_refl _⟩ hl.1 rfl rfl (Nat.le_of_ble_eq_true rfl) dL_law_448 (fun H locs hw => ?_)
  refine lv_icmp_eq (tgt := 1115) hx hb dL_law_451 (by decide) (fun hc4 => ?_) (fun hc4 => ?_)
  · have hf := it_p hf hc4
    refine lv_iinc (v := (x3 + (6 : Int32))) (lv' := [(3, .int (x3 + (6 : Int32))), (0, .ref b), (1, .ref ((ad 0) 0)), (2, .ref (zm 0))]) hx hb dL_law_1115 hl (k := 3) rfl rfl (by decide) rfl (fun ls hl => ?_)
    refine lv_goto (tgt := 18) hx hb dL_law_1118 (by decide) ?_
    exact hr18 _ _ _ _ _ _ _ _ _ _ _ _ _ _ _ _ _ _ _ hf hw (lv_sub hl [1, 2, 3, 0] rfl)
  · have hf := it_n hf hc4
    refine lv_iconst (v := (0 : Int32)) hx hb dL_law_454 rfl ?_
    exact absurd (so1 hf) (by decide)
set_option maxRecDepth 100000 in
set_option maxHeartbeats 4000000 in
theorem kL_law_421 {l : Launch} {g : evG} {p : Program} {e : Env} {s : State} {m : MethodId} {b L : Nat} {xs : Nat → Int32} {below : List Frame} {meth : Method} {c : Code} {ad : Nat → Nat → Nat} {zm : Nat → Nat} (C : ctx g p s m #[Value.ref b] meth c RL code 4 ret (fun q : Nat => s.heap.size ≤ q)) (hX : va_X b L xs s s.heap) (hbl : b < s.heap.size) {rec18 : Gp → Gp → Gp → Gp → Gp → Gp → Gp → Gp → Gp → Gp → Gp → Gp → Gp → Gp → Gp → Int32 → Option (Int32)} (hr18 : ∀ (Tm : Gp) (Te : Gp) (Tp : Gp) (Tl : Gp) (Td : Gp) (Tk : Gp) (Tx : Gp) (Tt : Gp) (Tv : Gp) (Ta : Gp) (Tb : Gp) (Tn : Gp) (Th : Gp) (Tg : Gp) (Tr : Gp) (x3 : Int32) (H : Heap) (locs : List Loc) (ls : Array Slot), rec18 Tm Te Tp Tl Td Tk Tx Tt Tv Ta Tb Tn Th Tg Tr x3 = some (1 : Int32) → wl g (fun q : Nat => s.heap.size ≤ q) s.heap (gcM g zm Tm ++ (gcE g ad Te ++ (gcP g (ad 9) (ad 1) Tp ++ (gcL g (ad 4) (ad 5) Tl ++ (gcD g (ad 6) Td ++ (gcK g (ad 5) (ad 3) Tk ++ (gcX g (ad 3) Tx ++ (gcT g (ad 1) Tt ++ (gcT g (ad 2) Tv ++ (gcD g (ad 7) Ta ++ (gcD g (ad 8) Tb ++ (gcN g (ad 10) Tn ++ (gcH g (ad 11) Th ++ (gcG g (ad 12) Tg ++ (gcR g (ad 13) Tr))))))))))))))) H locs → lv_has ls 4 [(0, .ref b), (1, .ref ((ad 0) 0)), (2, .ref (zm 0)), (3, .int x3)] → W p l e room_1 s m #[Value.ref b] below meth c H locs 68 17327 (lw_Z below #[Value.ref b] s) (F0 m 18 ls [])) {Tm : Gp} {Te : Gp} {Tp : Gp} {Tl : Gp} {Td : Gp} {Tk : Gp} {Tx : Gp} {Tt : Gp} {Tv : Gp} {Ta : Gp} {Tb : Gp} {Tn : Gp} {Th : Gp} {Tg : Gp} {Tr : Gp} {x3 : Int32} {y1 : Int32} {y2 : Int32} {y3 : Int32} {H : Heap} {locs : List Loc} {ls : Array Slot} (hf : fL_law_421 xs L rec18 Tm Te Tp Tl Td Tk Tx Tt Tv Ta Tb Tn Th Tg Tr x3 y1 y2 y3 = some (1 : Int32)) (hw : wl g (fun q : Nat => s.heap.size ≤ q) s.heap (gcM g zm Tm ++ (gcE g ad Te ++ (gcP g (ad 9) (ad 1) Tp ++ (gcL g (ad 4) (ad 5) Tl ++ (gcD g (ad 6) Td ++ (gcK g (ad 5) (ad 3) Tk ++ (gcX g (ad 3) Tx ++ (gcT g (ad 1) Tt ++ (gcT g (ad 2) Tv ++ (gcD g (ad 7) Ta ++ (gcD g (ad 8) Tb ++ (gcN g (ad 10) Tn ++ (gcH g (ad 11) Th ++ (gcG g (ad 12) Tg ++ (gcR g (ad 13) Tr))))))))))))))) H locs) (hl : lv_has ls 4 [(0, .ref b), (1, .ref ((ad 0) 0)), (2, .ref (zm 0)), (3, .int x3)]) : W p l e room_1 s m #[Value.ref b] below meth c H locs 68 17327 (lw_Z below #[Value.ref b] s) (F0 m 421 ls [.int y3, .int y2, .int y1, .ref ((ad 0) 0)]) := by
  obtain ⟨hx, hb, hml, hown, hts, -⟩ := id C
  have hbA : ¬ (fun q : Nat => s.heap.size ≤ q) b := Nat.not_le.mpr hbl
  unfold fL_law_421 at hf
  obtain ⟨r1, Td_2, hc3, hf⟩ := bd2_e hf
  refine r_selVi C hw (c_X10_ill (ad := ad) hc3) md_X10_ill (Sel.skip _ (Sel.take (gcE g ad Te) (gcE g ad Te) rfl rfl (Sel.skip _ (Sel.skip _ (Sel.take (gcD g (ad 6) Td) (gcD g (ad 6) Td_2) rfl rfl (Sel.skip _ (Sel.skip _ (Sel.one (gcT g (ad 1) Tt) (gcT g (ad 1) Tt) _ rfl rfl)))))))) q3_51 19 rfl cf_X10.1 ⟨Nat.le_of_ble_eq_true rfl, Nat.le_of_ble_eq_true rfl⟩ ⟨Nat.le_refl _, Nat.le_refl _⟩ hl.1 rfl rfl (Nat.le_of_ble_eq_true rfl) dL_law_421 (fun H locs hw => ?_)
  refine lv_aload_n hx hb dL_law_424 rfl (lv_at hl 2 rfl) ?_
  refine lv_aload_n hx hb dL_law_425 rfl (lv_at hl 0 rfl) ?_
  refine lv_iload_n hx hb dL_law_426 rfl (lv_at hl 3 rfl) ?_
  refine lv_iconst (v := (1 : Int32)) hx hb dL_law_427 rfl ?_
  refine lv_iadd hx hb dL_law_428 ?_
  obtain ⟨hi4, hf⟩ := it_g hf
  refine va_sld hx hb hX hbl hbA hw.2.2 hi4 dL_law_429 ?_
  refine lv_aload_n hx hb dL_law_430 rfl (lv_at hl 0 rfl) ?_
  refine lv_iload_n hx hb dL_law_431 rfl (lv_at hl 3 rfl) ?_
  refine lv_iconst (v := (2 : Int32)) hx hb dL_law_432 rfl ?_
  refine lv_iadd hx hb dL_law_433 ?_
  obtain ⟨hi5, hf⟩ := it_g hf
  refine va_sld hx hb hX hbl hbA hw.2.2 hi5 dL_law_434 ?_
  refine lv_aload_n hx hb dL_law_435 rfl (lv_at hl 0 rfl) ?_
  refine lv_iload_n hx hb dL_law_436 rfl (lv_at hl 3 rfl) ?_
  refine lv_iconst (v := (3 : Int32)) hx hb dL_law_437 rfl ?_
  refine lv_iadd hx hb dL_law_438 ?_
  obtain ⟨hi6, hf⟩ := it_g hf
  refine va_sld hx hb hX hbl hbA hw.2.2 hi6 dL_law_439 ?_
  refine lv_if_eq (tgt := 447) hx hb dL_law_440 (by decide) (fun hc7 => ?_) (fun hc7 => ?_)
  · have hf := it_p hf hc7
    refine lv_iconst (v := (0 : Int32)) hx hb dL_law_447 rfl ?_
    exact kL_law_448 (ad := ad) (zm := zm) C hX hbl hr18 hf hw (lv_sub hl [0, 1, 2, 3] rfl)
  · have hf := it_n hf hc7
    refine lv_iconst (v := (1 : Int32)) hx hb dL_law_443 rfl ?_
    refine lv_goto (tgt := 448) hx hb dL_law_444 (by decide) ?_
    exact kL_law_448 (ad := ad) (zm := zm) C hX hbl hr18 hf hw (lv_sub hl [0, 1, 2, 3] rfl)
set_option maxRecDepth 100000 in
set_option maxHeartbeats 4000000 in
theorem kL_law_18 {l : Launch} {g : evG} {p : Program} {e : Env} {s : State} {m : MethodId} {b L : Nat} {xs : Nat → Int32} {below : List Frame} {meth : Method} {c : Code} {ad : Nat → Nat → Nat} {zm : Nat → Nat} (C : ctx g p s m #[Value.ref b] meth c RL code 4 ret (fun q : Nat => s.heap.size ≤ q)) (hX : va_X b L xs s s.heap) (hbl : b < s.heap.size) {rec18 : Gp → Gp → Gp → Gp → Gp → Gp → Gp → Gp → Gp → Gp → Gp → Gp → Gp → Gp → Gp → Int32 → Option (Int32)} (hr18 : ∀ (Tm : Gp) (Te : Gp) (Tp : Gp) (Tl : Gp) (Td : Gp) (Tk : Gp) (Tx : Gp) (Tt : Gp) (Tv : Gp) (Ta : Gp) (Tb : Gp) (Tn : Gp) (Th : Gp) (Tg : Gp) (Tr : Gp) (x3 : Int32) (H : Heap) (locs : List Loc) (ls : Array Slot), rec18 Tm Te Tp Tl Td Tk Tx Tt Tv Ta Tb Tn Th Tg Tr x3 = some (1 : Int32) → wl g (fun q : Nat => s.heap.size ≤ q) s.heap (gcM g zm Tm ++ (gcE g ad Te ++ (gcP g (ad 9) (ad 1) Tp ++ (gcL g (ad 4) (ad 5) Tl ++ (gcD g (ad 6) Td ++ (gcK g (ad 5) (ad 3) Tk ++ (gcX g (ad 3) Tx ++ (gcT g (ad 1) Tt ++ (gcT g (ad 2) Tv ++ (gcD g (ad 7) Ta ++ (gcD g (ad 8) Tb ++ (gcN g (ad 10) Tn ++ (gcH g (ad 11) Th ++ (gcG g (ad 12) Tg ++ (gcR g (ad 13) Tr))))))))))))))) H locs → lv_has ls 4 [(0, .ref b), (1, .ref ((ad 0) 0)), (2, .ref (zm 0)), (3, .int x3)] → W p l e room_1 s m #[Value.ref b] below meth c H locs 68 17327 (lw_Z below #[Value.ref b] s) (F0 m 18 ls [])) {Tm : Gp} {Te : Gp} {Tp : Gp} {Tl : Gp} {Td : Gp} {Tk : Gp} {Tx : Gp} {Tt : Gp} {Tv : Gp} {Ta : Gp} {Tb : Gp} {Tn : Gp} {Th : Gp} {Tg : Gp} {Tr : Gp} {x3 : Int32} {H : Heap} {locs : List Loc} {ls : Array Slot} (hf : fL_law_18 xs L rec18 Tm Te Tp Tl Td Tk Tx Tt Tv Ta Tb Tn Th Tg Tr x3 = some (1 : Int32)) (hw : wl g (fun q : Nat => s.heap.size ≤ q) s.heap (gcM g zm Tm ++ (gcE g ad Te ++ (gcP g (ad 9) (ad 1) Tp ++ (gcL g (ad 4) (ad 5) Tl ++ (gcD g (ad 6) Td ++ (gcK g (ad 5) (ad 3) Tk ++ (gcX g (ad 3) Tx ++ (gcT g (ad 1) Tt ++ (gcT g (ad 2) Tv ++ (gcD g (ad 7) Ta ++ (gcD g (ad 8) Tb ++ (gcN g (ad 10) Tn ++ (gcH g (ad 11) Th ++ (gcG g (ad 12) Tg ++ (gcR g (ad 13) Tr))))))))))))))) H locs) (hl : lv_has ls 4 [(0, .ref b), (1, .ref ((ad 0) 0)), (2, .ref (zm 0)), (3, .int x3)]) : W p l e room_1 s m #[Value.ref b] below meth c H locs 68 17327 (lw_Z below #[Value.ref b] s) (F0 m 18 ls []) := by
  obtain ⟨hx, hb, hml, hown, hts, -⟩ := id C
  have hbA : ¬ (fun q : Nat => s.heap.size ≤ q) b := Nat.not_le.mpr hbl
  unfold fL_law_18 at hf
  refine lv_iload_n hx hb dL_law_18 rfl (lv_at hl 3 rfl) ?_
  refine lv_aload_n hx hb dL_law_19 rfl (lv_at hl 0 rfl) ?_
  refine va_slen hx hb hX hbl hbA hw.2.2 dL_law_20 ?_
  refine lv_bipush (v := (6 : Int32)) hx hb dL_law_21 rfl ?_
  refine lv_isub hx hb dL_law_23 ?_
  refine lv_icmp_gt (tgt := 1121) hx hb dL_law_24 (by decide) (fun hc297 => ?_) (fun hc297 => ?_)
  · have hf := it_p hf hc297
    refine lv_iconst (v := (1 : Int32)) hx hb dL_law_1121 rfl ?_
    refine va_forget (fun q hq => hw.2.2.2.2 q hq) ?_
    exact lw_ret hx hb C.2.2.2.2.2.2.1 C.2.2.2.2.2.1 dL_law_1122
  · have hf := it_n hf hc297
    refine lv_aload_n hx hb dL_law_27 rfl (lv_at hl 0 rfl) ?_
    refine lv_iload_n hx hb dL_law_28 rfl (lv_at hl 3 rfl) ?_
    obtain ⟨hi1, hf⟩ := it_g hf
    refine va_sld hx hb hX hbl hbA hw.2.2 hi1 dL_law_29 ?_
    refine lv_bipush (v := (31 : Int32)) hx hb dL_law_30 rfl ?_
    refine lv_iand hx hb dL_law_32 ?_
    by_cases hs15 : ((xs x3.toNatClampNeg) &&& (31 : Int32)) = (0 : Int32)
    · have hf := it_p hf hs15
      refine lv_tableIn (off := 123) (tgt := 156) hx hb dL_law_33 (by rw [hs15]; decide) (by rw [hs15]; decide) (by rw [hs15]; rfl) (by decide) ?_
      refine lv_aload_n hx hb dL_law_156 rfl (lv_at hl 1 rfl) ?_
      refine lv_aload_n hx hb dL_law_157 rfl (lv_at hl 0 rfl) ?_
      refine lv_iload_n hx hb dL_law_158 rfl (lv_at hl 3 rfl) ?_
      refine lv_iconst (v := (1 : Int32)) hx hb dL_law_159 rfl ?_
      refine lv_iadd hx hb dL_law_160 ?_
      obtain ⟨hi2, hf⟩ := it_g hf
      refine va_sld hx hb hX hbl hbA hw.2.2 hi2 dL_law_161 ?_
      refine lv_i2l hx hb dL_law_162 rfl ?_
      refine lv_bipush (v := (32 : Int32)) hx hb dL_law_163 rfl ?_
      refine lv_lshl hx hb dL_law_165 rfl ?_
      refine lv_aload_n hx hb dL_law_166 rfl (lv_at hl 0 rfl) ?_
      refine lv_iload_n hx hb dL_law_167 rfl (lv_at hl 3 rfl) ?_
      refine lv_iconst (v := (2 : Int32)) hx hb dL_law_168 rfl ?_
      refine lv_iadd hx hb dL_law_169 ?_
      obtain ⟨hi3, hf⟩ := it_g hf
      refine va_sld hx hb hX hbl hbA hw.2.2 hi3 dL_law_170 ?_
      refine lv_i2l hx hb dL_law_171 rfl ?_
      refine lv_ldc2 (v := (4294967295 : Int64)) hx hb hown (hts _ q6_49) dL_law_172 ?_
      refine lv_land hx hb dL_law_175 ?_
      refine lv_lor hx hb dL_law_176 ?_
      refine lv_aload_n hx hb dL_law_177 rfl (lv_at hl 0 rfl) ?_
      refine lv_iload_n hx hb dL_law_178 rfl (lv_at hl 3 rfl) ?_
      refine lv_iconst (v := (3 : Int32)) hx hb dL_law_179 rfl ?_
      refine lv_iadd hx hb dL_law_180 ?_
      obtain ⟨hi4, hf⟩ := it_g hf
      refine va_sld hx hb hX hbl hbA hw.2.2 hi4 dL_law_181 ?_
      obtain ⟨r5, Tx_6, hc7, hf⟩ := bd2_e hf
      refine r_selVi C hw (c_X10_write (ad := ad) hc7) md_X10_write (Sel.skip _ (Sel.take (gcE g ad Te) (gcE g ad Te) rfl rfl (Sel.skip _ (Sel.skip _ (Sel.skip _ (Sel.skip _ (Sel.one (gcX g (ad 3) Tx) (gcX g (ad 3) Tx_6) _ rfl rfl))))))) q2_47 19 rfl cf_X10.1 ⟨Nat.le_of_ble_eq_true rfl, Nat.le_of_ble_eq_true rfl⟩ ⟨Nat.le_refl _, Nat.le_refl _⟩ hl.1 rfl rfl (Nat.le_of_ble_eq_true rfl) dL_law_182 (fun H locs hw => ?_)
      refine lv_aload_n hx hb dL_law_185 rfl (lv_at hl 2 rfl) ?_
      refine lv_aload_n hx hb dL_law_186 rfl (lv_at hl 0 rfl) ?_
      refine lv_iload_n hx hb dL_law_187 rfl (lv_at hl 3 rfl) ?_
      refine lv_iconst (v := (1 : Int32)) hx hb dL_law_188 rfl ?_
      refine lv_iadd hx hb dL_law_189 ?_
      obtain ⟨hi8, hf⟩ := it_g hf
      refine va_sld hx hb hX hbl hbA hw.2.2 hi8 dL_law_190 ?_
      refine lv_i2l hx hb dL_law_191 rfl ?_
      refine lv_bipush (v := (32 : Int32)) hx hb dL_law_192 rfl ?_
      refine lv_lshl hx hb dL_law_194 rfl ?_
      refine lv_aload_n hx hb dL_law_195 rfl (lv_at hl 0 rfl) ?_
      refine lv_iload_n hx hb dL_law_196 rfl (lv_at hl 3 rfl) ?_
      refine lv_iconst (v := (2 : Int32)) hx hb dL_law_197 rfl ?_
      refine lv_iadd hx hb dL_law_198 ?_
      obtain ⟨hi9, hf⟩ := it_g hf
      refine va_sld hx hb hX hbl hbA hw.2.2 hi9 dL_law_199 ?_
      refine lv_i2l hx hb dL_law_200 rfl ?_
      refine lv_ldc2 (v := (4294967295 : Int64)) hx hb hown (hts _ q6_49) dL_law_201 ?_
      refine lv_land hx hb dL_law_204 ?_
      refine lv_lor hx hb dL_law_205 ?_
      refine lv_aload_n hx hb dL_law_206 rfl (lv_at hl 0 rfl) ?_
      refine lv_iload_n hx hb dL_law_207 rfl (lv_at hl 3 rfl) ?_
      refine lv_iconst (v := (3 : Int32)) hx hb dL_law_208 rfl ?_
      refine lv_iadd hx hb dL_law_209 ?_
      obtain ⟨hi10, hf⟩ := it_g hf
      refine va_sld hx hb hX hbl hbA hw.2.2 hi10 dL_law_210 ?_
      obtain ⟨r11, Tm_12, hc13, hf⟩ := bd2_e hf
      refine r_selVi C hw (c_X11_write (zm := zm) hc13) md_X11_write (Sel.one (gcM g zm Tm) (gcM g zm Tm_12) _ rfl rfl) q5_27 0 rfl cf_X11.1 ⟨Nat.le_of_ble_eq_true rfl, Nat.le_of_ble_eq_true rfl⟩ ⟨Nat.le_refl _, Nat.le_refl _⟩ hl.1 rfl rfl (Nat.le_of_ble_eq_true rfl) dL_law_211 (fun H locs hw => ?_)
      refine lv_icmp_eq (tgt := 1115) hx hb dL_law_214 (by decide) (fun hc14 => ?_) (fun hc14 => ?_)
      · have hf := it_p hf hc14
        refine lv_iinc (v := (x3 + (6 : Int32))) (lv' := [(3, .int (x3 + (6 : Int32))), (0, .ref b), (1, .ref ((ad 0) 0)), (2, .ref (zm 0))]) hx hb dL_law_1115 hl (k := 3) rfl rfl (by decide) rfl (fun ls hl => ?_)
        refine lv_goto (tgt := 18) hx hb dL_law_1118 (by decide) ?_
        exact hr18 _ _ _ _ _ _ _ _ _ _ _ _ _ _ _ _ _ _ _ hf hw (lv_sub hl [1, 2, 3, 0] rfl)
      · have hf := it_n hf hc14
        refine lv_iconst (v := (0 : Int32)) hx hb dL_law_217 rfl ?_
        exact absurd (so1 hf) (by decide)
    · have hf := it_n hf hs15
      by_cases hs23 : ((xs x3.toNatClampNeg) &&& (31 : Int32)) = (1 : Int32)
      · have hf := it_p hf hs23
        refine lv_tableIn (off := 186) (tgt := 219) hx hb dL_law_33 (by rw [hs23]; decide) (by rw [hs23]; decide) (by rw [hs23]; rfl) (by decide) ?_
        refine lv_aload_n hx hb dL_law_219 rfl (lv_at hl 1 rfl) ?_
        obtain ⟨r16, Tx_17, hc18, hf⟩ := bd2_e hf
        refine r_selVi C hw (c_X10_erase (ad := ad) hc18) md_X10_erase (Sel.skip _ (Sel.take (gcE g ad Te) (gcE g ad Te) rfl rfl (Sel.skip _ (Sel.skip _ (Sel.skip _ (Sel.skip _ (Sel.one (gcX g (ad 3) Tx) (gcX g (ad 3) Tx_17) _ rfl rfl))))))) q2_60 19 rfl cf_X10.1 ⟨Nat.le_of_ble_eq_true rfl, Nat.le_of_ble_eq_true rfl⟩ ⟨Nat.le_refl _, Nat.le_refl _⟩ hl.1 rfl rfl (Nat.le_of_ble_eq_true rfl) dL_law_220 (fun H locs hw => ?_)
        refine lv_aload_n hx hb dL_law_223 rfl (lv_at hl 2 rfl) ?_
        obtain ⟨r19, Tm_20, hc21, hf⟩ := bd2_e hf
        refine r_selVi C hw (c_X11_erase (zm := zm) hc21) md_X11_erase (Sel.one (gcM g zm Tm) (gcM g zm Tm_20) _ rfl rfl) q5_36 0 rfl cf_X11.1 ⟨Nat.le_of_ble_eq_true rfl, Nat.le_of_ble_eq_true rfl⟩ ⟨Nat.le_refl _, Nat.le_refl _⟩ hl.1 rfl rfl (Nat.le_of_ble_eq_true rfl) dL_law_224 (fun H locs hw => ?_)
        refine lv_icmp_eq (tgt := 1115) hx hb dL_law_227 (by decide) (fun hc22 => ?_) (fun hc22 => ?_)
        · have hf := it_p hf hc22
          refine lv_iinc (v := (x3 + (6 : Int32))) (lv' := [(3, .int (x3 + (6 : Int32))), (0, .ref b), (1, .ref ((ad 0) 0)), (2, .ref (zm 0))]) hx hb dL_law_1115 hl (k := 3) rfl rfl (by decide) rfl (fun ls hl => ?_)
          refine lv_goto (tgt := 18) hx hb dL_law_1118 (by decide) ?_
          exact hr18 _ _ _ _ _ _ _ _ _ _ _ _ _ _ _ _ _ _ _ hf hw (lv_sub hl [1, 2, 3, 0] rfl)
        · have hf := it_n hf hc22
          refine lv_iconst (v := (0 : Int32)) hx hb dL_law_230 rfl ?_
          exact absurd (so1 hf) (by decide)
      · have hf := it_n hf hs23
        by_cases hs33 : ((xs x3.toNatClampNeg) &&& (31 : Int32)) = (2 : Int32)
        · have hf := it_p hf hs33
          refine lv_tableIn (off := 199) (tgt := 232) hx hb dL_law_33 (by rw [hs33]; decide) (by rw [hs33]; decide) (by rw [hs33]; rfl) (by decide) ?_
          refine lv_aload_n hx hb dL_law_232 rfl (lv_at hl 1 rfl) ?_
          obtain ⟨r24, Tl_25, Tk_26, Tv_27, hc28, hf⟩ := bd4_e hf
          refine r_selVi C hw (c_X10_fault (ad := ad) hc28) md_X10_fault (Sel.skip _ (Sel.take (gcE g ad Te) (gcE g ad Te) rfl rfl (Sel.skip _ (Sel.take (gcL g (ad 4) (ad 5) Tl) (gcL g (ad 4) (ad 5) Tl_25) rfl rfl (Sel.skip _ (Sel.take (gcK g (ad 5) (ad 3) Tk) (gcK g (ad 5) (ad 3) Tk_26) rfl rfl (Sel.take (gcX g (ad 3) Tx) (gcX g (ad 3) Tx) rfl rfl (Sel.take (gcT g (ad 1) Tt) (gcT g (ad 1) Tt) rfl rfl (Sel.one (gcT g (ad 2) Tv) (gcT g (ad 2) Tv_27) _ rfl rfl))))))))) q2_64 19 rfl cf_X10.1 ⟨Nat.le_of_ble_eq_true rfl, Nat.le_of_ble_eq_true rfl⟩ ⟨Nat.le_refl _, Nat.le_refl _⟩ hl.1 rfl rfl (Nat.le_of_ble_eq_true rfl) dL_law_233 (fun H locs hw => ?_)
          refine lv_aload_n hx hb dL_law_236 rfl (lv_at hl 2 rfl) ?_
          obtain ⟨r29, Tm_30, hc31, hf⟩ := bd2_e hf
          refine r_selVi C hw (c_X11_fault (zm := zm) hc31) md_X11_fault (Sel.one (gcM g zm Tm) (gcM g zm Tm_30) _ rfl rfl) q5_40 0 rfl cf_X11.1 ⟨Nat.le_of_ble_eq_true rfl, Nat.le_of_ble_eq_true rfl⟩ ⟨Nat.le_refl _, Nat.le_refl _⟩ hl.1 rfl rfl (Nat.le_of_ble_eq_true rfl) dL_law_237 (fun H locs hw => ?_)
          refine lv_icmp_eq (tgt := 1115) hx hb dL_law_240 (by decide) (fun hc32 => ?_) (fun hc32 => ?_)
          · have hf := it_p hf hc32
            refine lv_iinc (v := (x3 + (6 : Int32))) (lv' := [(3, .int (x3 + (6 : Int32))), (0, .ref b), (1, .ref ((ad 0) 0)), (2, .ref (zm 0))]) hx hb dL_law_1115 hl (k := 3) rfl rfl (by decide) rfl (fun ls hl => ?_)
            refine lv_goto (tgt := 18) hx hb dL_law_1118 (by decide) ?_
            exact hr18 _ _ _ _ _ _ _ _ _ _ _ _ _ _ _ _ _ _ _ hf hw (lv_sub hl [1, 2, 3, 0] rfl)
          · have hf := it_n hf hc32
            refine lv_iconst (v := (0 : Int32)) hx hb dL_law_243 rfl ?_
            exact absurd (so1 hf) (by decide)
        · have hf := it_n hf hs33
          by_cases hs48 : ((xs x3.toNatClampNeg) &&& (31 : Int32)) = (3 : Int32)
          · have hf := it_p hf hs48
            refine lv_tableIn (off := 212) (tgt := 245) hx hb dL_law_33 (by rw [hs48]; decide) (by rw [hs48]; decide) (by rw [hs48]; rfl) (by decide) ?_
            refine lv_aload_n hx hb dL_law_245 rfl (lv_at hl 1 rfl) ?_
            obtain ⟨r34, Te_35, Tp_36, Tl_37, Td_38, Tk_39, Tx_40, Tt_41, Tv_42, hc43, hf⟩ := bd9_e hf
            refine r_selVi C hw (c_X10_treaty (ad := ad) hc43) md_X10_treaty (Sel.skip _ (Sel.take (gcE g ad Te) (gcE g ad Te_35) rfl rfl (Sel.take (gcP g (ad 9) (ad 1) Tp) (gcP g (ad 9) (ad 1) Tp_36) rfl rfl (Sel.take (gcL g (ad 4) (ad 5) Tl) (gcL g (ad 4) (ad 5) Tl_37) rfl rfl (Sel.take (gcD g (ad 6) Td) (gcD g (ad 6) Td_38) rfl rfl (Sel.take (gcK g (ad 5) (ad 3) Tk) (gcK g (ad 5) (ad 3) Tk_39) rfl rfl (Sel.take (gcX g (ad 3) Tx) (gcX g (ad 3) Tx_40) rfl rfl (Sel.take (gcT g (ad 1) Tt) (gcT g (ad 1) Tt_41) rfl rfl (Sel.one (gcT g (ad 2) Tv) (gcT g (ad 2) Tv_42) _ rfl rfl))))))))) q2_233 19 rfl cf_X10.1 ⟨Nat.le_of_ble_eq_true rfl, Nat.le_of_ble_eq_true rfl⟩ ⟨Nat.le_refl _, Nat.le_refl _⟩ hl.1 rfl rfl (Nat.le_of_ble_eq_true rfl) dL_law_246 (fun H locs hw => ?_)
            refine lv_aload_n hx hb dL_law_249 rfl (lv_at hl 2 rfl) ?_
            obtain ⟨r44, Tm_45, hc46, hf⟩ := bd2_e hf
            refine r_selVi C hw (c_X11_treaty (zm := zm) hc46) md_X11_treaty (Sel.one (gcM g zm Tm) (gcM g zm Tm_45) _ rfl rfl) q5_85 0 rfl cf_X11.1 ⟨Nat.le_of_ble_eq_true rfl, Nat.le_of_ble_eq_true rfl⟩ ⟨Nat.le_refl _, Nat.le_refl _⟩ hl.1 rfl rfl (Nat.le_of_ble_eq_true rfl) dL_law_250 (fun H locs hw => ?_)
            refine lv_icmp_eq (tgt := 1115) hx hb dL_law_253 (by decide) (fun hc47 => ?_) (fun hc47 => ?_)
            · have hf := it_p hf hc47
              refine lv_iinc (v := (x3 + (6 : Int32))) (lv' := [(3, .int (x3 + (6 : Int32))), (0, .ref b), (1, .ref ((ad 0) 0)), (2, .ref (zm 0))]) hx hb dL_law_1115 hl (k := 3) rfl rfl (by decide) rfl (fun ls hl => ?_)
              refine lv_goto (tgt := 18) hx hb dL_law_1118 (by decide) ?_
              exact hr18 _ _ _ _ _ _ _ _ _ _ _ _ _ _ _ _ _ _ _ hf hw (lv_sub hl [1, 2, 3, 0] rfl)
            · have hf := it_n hf hc47
              refine lv_iconst (v := (0 : Int32)) hx hb dL_law_256 rfl ?_
              exact absurd (so1 hf) (by decide)
          · have hf := it_n hf hs48
            by_cases hs58 : ((xs x3.toNatClampNeg) &&& (31 : Int32)) = (4 : Int32)
            · have hf := it_p hf hs58
              refine lv_tableIn (off := 225) (tgt := 258) hx hb dL_law_33 (by rw [hs58]; decide) (by rw [hs58]; decide) (by rw [hs58]; rfl) (by decide) ?_
              refine lv_aload_n hx hb dL_law_258 rfl (lv_at hl 1 rfl) ?_
              refine lv_aload_n hx hb dL_law_259 rfl (lv_at hl 0 rfl) ?_
              refine lv_iload_n hx hb dL_law_260 rfl (lv_at hl 3 rfl) ?_
              refine lv_iconst (v := (1 : Int32)) hx hb dL_law_261 rfl ?_
              refine lv_iadd hx hb dL_law_262 ?_
              obtain ⟨hi49, hf⟩ := it_g hf
              refine va_sld hx hb hX hbl hbA hw.2.2 hi49 dL_law_263 ?_
              refine lv_aload_n hx hb dL_law_264 rfl (lv_at hl 0 rfl) ?_
              refine lv_iload_n hx hb dL_law_265 rfl (lv_at hl 3 rfl) ?_
              refine lv_iconst (v := (2 : Int32)) hx hb dL_law_266 rfl ?_
              refine lv_iadd hx hb dL_law_267 ?_
              obtain ⟨hi50, hf⟩ := it_g hf
              refine va_sld hx hb hX hbl hbA hw.2.2 hi50 dL_law_268 ?_
              obtain ⟨r51, hc52, hf⟩ := bd1_e hf
              refine r_selVi C hw (c_X10_work (ad := ad) hc52) md_X10_work (Sel.skip _ (Sel.take (gcE g ad Te) (gcE g ad Te) rfl rfl (Sel.skip _ (Sel.skip _ (Sel.skip _ (Sel.skip _ (Sel.skip _ (Sel.one (gcT g (ad 1) Tt) (gcT g (ad 1) Tt) _ rfl rfl)))))))) q3_2 19 rfl cf_X10.1 ⟨Nat.le_of_ble_eq_true rfl, Nat.le_of_ble_eq_true rfl⟩ ⟨Nat.le_refl _, Nat.le_refl _⟩ hl.1 rfl rfl (Nat.le_of_ble_eq_true rfl) dL_law_269 (fun H locs hw => ?_)
              refine lv_aload_n hx hb dL_law_272 rfl (lv_at hl 2 rfl) ?_
              refine lv_aload_n hx hb dL_law_273 rfl (lv_at hl 0 rfl) ?_
              refine lv_iload_n hx hb dL_law_274 rfl (lv_at hl 3 rfl) ?_
              refine lv_iconst (v := (1 : Int32)) hx hb dL_law_275 rfl ?_
              refine lv_iadd hx hb dL_law_276 ?_
              obtain ⟨hi53, hf⟩ := it_g hf
              refine va_sld hx hb hX hbl hbA hw.2.2 hi53 dL_law_277 ?_
              refine lv_aload_n hx hb dL_law_278 rfl (lv_at hl 0 rfl) ?_
              refine lv_iload_n hx hb dL_law_279 rfl (lv_at hl 3 rfl) ?_
              refine lv_iconst (v := (2 : Int32)) hx hb dL_law_280 rfl ?_
              refine lv_iadd hx hb dL_law_281 ?_
              obtain ⟨hi54, hf⟩ := it_g hf
              refine va_sld hx hb hX hbl hbA hw.2.2 hi54 dL_law_282 ?_
              obtain ⟨r55, hc56, hf⟩ := bd1_e hf
              refine r_selVi C hw (c_X11_work (zm := zm) hc56) md_X11_work (Sel.one (gcM g zm Tm) (gcM g zm Tm) _ rfl rfl) q5_97 0 rfl cf_X11.1 ⟨Nat.le_of_ble_eq_true rfl, Nat.le_of_ble_eq_true rfl⟩ ⟨Nat.le_refl _, Nat.le_refl _⟩ hl.1 rfl rfl (Nat.le_of_ble_eq_true rfl) dL_law_283 (fun H locs hw => ?_)
              refine lv_icmp_eq (tgt := 1115) hx hb dL_law_286 (by decide) (fun hc57 => ?_) (fun hc57 => ?_)
              · have hf := it_p hf hc57
                refine lv_iinc (v := (x3 + (6 : Int32))) (lv' := [(3, .int (x3 + (6 : Int32))), (0, .ref b), (1, .ref ((ad 0) 0)), (2, .ref (zm 0))]) hx hb dL_law_1115 hl (k := 3) rfl rfl (by decide) rfl (fun ls hl => ?_)
                refine lv_goto (tgt := 18) hx hb dL_law_1118 (by decide) ?_
                exact hr18 _ _ _ _ _ _ _ _ _ _ _ _ _ _ _ _ _ _ _ hf hw (lv_sub hl [1, 2, 3, 0] rfl)
              · have hf := it_n hf hc57
                refine lv_iconst (v := (0 : Int32)) hx hb dL_law_289 rfl ?_
                exact absurd (so1 hf) (by decide)
            · have hf := it_n hf hs58
              by_cases hs72 : ((xs x3.toNatClampNeg) &&& (31 : Int32)) = (5 : Int32)
              · have hf := it_p hf hs72
                refine lv_tableIn (off := 258) (tgt := 291) hx hb dL_law_33 (by rw [hs72]; decide) (by rw [hs72]; decide) (by rw [hs72]; rfl) (by decide) ?_
                refine lv_aload_n hx hb dL_law_291 rfl (lv_at hl 1 rfl) ?_
                refine lv_aload_n hx hb dL_law_292 rfl (lv_at hl 0 rfl) ?_
                refine lv_iload_n hx hb dL_law_293 rfl (lv_at hl 3 rfl) ?_
                refine lv_iconst (v := (1 : Int32)) hx hb dL_law_294 rfl ?_
                refine lv_iadd hx hb dL_law_295 ?_
                obtain ⟨hi59, hf⟩ := it_g hf
                refine va_sld hx hb hX hbl hbA hw.2.2 hi59 dL_law_296 ?_
                refine lv_aload_n hx hb dL_law_297 rfl (lv_at hl 0 rfl) ?_
                refine lv_iload_n hx hb dL_law_298 rfl (lv_at hl 3 rfl) ?_
                refine lv_iconst (v := (2 : Int32)) hx hb dL_law_299 rfl ?_
                refine lv_iadd hx hb dL_law_300 ?_
                obtain ⟨hi60, hf⟩ := it_g hf
                refine va_sld hx hb hX hbl hbA hw.2.2 hi60 dL_law_301 ?_
                refine lv_aload_n hx hb dL_law_302 rfl (lv_at hl 0 rfl) ?_
                refine lv_iload_n hx hb dL_law_303 rfl (lv_at hl 3 rfl) ?_
                refine lv_iconst (v := (3 : Int32)) hx hb dL_law_304 rfl ?_
                refine lv_iadd hx hb dL_law_305 ?_
                obtain ⟨hi61, hf⟩ := it_g hf
                refine va_sld hx hb hX hbl hbA hw.2.2 hi61 dL_law_306 ?_
                refine lv_aload_n hx hb dL_law_307 rfl (lv_at hl 0 rfl) ?_
                refine lv_iload_n hx hb dL_law_308 rfl (lv_at hl 3 rfl) ?_
                refine lv_iconst (v := (4 : Int32)) hx hb dL_law_309 rfl ?_
                refine lv_iadd hx hb dL_law_310 ?_
                obtain ⟨hi62, hf⟩ := it_g hf
                refine va_sld hx hb hX hbl hbA hw.2.2 hi62 dL_law_311 ?_
                obtain ⟨r63, hc64, hf⟩ := bd1_e hf
                refine r_selVi C hw (c_X10_meant (ad := ad) hc64) md_X10_meant (Sel.skip _ (Sel.take (gcE g ad Te) (gcE g ad Te) rfl rfl (Sel.skip _ (Sel.skip _ (Sel.skip _ (Sel.skip _ (Sel.skip _ (Sel.one (gcT g (ad 1) Tt) (gcT g (ad 1) Tt) _ rfl rfl)))))))) q3_15 19 rfl cf_X10.1 ⟨Nat.le_of_ble_eq_true rfl, Nat.le_of_ble_eq_true rfl⟩ ⟨Nat.le_refl _, Nat.le_refl _⟩ hl.1 rfl rfl (Nat.le_of_ble_eq_true rfl) dL_law_312 (fun H locs hw => ?_)
                refine lv_aload_n hx hb dL_law_315 rfl (lv_at hl 2 rfl) ?_
                refine lv_aload_n hx hb dL_law_316 rfl (lv_at hl 0 rfl) ?_
                refine lv_iload_n hx hb dL_law_317 rfl (lv_at hl 3 rfl) ?_
                refine lv_iconst (v := (1 : Int32)) hx hb dL_law_318 rfl ?_
                refine lv_iadd hx hb dL_law_319 ?_
                obtain ⟨hi65, hf⟩ := it_g hf
                refine va_sld hx hb hX hbl hbA hw.2.2 hi65 dL_law_320 ?_
                refine lv_aload_n hx hb dL_law_321 rfl (lv_at hl 0 rfl) ?_
                refine lv_iload_n hx hb dL_law_322 rfl (lv_at hl 3 rfl) ?_
                refine lv_iconst (v := (2 : Int32)) hx hb dL_law_323 rfl ?_
                refine lv_iadd hx hb dL_law_324 ?_
                obtain ⟨hi66, hf⟩ := it_g hf
                refine va_sld hx hb hX hbl hbA hw.2.2 hi66 dL_law_325 ?_
                refine lv_aload_n hx hb dL_law_326 rfl (lv_at hl 0 rfl) ?_
                refine lv_iload_n hx hb dL_law_327 rfl (lv_at hl 3 rfl) ?_
                refine lv_iconst (v := (3 : Int32)) hx hb dL_law_328 rfl ?_
                refine lv_iadd hx hb dL_law_329 ?_
                obtain ⟨hi67, hf⟩ := it_g hf
                refine va_sld hx hb hX hbl hbA hw.2.2 hi67 dL_law_330 ?_
                refine lv_aload_n hx hb dL_law_331 rfl (lv_at hl 0 rfl) ?_
                refine lv_iload_n hx hb dL_law_332 rfl (lv_at hl 3 rfl) ?_
                refine lv_iconst (v := (4 : Int32)) hx hb dL_law_333 rfl ?_
                refine lv_iadd hx hb dL_law_334 ?_
                obtain ⟨hi68, hf⟩ := it_g hf
                refine va_sld hx hb hX hbl hbA hw.2.2 hi68 dL_law_335 ?_
                obtain ⟨r69, hc70, hf⟩ := bd1_e hf
                refine r_selVi C hw (c_X11_meant (zm := zm) hc70) md_X11_meant (Sel.one (gcM g zm Tm) (gcM g zm Tm) _ rfl rfl) q5_103 0 rfl cf_X11.1 ⟨Nat.le_of_ble_eq_true rfl, Nat.le_of_ble_eq_true rfl⟩ ⟨Nat.le_refl _, Nat.le_refl _⟩ hl.1 rfl rfl (Nat.le_of_ble_eq_true rfl) dL_law_336 (fun H locs hw => ?_)
                refine lv_icmp_eq (tgt := 1115) hx hb dL_law_339 (by decide) (fun hc71 => ?_) (fun hc71 => ?_)
                · have hf := it_p hf hc71
                  refine lv_iinc (v := (x3 + (6 : Int32))) (lv' := [(3, .int (x3 + (6 : Int32))), (0, .ref b), (1, .ref ((ad 0) 0)), (2, .ref (zm 0))]) hx hb dL_law_1115 hl (k := 3) rfl rfl (by decide) rfl (fun ls hl => ?_)
                  refine lv_goto (tgt := 18) hx hb dL_law_1118 (by decide) ?_
                  exact hr18 _ _ _ _ _ _ _ _ _ _ _ _ _ _ _ _ _ _ _ hf hw (lv_sub hl [1, 2, 3, 0] rfl)
                · have hf := it_n hf hc71
                  refine lv_iconst (v := (0 : Int32)) hx hb dL_law_342 rfl ?_
                  exact absurd (so1 hf) (by decide)
              · have hf := it_n hf hs72
                by_cases hs88 : ((xs x3.toNatClampNeg) &&& (31 : Int32)) = (6 : Int32)
                · have hf := it_p hf hs88
                  refine lv_tableIn (off := 311) (tgt := 344) hx hb dL_law_33 (by rw [hs88]; decide) (by rw [hs88]; decide) (by rw [hs88]; rfl) (by decide) ?_
                  refine lv_aload_n hx hb dL_law_344 rfl (lv_at hl 1 rfl) ?_
                  refine lv_aload_n hx hb dL_law_345 rfl (lv_at hl 0 rfl) ?_
                  refine lv_iload_n hx hb dL_law_346 rfl (lv_at hl 3 rfl) ?_
                  refine lv_iconst (v := (1 : Int32)) hx hb dL_law_347 rfl ?_
                  refine lv_iadd hx hb dL_law_348 ?_
                  obtain ⟨hi73, hf⟩ := it_g hf
                  refine va_sld hx hb hX hbl hbA hw.2.2 hi73 dL_law_349 ?_
                  refine lv_aload_n hx hb dL_law_350 rfl (lv_at hl 0 rfl) ?_
                  refine lv_iload_n hx hb dL_law_351 rfl (lv_at hl 3 rfl) ?_
                  refine lv_iconst (v := (2 : Int32)) hx hb dL_law_352 rfl ?_
                  refine lv_iadd hx hb dL_law_353 ?_
                  obtain ⟨hi74, hf⟩ := it_g hf
                  refine va_sld hx hb hX hbl hbA hw.2.2 hi74 dL_law_354 ?_
                  refine lv_aload_n hx hb dL_law_355 rfl (lv_at hl 0 rfl) ?_
                  refine lv_iload_n hx hb dL_law_356 rfl (lv_at hl 3 rfl) ?_
                  refine lv_iconst (v := (3 : Int32)) hx hb dL_law_357 rfl ?_
                  refine lv_iadd hx hb dL_law_358 ?_
                  obtain ⟨hi75, hf⟩ := it_g hf
                  refine va_sld hx hb hX hbl hbA hw.2.2 hi75 dL_law_359 ?_
                  refine lv_aload_n hx hb dL_law_360 rfl (lv_at hl 0 rfl) ?_
                  refine lv_iload_n hx hb dL_law_361 rfl (lv_at hl 3 rfl) ?_
                  refine lv_iconst (v := (4 : Int32)) hx hb dL_law_362 rfl ?_
                  refine lv_iadd hx hb dL_law_363 ?_
                  obtain ⟨hi76, hf⟩ := it_g hf
                  refine va_sld hx hb hX hbl hbA hw.2.2 hi76 dL_law_364 ?_
                  obtain ⟨r77, Td_78, hc79, hf⟩ := bd2_e hf
                  refine r_selVi C hw (c_X10_done (ad := ad) hc79) md_X10_done (Sel.skip _ (Sel.take (gcE g ad Te) (gcE g ad Te) rfl rfl (Sel.skip _ (Sel.skip _ (Sel.take (gcD g (ad 6) Td) (gcD g (ad 6) Td_78) rfl rfl (Sel.skip _ (Sel.skip _ (Sel.one (gcT g (ad 1) Tt) (gcT g (ad 1) Tt) _ rfl rfl)))))))) q3_40 19 rfl cf_X10.1 ⟨Nat.le_of_ble_eq_true rfl, Nat.le_of_ble_eq_true rfl⟩ ⟨Nat.le_refl _, Nat.le_refl _⟩ hl.1 rfl rfl (Nat.le_of_ble_eq_true rfl) dL_law_365 (fun H locs hw => ?_)
                  refine lv_aload_n hx hb dL_law_368 rfl (lv_at hl 2 rfl) ?_
                  refine lv_aload_n hx hb dL_law_369 rfl (lv_at hl 0 rfl) ?_
                  refine lv_iload_n hx hb dL_law_370 rfl (lv_at hl 3 rfl) ?_
                  refine lv_iconst (v := (1 : Int32)) hx hb dL_law_371 rfl ?_
                  refine lv_iadd hx hb dL_law_372 ?_
                  obtain ⟨hi80, hf⟩ := it_g hf
                  refine va_sld hx hb hX hbl hbA hw.2.2 hi80 dL_law_373 ?_
                  refine lv_aload_n hx hb dL_law_374 rfl (lv_at hl 0 rfl) ?_
                  refine lv_iload_n hx hb dL_law_375 rfl (lv_at hl 3 rfl) ?_
                  refine lv_iconst (v := (2 : Int32)) hx hb dL_law_376 rfl ?_
                  refine lv_iadd hx hb dL_law_377 ?_
                  obtain ⟨hi81, hf⟩ := it_g hf
                  refine va_sld hx hb hX hbl hbA hw.2.2 hi81 dL_law_378 ?_
                  refine lv_aload_n hx hb dL_law_379 rfl (lv_at hl 0 rfl) ?_
                  refine lv_iload_n hx hb dL_law_380 rfl (lv_at hl 3 rfl) ?_
                  refine lv_iconst (v := (3 : Int32)) hx hb dL_law_381 rfl ?_
                  refine lv_iadd hx hb dL_law_382 ?_
                  obtain ⟨hi82, hf⟩ := it_g hf
                  refine va_sld hx hb hX hbl hbA hw.2.2 hi82 dL_law_383 ?_
                  refine lv_aload_n hx hb dL_law_384 rfl (lv_at hl 0 rfl) ?_
                  refine lv_iload_n hx hb dL_law_385 rfl (lv_at hl 3 rfl) ?_
                  refine lv_iconst (v := (4 : Int32)) hx hb dL_law_386 rfl ?_
                  refine lv_iadd hx hb dL_law_387 ?_
                  obtain ⟨hi83, hf⟩ := it_g hf
                  refine va_sld hx hb hX hbl hbA hw.2.2 hi83 dL_law_388 ?_
                  obtain ⟨r84, Tm_85, hc86, hf⟩ := bd2_e hf
                  refine r_selVi C hw (c_X11_done (zm := zm) hc86) md_X11_done (Sel.one (gcM g zm Tm) (gcM g zm Tm_85) _ rfl rfl) q5_118 0 rfl cf_X11.1 ⟨Nat.le_of_ble_eq_true rfl, Nat.le_of_ble_eq_true rfl⟩ ⟨Nat.le_refl _, Nat.le_refl _⟩ hl.1 rfl rfl (Nat.le_of_ble_eq_true rfl) dL_law_389 (fun H locs hw => ?_)
                  refine lv_icmp_eq (tgt := 1115) hx hb dL_law_392 (by decide) (fun hc87 => ?_) (fun hc87 => ?_)
                  · have hf := it_p hf hc87
                    refine lv_iinc (v := (x3 + (6 : Int32))) (lv' := [(3, .int (x3 + (6 : Int32))), (0, .ref b), (1, .ref ((ad 0) 0)), (2, .ref (zm 0))]) hx hb dL_law_1115 hl (k := 3) rfl rfl (by decide) rfl (fun ls hl => ?_)
                    refine lv_goto (tgt := 18) hx hb dL_law_1118 (by decide) ?_
                    exact hr18 _ _ _ _ _ _ _ _ _ _ _ _ _ _ _ _ _ _ _ hf hw (lv_sub hl [1, 2, 3, 0] rfl)
                  · have hf := it_n hf hc87
                    refine lv_iconst (v := (0 : Int32)) hx hb dL_law_395 rfl ?_
                    exact absurd (so1 hf) (by decide)
                · have hf := it_n hf hs88
                  by_cases hs93 : ((xs x3.toNatClampNeg) &&& (31 : Int32)) = (7 : Int32)
                  · have hf := it_p hf hs93
                    refine lv_tableIn (off := 364) (tgt := 397) hx hb dL_law_33 (by rw [hs93]; decide) (by rw [hs93]; decide) (by rw [hs93]; rfl) (by decide) ?_
                    refine lv_aload_n hx hb dL_law_397 rfl (lv_at hl 1 rfl) ?_
                    refine lv_aload_n hx hb dL_law_398 rfl (lv_at hl 0 rfl) ?_
                    refine lv_iload_n hx hb dL_law_399 rfl (lv_at hl 3 rfl) ?_
                    refine lv_iconst (v := (1 : Int32)) hx hb dL_law_400 rfl ?_
                    refine lv_iadd hx hb dL_law_401 ?_
                    obtain ⟨hi89, hf⟩ := it_g hf
                    refine va_sld hx hb hX hbl hbA hw.2.2 hi89 dL_law_402 ?_
                    refine lv_aload_n hx hb dL_law_403 rfl (lv_at hl 0 rfl) ?_
                    refine lv_iload_n hx hb dL_law_404 rfl (lv_at hl 3 rfl) ?_
                    refine lv_iconst (v := (2 : Int32)) hx hb dL_law_405 rfl ?_
                    refine lv_iadd hx hb dL_law_406 ?_
                    obtain ⟨hi90, hf⟩ := it_g hf
                    refine va_sld hx hb hX hbl hbA hw.2.2 hi90 dL_law_407 ?_
                    refine lv_aload_n hx hb dL_law_408 rfl (lv_at hl 0 rfl) ?_
                    refine lv_iload_n hx hb dL_law_409 rfl (lv_at hl 3 rfl) ?_
                    refine lv_iconst (v := (3 : Int32)) hx hb dL_law_410 rfl ?_
                    refine lv_iadd hx hb dL_law_411 ?_
                    obtain ⟨hi91, hf⟩ := it_g hf
                    refine va_sld hx hb hX hbl hbA hw.2.2 hi91 dL_law_412 ?_
                    refine lv_if_eq (tgt := 420) hx hb dL_law_413 (by decide) (fun hc92 => ?_) (fun hc92 => ?_)
                    · have hf := it_p hf hc92
                      refine lv_iconst (v := (0 : Int32)) hx hb dL_law_420 rfl ?_
                      exact kL_law_421 (ad := ad) (zm := zm) C hX hbl hr18 hf hw (lv_sub hl [0, 1, 2, 3] rfl)
                    · have hf := it_n hf hc92
                      refine lv_iconst (v := (1 : Int32)) hx hb dL_law_416 rfl ?_
                      refine lv_goto (tgt := 421) hx hb dL_law_417 (by decide) ?_
                      exact kL_law_421 (ad := ad) (zm := zm) C hX hbl hr18 hf hw (lv_sub hl [0, 1, 2, 3] rfl)
                  · have hf := it_n hf hs93
                    by_cases hs103 : ((xs x3.toNatClampNeg) &&& (31 : Int32)) = (8 : Int32)
                    · have hf := it_p hf hs103
                      refine lv_tableIn (off := 423) (tgt := 456) hx hb dL_law_33 (by rw [hs103]; decide) (by rw [hs103]; decide) (by rw [hs103]; rfl) (by decide) ?_
                      refine lv_aload_n hx hb dL_law_456 rfl (lv_at hl 1 rfl) ?_
                      refine lv_aload_n hx hb dL_law_457 rfl (lv_at hl 0 rfl) ?_
                      refine lv_iload_n hx hb dL_law_458 rfl (lv_at hl 3 rfl) ?_
                      refine lv_iconst (v := (1 : Int32)) hx hb dL_law_459 rfl ?_
                      refine lv_iadd hx hb dL_law_460 ?_
                      obtain ⟨hi94, hf⟩ := it_g hf
                      refine va_sld hx hb hX hbl hbA hw.2.2 hi94 dL_law_461 ?_
                      obtain ⟨r95, Td_96, hc97, hf⟩ := bd2_e hf
                      refine r_selVi C hw (c_X10_days (ad := ad) hc97) md_X10_days (Sel.skip _ (Sel.take (gcE g ad Te) (gcE g ad Te) rfl rfl (Sel.skip _ (Sel.skip _ (Sel.take (gcD g (ad 6) Td) (gcD g (ad 6) Td_96) rfl rfl (Sel.skip _ (Sel.skip _ (Sel.one (gcT g (ad 1) Tt) (gcT g (ad 1) Tt) _ rfl rfl)))))))) q3_64 19 rfl cf_X10.1 ⟨Nat.le_of_ble_eq_true rfl, Nat.le_of_ble_eq_true rfl⟩ ⟨Nat.le_refl _, Nat.le_refl _⟩ hl.1 rfl rfl (Nat.le_of_ble_eq_true rfl) dL_law_462 (fun H locs hw => ?_)
                      refine lv_aload_n hx hb dL_law_465 rfl (lv_at hl 2 rfl) ?_
                      refine lv_aload_n hx hb dL_law_466 rfl (lv_at hl 0 rfl) ?_
                      refine lv_iload_n hx hb dL_law_467 rfl (lv_at hl 3 rfl) ?_
                      refine lv_iconst (v := (1 : Int32)) hx hb dL_law_468 rfl ?_
                      refine lv_iadd hx hb dL_law_469 ?_
                      obtain ⟨hi98, hf⟩ := it_g hf
                      refine va_sld hx hb hX hbl hbA hw.2.2 hi98 dL_law_470 ?_
                      obtain ⟨r99, Tm_100, hc101, hf⟩ := bd2_e hf
                      refine r_selVi C hw (c_X11_days (zm := zm) hc101) md_X11_days (Sel.one (gcM g zm Tm) (gcM g zm Tm_100) _ rfl rfl) q5_126 0 rfl cf_X11.1 ⟨Nat.le_of_ble_eq_true rfl, Nat.le_of_ble_eq_true rfl⟩ ⟨Nat.le_refl _, Nat.le_refl _⟩ hl.1 rfl rfl (Nat.le_of_ble_eq_true rfl) dL_law_471 (fun H locs hw => ?_)
                      refine lv_icmp_eq (tgt := 1115) hx hb dL_law_474 (by decide) (fun hc102 => ?_) (fun hc102 => ?_)
                      · have hf := it_p hf hc102
                        refine lv_iinc (v := (x3 + (6 : Int32))) (lv' := [(3, .int (x3 + (6 : Int32))), (0, .ref b), (1, .ref ((ad 0) 0)), (2, .ref (zm 0))]) hx hb dL_law_1115 hl (k := 3) rfl rfl (by decide) rfl (fun ls hl => ?_)
                        refine lv_goto (tgt := 18) hx hb dL_law_1118 (by decide) ?_
                        exact hr18 _ _ _ _ _ _ _ _ _ _ _ _ _ _ _ _ _ _ _ hf hw (lv_sub hl [1, 2, 3, 0] rfl)
                      · have hf := it_n hf hc102
                        refine lv_iconst (v := (0 : Int32)) hx hb dL_law_477 rfl ?_
                        exact absurd (so1 hf) (by decide)
                    · have hf := it_n hf hs103
                      by_cases hs115 : ((xs x3.toNatClampNeg) &&& (31 : Int32)) = (9 : Int32)
                      · have hf := it_p hf hs115
                        refine lv_tableIn (off := 446) (tgt := 479) hx hb dL_law_33 (by rw [hs115]; decide) (by rw [hs115]; decide) (by rw [hs115]; rfl) (by decide) ?_
                        refine lv_aload_n hx hb dL_law_479 rfl (lv_at hl 1 rfl) ?_
                        refine lv_aload_n hx hb dL_law_480 rfl (lv_at hl 0 rfl) ?_
                        refine lv_iload_n hx hb dL_law_481 rfl (lv_at hl 3 rfl) ?_
                        refine lv_iconst (v := (1 : Int32)) hx hb dL_law_482 rfl ?_
                        refine lv_iadd hx hb dL_law_483 ?_
                        obtain ⟨hi104, hf⟩ := it_g hf
                        refine va_sld hx hb hX hbl hbA hw.2.2 hi104 dL_law_484 ?_
                        refine lv_aload_n hx hb dL_law_485 rfl (lv_at hl 0 rfl) ?_
                        refine lv_iload_n hx hb dL_law_486 rfl (lv_at hl 3 rfl) ?_
                        refine lv_iconst (v := (2 : Int32)) hx hb dL_law_487 rfl ?_
                        refine lv_iadd hx hb dL_law_488 ?_
                        obtain ⟨hi105, hf⟩ := it_g hf
                        refine va_sld hx hb hX hbl hbA hw.2.2 hi105 dL_law_489 ?_
                        refine lv_aload_n hx hb dL_law_490 rfl (lv_at hl 0 rfl) ?_
                        refine lv_iload_n hx hb dL_law_491 rfl (lv_at hl 3 rfl) ?_
                        refine lv_iconst (v := (3 : Int32)) hx hb dL_law_492 rfl ?_
                        refine lv_iadd hx hb dL_law_493 ?_
                        obtain ⟨hi106, hf⟩ := it_g hf
                        refine va_sld hx hb hX hbl hbA hw.2.2 hi106 dL_law_494 ?_
                        obtain ⟨r107, hc108, hf⟩ := bd1_e hf
                        refine r_selVi C hw (c_X10_person (ad := ad) hc108) md_X10_person (Sel.skip _ (Sel.take (gcE g ad Te) (gcE g ad Te) rfl rfl (Sel.skip _ (Sel.skip _ (Sel.take (gcD g (ad 6) Td) (gcD g (ad 6) Td) rfl rfl (Sel.skip _ (Sel.skip _ (Sel.one (gcT g (ad 1) Tt) (gcT g (ad 1) Tt) _ rfl rfl)))))))) q3_123 19 rfl cf_X10.1 ⟨Nat.le_of_ble_eq_true rfl, Nat.le_of_ble_eq_true rfl⟩ ⟨Nat.le_refl _, Nat.le_refl _⟩ hl.1 rfl rfl (Nat.le_of_ble_eq_true rfl) dL_law_495 (fun H locs hw => ?_)
                        refine lv_aload_n hx hb dL_law_498 rfl (lv_at hl 2 rfl) ?_
                        refine lv_aload_n hx hb dL_law_499 rfl (lv_at hl 0 rfl) ?_
                        refine lv_iload_n hx hb dL_law_500 rfl (lv_at hl 3 rfl) ?_
                        refine lv_iconst (v := (1 : Int32)) hx hb dL_law_501 rfl ?_
                        refine lv_iadd hx hb dL_law_502 ?_
                        obtain ⟨hi109, hf⟩ := it_g hf
                        refine va_sld hx hb hX hbl hbA hw.2.2 hi109 dL_law_503 ?_
                        refine lv_aload_n hx hb dL_law_504 rfl (lv_at hl 0 rfl) ?_
                        refine lv_iload_n hx hb dL_law_505 rfl (lv_at hl 3 rfl) ?_
                        refine lv_iconst (v := (2 : Int32)) hx hb dL_law_506 rfl ?_
                        refine lv_iadd hx hb dL_law_507 ?_
                        obtain ⟨hi110, hf⟩ := it_g hf
                        refine va_sld hx hb hX hbl hbA hw.2.2 hi110 dL_law_508 ?_
                        refine lv_aload_n hx hb dL_law_509 rfl (lv_at hl 0 rfl) ?_
                        refine lv_iload_n hx hb dL_law_510 rfl (lv_at hl 3 rfl) ?_
                        refine lv_iconst (v := (3 : Int32)) hx hb dL_law_511 rfl ?_
                        refine lv_iadd hx hb dL_law_512 ?_
                        obtain ⟨hi111, hf⟩ := it_g hf
                        refine va_sld hx hb hX hbl hbA hw.2.2 hi111 dL_law_513 ?_
                        obtain ⟨r112, hc113, hf⟩ := bd1_e hf
                        refine r_selVi C hw (c_X11_person (zm := zm) hc113) md_X11_person (Sel.one (gcM g zm Tm) (gcM g zm Tm) _ rfl rfl) q5_159 0 rfl cf_X11.1 ⟨Nat.le_of_ble_eq_true rfl, Nat.le_of_ble_eq_true rfl⟩ ⟨Nat.le_refl _, Nat.le_refl _⟩ hl.1 rfl rfl (Nat.le_of_ble_eq_true rfl) dL_law_514 (fun H locs hw => ?_)
                        refine lv_icmp_eq (tgt := 1115) hx hb dL_law_517 (by decide) (fun hc114 => ?_) (fun hc114 => ?_)
                        · have hf := it_p hf hc114
                          refine lv_iinc (v := (x3 + (6 : Int32))) (lv' := [(3, .int (x3 + (6 : Int32))), (0, .ref b), (1, .ref ((ad 0) 0)), (2, .ref (zm 0))]) hx hb dL_law_1115 hl (k := 3) rfl rfl (by decide) rfl (fun ls hl => ?_)
                          refine lv_goto (tgt := 18) hx hb dL_law_1118 (by decide) ?_
                          exact hr18 _ _ _ _ _ _ _ _ _ _ _ _ _ _ _ _ _ _ _ hf hw (lv_sub hl [1, 2, 3, 0] rfl)
                        · have hf := it_n hf hc114
                          refine lv_iconst (v := (0 : Int32)) hx hb dL_law_520 rfl ?_
                          exact absurd (so1 hf) (by decide)
                      · have hf := it_n hf hs115
                        by_cases hs123 : ((xs x3.toNatClampNeg) &&& (31 : Int32)) = (10 : Int32)
                        · have hf := it_p hf hs123
                          refine lv_tableIn (off := 489) (tgt := 522) hx hb dL_law_33 (by rw [hs123]; decide) (by rw [hs123]; decide) (by rw [hs123]; rfl) (by decide) ?_
                          refine lv_aload_n hx hb dL_law_522 rfl (lv_at hl 1 rfl) ?_
                          refine lv_aload_n hx hb dL_law_523 rfl (lv_at hl 0 rfl) ?_
                          refine lv_iload_n hx hb dL_law_524 rfl (lv_at hl 3 rfl) ?_
                          refine lv_iconst (v := (1 : Int32)) hx hb dL_law_525 rfl ?_
                          refine lv_iadd hx hb dL_law_526 ?_
                          obtain ⟨hi116, hf⟩ := it_g hf
                          refine va_sld hx hb hX hbl hbA hw.2.2 hi116 dL_law_527 ?_
                          obtain ⟨r117, hc118, hf⟩ := bd1_e hf
                          refine r_selVi C hw (c_X10_bread (ad := ad) hc118) md_X10_bread (Sel.skip _ (Sel.take (gcE g ad Te) (gcE g ad Te) rfl rfl (Sel.skip _ (Sel.skip _ (Sel.one (gcD g (ad 6) Td) (gcD g (ad 6) Td) _ rfl rfl))))) q3_136 19 rfl cf_X10.1 ⟨Nat.le_of_ble_eq_true rfl, Nat.le_of_ble_eq_true rfl⟩ ⟨Nat.le_refl _, Nat.le_refl _⟩ hl.1 rfl rfl (Nat.le_of_ble_eq_true rfl) dL_law_528 (fun H locs hw => ?_)
                          refine lv_aload_n hx hb dL_law_531 rfl (lv_at hl 2 rfl) ?_
                          refine lv_aload_n hx hb dL_law_532 rfl (lv_at hl 0 rfl) ?_
                          refine lv_iload_n hx hb dL_law_533 rfl (lv_at hl 3 rfl) ?_
                          refine lv_iconst (v := (1 : Int32)) hx hb dL_law_534 rfl ?_
                          refine lv_iadd hx hb dL_law_535 ?_
                          obtain ⟨hi119, hf⟩ := it_g hf
                          refine va_sld hx hb hX hbl hbA hw.2.2 hi119 dL_law_536 ?_
                          obtain ⟨r120, hc121, hf⟩ := bd1_e hf
                          refine r_selVi C hw (c_X11_bread (zm := zm) hc121) md_X11_bread (Sel.one (gcM g zm Tm) (gcM g zm Tm) _ rfl rfl) q5_164 0 rfl cf_X11.1 ⟨Nat.le_of_ble_eq_true rfl, Nat.le_of_ble_eq_true rfl⟩ ⟨Nat.le_refl _, Nat.le_refl _⟩ hl.1 rfl rfl (Nat.le_of_ble_eq_true rfl) dL_law_537 (fun H locs hw => ?_)
                          refine lv_icmp_eq (tgt := 1115) hx hb dL_law_540 (by decide) (fun hc122 => ?_) (fun hc122 => ?_)
                          · have hf := it_p hf hc122
                            refine lv_iinc (v := (x3 + (6 : Int32))) (lv' := [(3, .int (x3 + (6 : Int32))), (0, .ref b), (1, .ref ((ad 0) 0)), (2, .ref (zm 0))]) hx hb dL_law_1115 hl (k := 3) rfl rfl (by decide) rfl (fun ls hl => ?_)
                            refine lv_goto (tgt := 18) hx hb dL_law_1118 (by decide) ?_
                            exact hr18 _ _ _ _ _ _ _ _ _ _ _ _ _ _ _ _ _ _ _ hf hw (lv_sub hl [1, 2, 3, 0] rfl)
                          · have hf := it_n hf hc122
                            refine lv_iconst (v := (0 : Int32)) hx hb dL_law_543 rfl ?_
                            exact absurd (so1 hf) (by decide)
                        · have hf := it_n hf hs123
                          by_cases hs131 : ((xs x3.toNatClampNeg) &&& (31 : Int32)) = (11 : Int32)
                          · have hf := it_p hf hs131
                            refine lv_tableIn (off := 512) (tgt := 545) hx hb dL_law_33 (by rw [hs131]; decide) (by rw [hs131]; decide) (by rw [hs131]; rfl) (by decide) ?_
                            refine lv_aload_n hx hb dL_law_545 rfl (lv_at hl 1 rfl) ?_
                            refine lv_aload_n hx hb dL_law_546 rfl (lv_at hl 0 rfl) ?_
                            refine lv_iload_n hx hb dL_law_547 rfl (lv_at hl 3 rfl) ?_
                            refine lv_iconst (v := (1 : Int32)) hx hb dL_law_548 rfl ?_
                            refine lv_iadd hx hb dL_law_549 ?_
                            obtain ⟨hi124, hf⟩ := it_g hf
                            refine va_sld hx hb hX hbl hbA hw.2.2 hi124 dL_law_550 ?_
                            obtain ⟨r125, hc126, hf⟩ := bd1_e hf
                            refine r_selVi C hw (c_X10_breaches (ad := ad) hc126) md_X10_breaches (Sel.skip _ (Sel.take (gcE g ad Te) (gcE g ad Te) rfl rfl (Sel.skip _ (Sel.skip _ (Sel.take (gcD g (ad 6) Td) (gcD g (ad 6) Td) rfl rfl (Sel.skip _ (Sel.skip _ (Sel.one (gcT g (ad 1) Tt) (gcT g (ad 1) Tt) _ rfl rfl)))))))) q3_141 19 rfl cf_X10.1 ⟨Nat.le_of_ble_eq_true rfl, Nat.le_of_ble_eq_true rfl⟩ ⟨Nat.le_refl _, Nat.le_refl _⟩ hl.1 rfl rfl (Nat.le_of_ble_eq_true rfl) dL_law_551 (fun H locs hw => ?_)
                            refine lv_aload_n hx hb dL_law_554 rfl (lv_at hl 2 rfl) ?_
                            refine lv_aload_n hx hb dL_law_555 rfl (lv_at hl 0 rfl) ?_
                            refine lv_iload_n hx hb dL_law_556 rfl (lv_at hl 3 rfl) ?_
                            refine lv_iconst (v := (1 : Int32)) hx hb dL_law_557 rfl ?_
                            refine lv_iadd hx hb dL_law_558 ?_
                            obtain ⟨hi127, hf⟩ := it_g hf
                            refine va_sld hx hb hX hbl hbA hw.2.2 hi127 dL_law_559 ?_
                            obtain ⟨r128, hc129, hf⟩ := bd1_e hf
                            refine r_selVi C hw (c_X11_breaches (zm := zm) hc129) md_X11_breaches (Sel.one (gcM g zm Tm) (gcM g zm Tm) _ rfl rfl) q5_169 0 rfl cf_X11.1 ⟨Nat.le_of_ble_eq_true rfl, Nat.le_of_ble_eq_true rfl⟩ ⟨Nat.le_refl _, Nat.le_refl _⟩ hl.1 rfl rfl (Nat.le_of_ble_eq_true rfl) dL_law_560 (fun H locs hw => ?_)
                            refine lv_icmp_eq (tgt := 1115) hx hb dL_law_563 (by decide) (fun hc130 => ?_) (fun hc130 => ?_)
                            · have hf := it_p hf hc130
                              refine lv_iinc (v := (x3 + (6 : Int32))) (lv' := [(3, .int (x3 + (6 : Int32))), (0, .ref b), (1, .ref ((ad 0) 0)), (2, .ref (zm 0))]) hx hb dL_law_1115 hl (k := 3) rfl rfl (by decide) rfl (fun ls hl => ?_)
                              refine lv_goto (tgt := 18) hx hb dL_law_1118 (by decide) ?_
                              exact hr18 _ _ _ _ _ _ _ _ _ _ _ _ _ _ _ _ _ _ _ hf hw (lv_sub hl [1, 2, 3, 0] rfl)
                            · have hf := it_n hf hc130
                              refine lv_iconst (v := (0 : Int32)) hx hb dL_law_566 rfl ?_
                              exact absurd (so1 hf) (by decide)
                          · have hf := it_n hf hs131
                            by_cases hs141 : ((xs x3.toNatClampNeg) &&& (31 : Int32)) = (12 : Int32)
                            · have hf := it_p hf hs141
                              refine lv_tableIn (off := 535) (tgt := 568) hx hb dL_law_33 (by rw [hs141]; decide) (by rw [hs141]; decide) (by rw [hs141]; rfl) (by decide) ?_
                              refine lv_aload_n hx hb dL_law_568 rfl (lv_at hl 1 rfl) ?_
                              refine lv_aload_n hx hb dL_law_569 rfl (lv_at hl 0 rfl) ?_
                              refine lv_iload_n hx hb dL_law_570 rfl (lv_at hl 3 rfl) ?_
                              refine lv_iconst (v := (1 : Int32)) hx hb dL_law_571 rfl ?_
                              refine lv_iadd hx hb dL_law_572 ?_
                              obtain ⟨hi132, hf⟩ := it_g hf
                              refine va_sld hx hb hX hbl hbA hw.2.2 hi132 dL_law_573 ?_
                              refine lv_aload_n hx hb dL_law_574 rfl (lv_at hl 0 rfl) ?_
                              refine lv_iload_n hx hb dL_law_575 rfl (lv_at hl 3 rfl) ?_
                              refine lv_iconst (v := (2 : Int32)) hx hb dL_law_576 rfl ?_
                              refine lv_iadd hx hb dL_law_577 ?_
                              obtain ⟨hi133, hf⟩ := it_g hf
                              refine va_sld hx hb hX hbl hbA hw.2.2 hi133 dL_law_578 ?_
                              obtain ⟨r134, hc135, hf⟩ := bd1_e hf
                              refine r_selVi C hw (c_X10_as (ad := ad) hc135) md_X10_as (Sel.skip _ (Sel.take (gcE g ad Te) (gcE g ad Te) rfl rfl (Sel.skip _ (Sel.skip _ (Sel.take (gcD g (ad 6) Td) (gcD g (ad 6) Td) rfl rfl (Sel.skip _ (Sel.skip _ (Sel.one (gcT g (ad 1) Tt) (gcT g (ad 1) Tt) _ rfl rfl)))))))) q3_146 19 rfl cf_X10.1 ⟨Nat.le_of_ble_eq_true rfl, Nat.le_of_ble_eq_true rfl⟩ ⟨Nat.le_refl _, Nat.le_refl _⟩ hl.1 rfl rfl (Nat.le_of_ble_eq_true rfl) dL_law_579 (fun H locs hw => ?_)
                              refine lv_aload_n hx hb dL_law_582 rfl (lv_at hl 2 rfl) ?_
                              refine lv_aload_n hx hb dL_law_583 rfl (lv_at hl 0 rfl) ?_
                              refine lv_iload_n hx hb dL_law_584 rfl (lv_at hl 3 rfl) ?_
                              refine lv_iconst (v := (1 : Int32)) hx hb dL_law_585 rfl ?_
                              refine lv_iadd hx hb dL_law_586 ?_
                              obtain ⟨hi136, hf⟩ := it_g hf
                              refine va_sld hx hb hX hbl hbA hw.2.2 hi136 dL_law_587 ?_
                              refine lv_aload_n hx hb dL_law_588 rfl (lv_at hl 0 rfl) ?_
                              refine lv_iload_n hx hb dL_law_589 rfl (lv_at hl 3 rfl) ?_
                              refine lv_iconst (v := (2 : Int32)) hx hb dL_law_590 rfl ?_
                              refine lv_iadd hx hb dL_law_591 ?_
                              obtain ⟨hi137, hf⟩ := it_g hf
                              refine va_sld hx hb hX hbl hbA hw.2.2 hi137 dL_law_592 ?_
                              obtain ⟨r138, hc139, hf⟩ := bd1_e hf
                              refine r_selVi C hw (c_X11_as (zm := zm) hc139) md_X11_as (Sel.one (gcM g zm Tm) (gcM g zm Tm) _ rfl rfl) q5_173 0 rfl cf_X11.1 ⟨Nat.le_of_ble_eq_true rfl, Nat.le_of_ble_eq_true rfl⟩ ⟨Nat.le_refl _, Nat.le_refl _⟩ hl.1 rfl rfl (Nat.le_of_ble_eq_true rfl) dL_law_593 (fun H locs hw => ?_)
                              refine lv_icmp_eq (tgt := 1115) hx hb dL_law_596 (by decide) (fun hc140 => ?_) (fun hc140 => ?_)
                              · have hf := it_p hf hc140
                                refine lv_iinc (v := (x3 + (6 : Int32))) (lv' := [(3, .int (x3 + (6 : Int32))), (0, .ref b), (1, .ref ((ad 0) 0)), (2, .ref (zm 0))]) hx hb dL_law_1115 hl (k := 3) rfl rfl (by decide) rfl (fun ls hl => ?_)
                                refine lv_goto (tgt := 18) hx hb dL_law_1118 (by decide) ?_
                                exact hr18 _ _ _ _ _ _ _ _ _ _ _ _ _ _ _ _ _ _ _ hf hw (lv_sub hl [1, 2, 3, 0] rfl)
                              · have hf := it_n hf hc140
                                refine lv_iconst (v := (0 : Int32)) hx hb dL_law_599 rfl ?_
                                exact absurd (so1 hf) (by decide)
                            · have hf := it_n hf hs141
                              by_cases hs155 : ((xs x3.toNatClampNeg) &&& (31 : Int32)) = (13 : Int32)
                              · have hf := it_p hf hs155
                                refine lv_tableIn (off := 568) (tgt := 601) hx hb dL_law_33 (by rw [hs155]; decide) (by rw [hs155]; decide) (by rw [hs155]; rfl) (by decide) ?_
                                refine lv_aload_n hx hb dL_law_601 rfl (lv_at hl 1 rfl) ?_
                                refine lv_aload_n hx hb dL_law_602 rfl (lv_at hl 0 rfl) ?_
                                refine lv_iload_n hx hb dL_law_603 rfl (lv_at hl 3 rfl) ?_
                                refine lv_iconst (v := (1 : Int32)) hx hb dL_law_604 rfl ?_
                                refine lv_iadd hx hb dL_law_605 ?_
                                obtain ⟨hi142, hf⟩ := it_g hf
                                refine va_sld hx hb hX hbl hbA hw.2.2 hi142 dL_law_606 ?_
                                refine lv_aload_n hx hb dL_law_607 rfl (lv_at hl 0 rfl) ?_
                                refine lv_iload_n hx hb dL_law_608 rfl (lv_at hl 3 rfl) ?_
                                refine lv_iconst (v := (2 : Int32)) hx hb dL_law_609 rfl ?_
                                refine lv_iadd hx hb dL_law_610 ?_
                                obtain ⟨hi143, hf⟩ := it_g hf
                                refine va_sld hx hb hX hbl hbA hw.2.2 hi143 dL_law_611 ?_
                                refine lv_aload_n hx hb dL_law_612 rfl (lv_at hl 0 rfl) ?_
                                refine lv_iload_n hx hb dL_law_613 rfl (lv_at hl 3 rfl) ?_
                                refine lv_iconst (v := (3 : Int32)) hx hb dL_law_614 rfl ?_
                                refine lv_iadd hx hb dL_law_615 ?_
                                obtain ⟨hi144, hf⟩ := it_g hf
                                refine va_sld hx hb hX hbl hbA hw.2.2 hi144 dL_law_616 ?_
                                obtain ⟨r145, Tp_146, hc147, hf⟩ := bd2_e hf
                                refine r_selVi C hw (c_X10_plan (ad := ad) hc147) md_X10_plan (Sel.skip _ (Sel.take (gcE g ad Te) (gcE g ad Te) rfl rfl (Sel.take (gcP g (ad 9) (ad 1) Tp) (gcP g (ad 9) (ad 1) Tp_146) rfl rfl (Sel.skip _ (Sel.skip _ (Sel.skip _ (Sel.skip _ (Sel.one (gcT g (ad 1) Tt) (gcT g (ad 1) Tt) _ rfl rfl)))))))) q3_156 19 rfl cf_X10.1 ⟨Nat.le_of_ble_eq_true rfl, Nat.le_of_ble_eq_true rfl⟩ ⟨Nat.le_refl _, Nat.le_refl _⟩ hl.1 rfl rfl (Nat.le_of_ble_eq_true rfl) dL_law_617 (fun H locs hw => ?_)
                                refine lv_aload_n hx hb dL_law_620 rfl (lv_at hl 2 rfl) ?_
                                refine lv_aload_n hx hb dL_law_621 rfl (lv_at hl 0 rfl) ?_
                                refine lv_iload_n hx hb dL_law_622 rfl (lv_at hl 3 rfl) ?_
                                refine lv_iconst (v := (1 : Int32)) hx hb dL_law_623 rfl ?_
                                refine lv_iadd hx hb dL_law_624 ?_
                                obtain ⟨hi148, hf⟩ := it_g hf
                                refine va_sld hx hb hX hbl hbA hw.2.2 hi148 dL_law_625 ?_
                                refine lv_aload_n hx hb dL_law_626 rfl (lv_at hl 0 rfl) ?_
                                refine lv_iload_n hx hb dL_law_627 rfl (lv_at hl 3 rfl) ?_
                                refine lv_iconst (v := (2 : Int32)) hx hb dL_law_628 rfl ?_
                                refine lv_iadd hx hb dL_law_629 ?_
                                obtain ⟨hi149, hf⟩ := it_g hf
                                refine va_sld hx hb hX hbl hbA hw.2.2 hi149 dL_law_630 ?_
                                refine lv_aload_n hx hb dL_law_631 rfl (lv_at hl 0 rfl) ?_
                                refine lv_iload_n hx hb dL_law_632 rfl (lv_at hl 3 rfl) ?_
                                refine lv_iconst (v := (3 : Int32)) hx hb dL_law_633 rfl ?_
                                refine lv_iadd hx hb dL_law_634 ?_
                                obtain ⟨hi150, hf⟩ := it_g hf
                                refine va_sld hx hb hX hbl hbA hw.2.2 hi150 dL_law_635 ?_
                                obtain ⟨r151, Tm_152, hc153, hf⟩ := bd2_e hf
                                refine r_selVi C hw (c_X11_plan (zm := zm) hc153) md_X11_plan (Sel.one (gcM g zm Tm) (gcM g zm Tm_152) _ rfl rfl) q5_178 0 rfl cf_X11.1 ⟨Nat.le_of_ble_eq_true rfl, Nat.le_of_ble_eq_true rfl⟩ ⟨Nat.le_refl _, Nat.le_refl _⟩ hl.1 rfl rfl (Nat.le_of_ble_eq_true rfl) dL_law_636 (fun H locs hw => ?_)
                                refine lv_icmp_eq (tgt := 1115) hx hb dL_law_639 (by decide) (fun hc154 => ?_) (fun hc154 => ?_)
                                · have hf := it_p hf hc154
                                  refine lv_iinc (v := (x3 + (6 : Int32))) (lv' := [(3, .int (x3 + (6 : Int32))), (0, .ref b), (1, .ref ((ad 0) 0)), (2, .ref (zm 0))]) hx hb dL_law_1115 hl (k := 3) rfl rfl (by decide) rfl (fun ls hl => ?_)
                                  refine lv_goto (tgt := 18) hx hb dL_law_1118 (by decide) ?_
                                  exact hr18 _ _ _ _ _ _ _ _ _ _ _ _ _ _ _ _ _ _ _ hf hw (lv_sub hl [1, 2, 3, 0] rfl)
                                · have hf := it_n hf hc154
                                  refine lv_iconst (v := (0 : Int32)) hx hb dL_law_642 rfl ?_
                                  exact absurd (so1 hf) (by decide)
                              · have hf := it_n hf hs155
                                by_cases hs173 : ((xs x3.toNatClampNeg) &&& (31 : Int32)) = (14 : Int32)
                                · have hf := it_p hf hs173
                                  refine lv_tableIn (off := 611) (tgt := 644) hx hb dL_law_33 (by rw [hs173]; decide) (by rw [hs173]; decide) (by rw [hs173]; rfl) (by decide) ?_
                                  refine lv_aload_n hx hb dL_law_644 rfl (lv_at hl 1 rfl) ?_
                                  refine lv_aload_n hx hb dL_law_645 rfl (lv_at hl 0 rfl) ?_
                                  refine lv_iload_n hx hb dL_law_646 rfl (lv_at hl 3 rfl) ?_
                                  refine lv_iconst (v := (1 : Int32)) hx hb dL_law_647 rfl ?_
                                  refine lv_iadd hx hb dL_law_648 ?_
                                  obtain ⟨hi156, hf⟩ := it_g hf
                                  refine va_sld hx hb hX hbl hbA hw.2.2 hi156 dL_law_649 ?_
                                  refine lv_aload_n hx hb dL_law_650 rfl (lv_at hl 0 rfl) ?_
                                  refine lv_iload_n hx hb dL_law_651 rfl (lv_at hl 3 rfl) ?_
                                  refine lv_iconst (v := (2 : Int32)) hx hb dL_law_652 rfl ?_
                                  refine lv_iadd hx hb dL_law_653 ?_
                                  obtain ⟨hi157, hf⟩ := it_g hf
                                  refine va_sld hx hb hX hbl hbA hw.2.2 hi157 dL_law_654 ?_
                                  refine lv_aload_n hx hb dL_law_655 rfl (lv_at hl 0 rfl) ?_
                                  refine lv_iload_n hx hb dL_law_656 rfl (lv_at hl 3 rfl) ?_
                                  refine lv_iconst (v := (3 : Int32)) hx hb dL_law_657 rfl ?_
                                  refine lv_iadd hx hb dL_law_658 ?_
                                  obtain ⟨hi158, hf⟩ := it_g hf
                                  refine va_sld hx hb hX hbl hbA hw.2.2 hi158 dL_law_659 ?_
                                  refine lv_aload_n hx hb dL_law_660 rfl (lv_at hl 0 rfl) ?_
                                  refine lv_iload_n hx hb dL_law_661 rfl (lv_at hl 3 rfl) ?_
                                  refine lv_iconst (v := (4 : Int32)) hx hb dL_law_662 rfl ?_
                                  refine lv_iadd hx hb dL_law_663 ?_
                                  obtain ⟨hi159, hf⟩ := it_g hf
                                  refine va_sld hx hb hX hbl hbA hw.2.2 hi159 dL_law_664 ?_
                                  refine lv_aload_n hx hb dL_law_665 rfl (lv_at hl 0 rfl) ?_
                                  refine lv_iload_n hx hb dL_law_666 rfl (lv_at hl 3 rfl) ?_
                                  refine lv_iconst (v := (5 : Int32)) hx hb dL_law_667 rfl ?_
                                  refine lv_iadd hx hb dL_law_668 ?_
                                  obtain ⟨hi160, hf⟩ := it_g hf
                                  refine va_sld hx hb hX hbl hbA hw.2.2 hi160 dL_law_669 ?_
                                  obtain ⟨r161, Tp_162, hc163, hf⟩ := bd2_e hf
                                  refine r_selVi C hw (c_X10_planned (ad := ad) hc163) md_X10_planned (Sel.skip _ (Sel.take (gcE g ad Te) (gcE g ad Te) rfl rfl (Sel.take (gcP g (ad 9) (ad 1) Tp) (gcP g (ad 9) (ad 1) Tp_162) rfl rfl (Sel.skip _ (Sel.skip _ (Sel.skip _ (Sel.skip _ (Sel.one (gcT g (ad 1) Tt) (gcT g (ad 1) Tt) _ rfl rfl)))))))) q3_228 19 rfl cf_X10.1 ⟨Nat.le_of_ble_eq_true rfl, Nat.le_of_ble_eq_true rfl⟩ ⟨Nat.le_refl _, Nat.le_refl _⟩ hl.1 rfl rfl (Nat.le_of_ble_eq_true rfl) dL_law_670 (fun H locs hw => ?_)
                                  refine lv_aload_n hx hb dL_law_673 rfl (lv_at hl 2 rfl) ?_
                                  refine lv_aload_n hx hb dL_law_674 rfl (lv_at hl 0 rfl) ?_
                                  refine lv_iload_n hx hb dL_law_675 rfl (lv_at hl 3 rfl) ?_
                                  refine lv_iconst (v := (1 : Int32)) hx hb dL_law_676 rfl ?_
                                  refine lv_iadd hx hb dL_law_677 ?_
                                  obtain ⟨hi164, hf⟩ := it_g hf
                                  refine va_sld hx hb hX hbl hbA hw.2.2 hi164 dL_law_678 ?_
                                  refine lv_aload_n hx hb dL_law_679 rfl (lv_at hl 0 rfl) ?_
                                  refine lv_iload_n hx hb dL_law_680 rfl (lv_at hl 3 rfl) ?_
                                  refine lv_iconst (v := (2 : Int32)) hx hb dL_law_681 rfl ?_
                                  refine lv_iadd hx hb dL_law_682 ?_
                                  obtain ⟨hi165, hf⟩ := it_g hf
                                  refine va_sld hx hb hX hbl hbA hw.2.2 hi165 dL_law_683 ?_
                                  refine lv_aload_n hx hb dL_law_684 rfl (lv_at hl 0 rfl) ?_
                                  refine lv_iload_n hx hb dL_law_685 rfl (lv_at hl 3 rfl) ?_
                                  refine lv_iconst (v := (3 : Int32)) hx hb dL_law_686 rfl ?_
                                  refine lv_iadd hx hb dL_law_687 ?_
                                  obtain ⟨hi166, hf⟩ := it_g hf
                                  refine va_sld hx hb hX hbl hbA hw.2.2 hi166 dL_law_688 ?_
                                  refine lv_aload_n hx hb dL_law_689 rfl (lv_at hl 0 rfl) ?_
                                  refine lv_iload_n hx hb dL_law_690 rfl (lv_at hl 3 rfl) ?_
                                  refine lv_iconst (v := (4 : Int32)) hx hb dL_law_691 rfl ?_
                                  refine lv_iadd hx hb dL_law_692 ?_
                                  obtain ⟨hi167, hf⟩ := it_g hf
                                  refine va_sld hx hb hX hbl hbA hw.2.2 hi167 dL_law_693 ?_
                                  refine lv_aload_n hx hb dL_law_694 rfl (lv_at hl 0 rfl) ?_
                                  refine lv_iload_n hx hb dL_law_695 rfl (lv_at hl 3 rfl) ?_
                                  refine lv_iconst (v := (5 : Int32)) hx hb dL_law_696 rfl ?_
                                  refine lv_iadd hx hb dL_law_697 ?_
                                  obtain ⟨hi168, hf⟩ := it_g hf
                                  refine va_sld hx hb hX hbl hbA hw.2.2 hi168 dL_law_698 ?_
                                  obtain ⟨r169, Tm_170, hc171, hf⟩ := bd2_e hf
                                  refine r_selVi C hw (c_X11_planned (zm := zm) hc171) md_X11_planned (Sel.one (gcM g zm Tm) (gcM g zm Tm_170) _ rfl rfl) q5_206 0 rfl cf_X11.1 ⟨Nat.le_of_ble_eq_true rfl, Nat.le_of_ble_eq_true rfl⟩ ⟨Nat.le_refl _, Nat.le_refl _⟩ hl.1 rfl rfl (Nat.le_of_ble_eq_true rfl) dL_law_699 (fun H locs hw => ?_)
                                  refine lv_icmp_eq (tgt := 1115) hx hb dL_law_702 (by decide) (fun hc172 => ?_) (fun hc172 => ?_)
                                  · have hf := it_p hf hc172
                                    refine lv_iinc (v := (x3 + (6 : Int32))) (lv' := [(3, .int (x3 + (6 : Int32))), (0, .ref b), (1, .ref ((ad 0) 0)), (2, .ref (zm 0))]) hx hb dL_law_1115 hl (k := 3) rfl rfl (by decide) rfl (fun ls hl => ?_)
                                    refine lv_goto (tgt := 18) hx hb dL_law_1118 (by decide) ?_
                                    exact hr18 _ _ _ _ _ _ _ _ _ _ _ _ _ _ _ _ _ _ _ hf hw (lv_sub hl [1, 2, 3, 0] rfl)
                                  · have hf := it_n hf hc172
                                    refine lv_iconst (v := (0 : Int32)) hx hb dL_law_705 rfl ?_
                                    exact absurd (so1 hf) (by decide)
                                · have hf := it_n hf hs173
                                  by_cases hs179 : ((xs x3.toNatClampNeg) &&& (31 : Int32)) = (15 : Int32)
                                  · have hf := it_p hf hs179
                                    refine lv_tableIn (off := 674) (tgt := 707) hx hb dL_law_33 (by rw [hs179]; decide) (by rw [hs179]; decide) (by rw [hs179]; rfl) (by decide) ?_
                                    refine lv_aload_n hx hb dL_law_707 rfl (lv_at hl 1 rfl) ?_
                                    refine lv_aload_n hx hb dL_law_708 rfl (lv_at hl 0 rfl) ?_
                                    refine lv_iload_n hx hb dL_law_709 rfl (lv_at hl 3 rfl) ?_
                                    refine lv_iconst (v := (1 : Int32)) hx hb dL_law_710 rfl ?_
                                    refine lv_iadd hx hb dL_law_711 ?_
                                    obtain ⟨hi174, hf⟩ := it_g hf
                                    refine va_sld hx hb hX hbl hbA hw.2.2 hi174 dL_law_712 ?_
                                    refine lv_aload_n hx hb dL_law_713 rfl (lv_at hl 0 rfl) ?_
                                    refine lv_iload_n hx hb dL_law_714 rfl (lv_at hl 3 rfl) ?_
                                    refine lv_iconst (v := (2 : Int32)) hx hb dL_law_715 rfl ?_
                                    refine lv_iadd hx hb dL_law_716 ?_
                                    obtain ⟨hi175, hf⟩ := it_g hf
                                    refine va_sld hx hb hX hbl hbA hw.2.2 hi175 dL_law_717 ?_
                                    refine lv_aload_n hx hb dL_law_718 rfl (lv_at hl 0 rfl) ?_
                                    refine lv_iload_n hx hb dL_law_719 rfl (lv_at hl 3 rfl) ?_
                                    refine lv_iconst (v := (3 : Int32)) hx hb dL_law_720 rfl ?_
                                    refine lv_iadd hx hb dL_law_721 ?_
                                    obtain ⟨hi176, hf⟩ := it_g hf
                                    refine va_sld hx hb hX hbl hbA hw.2.2 hi176 dL_law_722 ?_
                                    refine lv_aload_n hx hb dL_law_723 rfl (lv_at hl 0 rfl) ?_
                                    refine lv_iload_n hx hb dL_law_724 rfl (lv_at hl 3 rfl) ?_
                                    refine lv_iconst (v := (4 : Int32)) hx hb dL_law_725 rfl ?_
                                    refine lv_iadd hx hb dL_law_726 ?_
                                    obtain ⟨hi177, hf⟩ := it_g hf
                                    refine va_sld hx hb hX hbl hbA hw.2.2 hi177 dL_law_727 ?_
                                    refine lv_if_eq (tgt := 735) hx hb dL_law_728 (by decide) (fun hc178 => ?_) (fun hc178 => ?_)
                                    · have hf := it_p hf hc178
                                      refine lv_iconst (v := (0 : Int32)) hx hb dL_law_735 rfl ?_
                                      exact kL_law_736 (ad := ad) (zm := zm) C hX hbl hr18 hf hw (lv_sub hl [0, 1, 2, 3] rfl)
                                    · have hf := it_n hf hc178
                                      refine lv_iconst (v := (1 : Int32)) hx hb dL_law_731 rfl ?_
                                      refine lv_goto (tgt := 736) hx hb dL_law_732 (by decide) ?_
                                      exact kL_law_736 (ad := ad) (zm := zm) C hX hbl hr18 hf hw (lv_sub hl [0, 1, 2, 3] rfl)
                                  · have hf := it_n hf hs179
                                    by_cases hs193 : ((xs x3.toNatClampNeg) &&& (31 : Int32)) = (16 : Int32)
                                    · have hf := it_p hf hs193
                                      refine lv_tableIn (off := 743) (tgt := 776) hx hb dL_law_33 (by rw [hs193]; decide) (by rw [hs193]; decide) (by rw [hs193]; rfl) (by decide) ?_
                                      refine lv_aload_n hx hb dL_law_776 rfl (lv_at hl 1 rfl) ?_
                                      refine lv_aload_n hx hb dL_law_777 rfl (lv_at hl 0 rfl) ?_
                                      refine lv_iload_n hx hb dL_law_778 rfl (lv_at hl 3 rfl) ?_
                                      refine lv_iconst (v := (1 : Int32)) hx hb dL_law_779 rfl ?_
                                      refine lv_iadd hx hb dL_law_780 ?_
                                      obtain ⟨hi180, hf⟩ := it_g hf
                                      refine va_sld hx hb hX hbl hbA hw.2.2 hi180 dL_law_781 ?_
                                      refine lv_aload_n hx hb dL_law_782 rfl (lv_at hl 0 rfl) ?_
                                      refine lv_iload_n hx hb dL_law_783 rfl (lv_at hl 3 rfl) ?_
                                      refine lv_iconst (v := (2 : Int32)) hx hb dL_law_784 rfl ?_
                                      refine lv_iadd hx hb dL_law_785 ?_
                                      obtain ⟨hi181, hf⟩ := it_g hf
                                      refine va_sld hx hb hX hbl hbA hw.2.2 hi181 dL_law_786 ?_
                                      refine lv_aload_n hx hb dL_law_787 rfl (lv_at hl 0 rfl) ?_
                                      refine lv_iload_n hx hb dL_law_788 rfl (lv_at hl 3 rfl) ?_
                                      refine lv_iconst (v := (3 : Int32)) hx hb dL_law_789 rfl ?_
                                      refine lv_iadd hx hb dL_law_790 ?_
                                      obtain ⟨hi182, hf⟩ := it_g hf
                                      refine va_sld hx hb hX hbl hbA hw.2.2 hi182 dL_law_791 ?_
                                      obtain ⟨r183, Th_184, hc185, hf⟩ := bd2_e hf
                                      refine r_selVi C hw (c_X10_harm (ad := ad) hc185) md_X10_harm (Sel.skip _ (Sel.take (gcE g ad Te) (gcE g ad Te) rfl rfl (Sel.skip _ (Sel.skip _ (Sel.skip _ (Sel.skip _ (Sel.skip _ (Sel.take (gcT g (ad 1) Tt) (gcT g (ad 1) Tt) rfl rfl (Sel.skip _ (Sel.skip _ (Sel.skip _ (Sel.skip _ (Sel.one (gcH g (ad 11) Th) (gcH g (ad 11) Th_184) _ rfl rfl))))))))))))) q4_15 19 rfl cf_X10.1 ⟨Nat.le_of_ble_eq_true rfl, Nat.le_of_ble_eq_true rfl⟩ ⟨Nat.le_refl _, Nat.le_refl _⟩ hl.1 rfl rfl (Nat.le_of_ble_eq_true rfl) dL_law_792 (fun H locs hw => ?_)
                                      refine lv_aload_n hx hb dL_law_795 rfl (lv_at hl 2 rfl) ?_
                                      refine lv_aload_n hx hb dL_law_796 rfl (lv_at hl 0 rfl) ?_
                                      refine lv_iload_n hx hb dL_law_797 rfl (lv_at hl 3 rfl) ?_
                                      refine lv_iconst (v := (1 : Int32)) hx hb dL_law_798 rfl ?_
                                      refine lv_iadd hx hb dL_law_799 ?_
                                      obtain ⟨hi186, hf⟩ := it_g hf
                                      refine va_sld hx hb hX hbl hbA hw.2.2 hi186 dL_law_800 ?_
                                      refine lv_aload_n hx hb dL_law_801 rfl (lv_at hl 0 rfl) ?_
                                      refine lv_iload_n hx hb dL_law_802 rfl (lv_at hl 3 rfl) ?_
                                      refine lv_iconst (v := (2 : Int32)) hx hb dL_law_803 rfl ?_
                                      refine lv_iadd hx hb dL_law_804 ?_
                                      obtain ⟨hi187, hf⟩ := it_g hf
                                      refine va_sld hx hb hX hbl hbA hw.2.2 hi187 dL_law_805 ?_
                                      refine lv_aload_n hx hb dL_law_806 rfl (lv_at hl 0 rfl) ?_
                                      refine lv_iload_n hx hb dL_law_807 rfl (lv_at hl 3 rfl) ?_
                                      refine lv_iconst (v := (3 : Int32)) hx hb dL_law_808 rfl ?_
                                      refine lv_iadd hx hb dL_law_809 ?_
                                      obtain ⟨hi188, hf⟩ := it_g hf
                                      refine va_sld hx hb hX hbl hbA hw.2.2 hi188 dL_law_810 ?_
                                      obtain ⟨r189, Tm_190, hc191, hf⟩ := bd2_e hf
                                      refine r_selVi C hw (c_X11_harm (zm := zm) hc191) md_X11_harm (Sel.one (gcM g zm Tm) (gcM g zm Tm_190) _ rfl rfl) q5_220 0 rfl cf_X11.1 ⟨Nat.le_of_ble_eq_true rfl, Nat.le_of_ble_eq_true rfl⟩ ⟨Nat.le_refl _, Nat.le_refl _⟩ hl.1 rfl rfl (Nat.le_of_ble_eq_true rfl) dL_law_811 (fun H locs hw => ?_)
                                      refine lv_icmp_eq (tgt := 1115) hx hb dL_law_814 (by decide) (fun hc192 => ?_) (fun hc192 => ?_)
                                      · have hf := it_p hf hc192
                                        refine lv_iinc (v := (x3 + (6 : Int32))) (lv' := [(3, .int (x3 + (6 : Int32))), (0, .ref b), (1, .ref ((ad 0) 0)), (2, .ref (zm 0))]) hx hb dL_law_1115 hl (k := 3) rfl rfl (by decide) rfl (fun ls hl => ?_)
                                        refine lv_goto (tgt := 18) hx hb dL_law_1118 (by decide) ?_
                                        exact hr18 _ _ _ _ _ _ _ _ _ _ _ _ _ _ _ _ _ _ _ hf hw (lv_sub hl [1, 2, 3, 0] rfl)
                                      · have hf := it_n hf hc192
                                        refine lv_iconst (v := (0 : Int32)) hx hb dL_law_817 rfl ?_
                                        exact absurd (so1 hf) (by decide)
                                    · have hf := it_n hf hs193
                                      by_cases hs203 : ((xs x3.toNatClampNeg) &&& (31 : Int32)) = (17 : Int32)
                                      · have hf := it_p hf hs203
                                        refine lv_tableIn (off := 786) (tgt := 819) hx hb dL_law_33 (by rw [hs203]; decide) (by rw [hs203]; decide) (by rw [hs203]; rfl) (by decide) ?_
                                        refine lv_aload_n hx hb dL_law_819 rfl (lv_at hl 1 rfl) ?_
                                        refine lv_aload_n hx hb dL_law_820 rfl (lv_at hl 0 rfl) ?_
                                        refine lv_iload_n hx hb dL_law_821 rfl (lv_at hl 3 rfl) ?_
                                        refine lv_iconst (v := (1 : Int32)) hx hb dL_law_822 rfl ?_
                                        refine lv_iadd hx hb dL_law_823 ?_
                                        obtain ⟨hi194, hf⟩ := it_g hf
                                        refine va_sld hx hb hX hbl hbA hw.2.2 hi194 dL_law_824 ?_
                                        obtain ⟨r195, Th_196, hc197, hf⟩ := bd2_e hf
                                        refine r_selVi C hw (c_X10_anew (ad := ad) hc197) md_X10_anew (Sel.skip _ (Sel.take (gcE g ad Te) (gcE g ad Te) rfl rfl (Sel.skip _ (Sel.skip _ (Sel.skip _ (Sel.skip _ (Sel.skip _ (Sel.take (gcT g (ad 1) Tt) (gcT g (ad 1) Tt) rfl rfl (Sel.skip _ (Sel.skip _ (Sel.skip _ (Sel.skip _ (Sel.one (gcH g (ad 11) Th) (gcH g (ad 11) Th_196) _ rfl rfl))))))))))))) q4_24 19 rfl cf_X10.1 ⟨Nat.le_of_ble_eq_true rfl, Nat.le_of_ble_eq_true rfl⟩ ⟨Nat.le_refl _, Nat.le_refl _⟩ hl.1 rfl rfl (Nat.le_of_ble_eq_true rfl) dL_law_825 (fun H locs hw => ?_)
                                        refine lv_aload_n hx hb dL_law_828 rfl (lv_at hl 2 rfl) ?_
                                        refine lv_aload_n hx hb dL_law_829 rfl (lv_at hl 0 rfl) ?_
                                        refine lv_iload_n hx hb dL_law_830 rfl (lv_at hl 3 rfl) ?_
                                        refine lv_iconst (v := (1 : Int32)) hx hb dL_law_831 rfl ?_
                                        refine lv_iadd hx hb dL_law_832 ?_
                                        obtain ⟨hi198, hf⟩ := it_g hf
                                        refine va_sld hx hb hX hbl hbA hw.2.2 hi198 dL_law_833 ?_
                                        obtain ⟨r199, Tm_200, hc201, hf⟩ := bd2_e hf
                                        refine r_selVi C hw (c_X11_anew (zm := zm) hc201) md_X11_anew (Sel.one (gcM g zm Tm) (gcM g zm Tm_200) _ rfl rfl) q5_224 0 rfl cf_X11.1 ⟨Nat.le_of_ble_eq_true rfl, Nat.le_of_ble_eq_true rfl⟩ ⟨Nat.le_refl _, Nat.le_refl _⟩ hl.1 rfl rfl (Nat.le_of_ble_eq_true rfl) dL_law_834 (fun H locs hw => ?_)
                                        refine lv_icmp_eq (tgt := 1115) hx hb dL_law_837 (by decide) (fun hc202 => ?_) (fun hc202 => ?_)
                                        · have hf := it_p hf hc202
                                          refine lv_iinc (v := (x3 + (6 : Int32))) (lv' := [(3, .int (x3 + (6 : Int32))), (0, .ref b), (1, .ref ((ad 0) 0)), (2, .ref (zm 0))]) hx hb dL_law_1115 hl (k := 3) rfl rfl (by decide) rfl (fun ls hl => ?_)
                                          refine lv_goto (tgt := 18) hx hb dL_law_1118 (by decide) ?_
                                          exact hr18 _ _ _ _ _ _ _ _ _ _ _ _ _ _ _ _ _ _ _ hf hw (lv_sub hl [1, 2, 3, 0] rfl)
                                        · have hf := it_n hf hc202
                                          refine lv_iconst (v := (0 : Int32)) hx hb dL_law_840 rfl ?_
                                          exact absurd (so1 hf) (by decide)
                                      · have hf := it_n hf hs203
                                        by_cases hs215 : ((xs x3.toNatClampNeg) &&& (31 : Int32)) = (18 : Int32)
                                        · have hf := it_p hf hs215
                                          refine lv_tableIn (off := 809) (tgt := 842) hx hb dL_law_33 (by rw [hs215]; decide) (by rw [hs215]; decide) (by rw [hs215]; rfl) (by decide) ?_
                                          refine lv_aload_n hx hb dL_law_842 rfl (lv_at hl 1 rfl) ?_
                                          refine lv_aload_n hx hb dL_law_843 rfl (lv_at hl 0 rfl) ?_
                                          refine lv_iload_n hx hb dL_law_844 rfl (lv_at hl 3 rfl) ?_
                                          refine lv_iconst (v := (1 : Int32)) hx hb dL_law_845 rfl ?_
                                          refine lv_iadd hx hb dL_law_846 ?_
                                          obtain ⟨hi204, hf⟩ := it_g hf
                                          refine va_sld hx hb hX hbl hbA hw.2.2 hi204 dL_law_847 ?_
                                          refine lv_aload_n hx hb dL_law_848 rfl (lv_at hl 0 rfl) ?_
                                          refine lv_iload_n hx hb dL_law_849 rfl (lv_at hl 3 rfl) ?_
                                          refine lv_iconst (v := (2 : Int32)) hx hb dL_law_850 rfl ?_
                                          refine lv_iadd hx hb dL_law_851 ?_
                                          obtain ⟨hi205, hf⟩ := it_g hf
                                          refine va_sld hx hb hX hbl hbA hw.2.2 hi205 dL_law_852 ?_
                                          obtain ⟨r206, Th_207, hc208, hf⟩ := bd2_e hf
                                          refine r_selVi C hw (c_X10_forced (ad := ad) hc208) md_X10_forced (Sel.skip _ (Sel.take (gcE g ad Te) (gcE g ad Te) rfl rfl (Sel.skip _ (Sel.skip _ (Sel.skip _ (Sel.skip _ (Sel.skip _ (Sel.take (gcT g (ad 1) Tt) (gcT g (ad 1) Tt) rfl rfl (Sel.skip _ (Sel.skip _ (Sel.skip _ (Sel.skip _ (Sel.one (gcH g (ad 11) Th) (gcH g (ad 11) Th_207) _ rfl rfl))))))))))))) q4_53 19 rfl cf_X10.1 ⟨Nat.le_of_ble_eq_true rfl, Nat.le_of_ble_eq_true rfl⟩ ⟨Nat.le_refl _, Nat.le_refl _⟩ hl.1 rfl rfl (Nat.le_of_ble_eq_true rfl) dL_law_853 (fun H locs hw => ?_)
                                          refine lv_aload_n hx hb dL_law_856 rfl (lv_at hl 2 rfl) ?_
                                          refine lv_aload_n hx hb dL_law_857 rfl (lv_at hl 0 rfl) ?_
                                          refine lv_iload_n hx hb dL_law_858 rfl (lv_at hl 3 rfl) ?_
                                          refine lv_iconst (v := (1 : Int32)) hx hb dL_law_859 rfl ?_
                                          refine lv_iadd hx hb dL_law_860 ?_
                                          obtain ⟨hi209, hf⟩ := it_g hf
                                          refine va_sld hx hb hX hbl hbA hw.2.2 hi209 dL_law_861 ?_
                                          refine lv_aload_n hx hb dL_law_862 rfl (lv_at hl 0 rfl) ?_
                                          refine lv_iload_n hx hb dL_law_863 rfl (lv_at hl 3 rfl) ?_
                                          refine lv_iconst (v := (2 : Int32)) hx hb dL_law_864 rfl ?_
                                          refine lv_iadd hx hb dL_law_865 ?_
                                          obtain ⟨hi210, hf⟩ := it_g hf
                                          refine va_sld hx hb hX hbl hbA hw.2.2 hi210 dL_law_866 ?_
                                          obtain ⟨r211, Tm_212, hc213, hf⟩ := bd2_e hf
                                          refine r_selVi C hw (c_X11_forced (zm := zm) hc213) md_X11_forced (Sel.one (gcM g zm Tm) (gcM g zm Tm_212) _ rfl rfl) q5_239 0 rfl cf_X11.1 ⟨Nat.le_of_ble_eq_true rfl, Nat.le_of_ble_eq_true rfl⟩ ⟨Nat.le_refl _, Nat.le_refl _⟩ hl.1 rfl rfl (Nat.le_of_ble_eq_true rfl) dL_law_867 (fun H locs hw => ?_)
                                          refine lv_icmp_eq (tgt := 1115) hx hb dL_law_870 (by decide) (fun hc214 => ?_) (fun hc214 => ?_)
                                          · have hf := it_p hf hc214
                                            refine lv_iinc (v := (x3 + (6 : Int32))) (lv' := [(3, .int (x3 + (6 : Int32))), (0, .ref b), (1, .ref ((ad 0) 0)), (2, .ref (zm 0))]) hx hb dL_law_1115 hl (k := 3) rfl rfl (by decide) rfl (fun ls hl => ?_)
                                            refine lv_goto (tgt := 18) hx hb dL_law_1118 (by decide) ?_
                                            exact hr18 _ _ _ _ _ _ _ _ _ _ _ _ _ _ _ _ _ _ _ hf hw (lv_sub hl [1, 2, 3, 0] rfl)
                                          · have hf := it_n hf hc214
                                            refine lv_iconst (v := (0 : Int32)) hx hb dL_law_873 rfl ?_
                                            exact absurd (so1 hf) (by decide)
                                        · have hf := it_n hf hs215
                                          by_cases hs231 : ((xs x3.toNatClampNeg) &&& (31 : Int32)) = (19 : Int32)
                                          · have hf := it_p hf hs231
                                            refine lv_tableIn (off := 842) (tgt := 875) hx hb dL_law_33 (by rw [hs231]; decide) (by rw [hs231]; decide) (by rw [hs231]; rfl) (by decide) ?_
                                            refine lv_aload_n hx hb dL_law_875 rfl (lv_at hl 1 rfl) ?_
                                            refine lv_aload_n hx hb dL_law_876 rfl (lv_at hl 0 rfl) ?_
                                            refine lv_iload_n hx hb dL_law_877 rfl (lv_at hl 3 rfl) ?_
                                            refine lv_iconst (v := (1 : Int32)) hx hb dL_law_878 rfl ?_
                                            refine lv_iadd hx hb dL_law_879 ?_
                                            obtain ⟨hi216, hf⟩ := it_g hf
                                            refine va_sld hx hb hX hbl hbA hw.2.2 hi216 dL_law_880 ?_
                                            refine lv_aload_n hx hb dL_law_881 rfl (lv_at hl 0 rfl) ?_
                                            refine lv_iload_n hx hb dL_law_882 rfl (lv_at hl 3 rfl) ?_
                                            refine lv_iconst (v := (2 : Int32)) hx hb dL_law_883 rfl ?_
                                            refine lv_iadd hx hb dL_law_884 ?_
                                            obtain ⟨hi217, hf⟩ := it_g hf
                                            refine va_sld hx hb hX hbl hbA hw.2.2 hi217 dL_law_885 ?_
                                            refine lv_aload_n hx hb dL_law_886 rfl (lv_at hl 0 rfl) ?_
                                            refine lv_iload_n hx hb dL_law_887 rfl (lv_at hl 3 rfl) ?_
                                            refine lv_iconst (v := (3 : Int32)) hx hb dL_law_888 rfl ?_
                                            refine lv_iadd hx hb dL_law_889 ?_
                                            obtain ⟨hi218, hf⟩ := it_g hf
                                            refine va_sld hx hb hX hbl hbA hw.2.2 hi218 dL_law_890 ?_
                                            refine lv_aload_n hx hb dL_law_891 rfl (lv_at hl 0 rfl) ?_
                                            refine lv_iload_n hx hb dL_law_892 rfl (lv_at hl 3 rfl) ?_
                                            refine lv_iconst (v := (4 : Int32)) hx hb dL_law_893 rfl ?_
                                            refine lv_iadd hx hb dL_law_894 ?_
                                            obtain ⟨hi219, hf⟩ := it_g hf
                                            refine va_sld hx hb hX hbl hbA hw.2.2 hi219 dL_law_895 ?_
                                            obtain ⟨r220, Tg_221, hc222, hf⟩ := bd2_e hf
                                            refine r_selVi C hw (c_X10_like (ad := ad) hc222) md_X10_like (Sel.skip _ (Sel.take (gcE g ad Te) (gcE g ad Te) rfl rfl (Sel.skip _ (Sel.skip _ (Sel.skip _ (Sel.skip _ (Sel.skip _ (Sel.take (gcT g (ad 1) Tt) (gcT g (ad 1) Tt) rfl rfl (Sel.skip _ (Sel.skip _ (Sel.skip _ (Sel.skip _ (Sel.skip _ (Sel.one (gcG g (ad 12) Tg) (gcG g (ad 12) Tg_221) _ rfl rfl)))))))))))))) q4_57 19 rfl cf_X10.1 ⟨Nat.le_of_ble_eq_true rfl, Nat.le_of_ble_eq_true rfl⟩ ⟨Nat.le_refl _, Nat.le_refl _⟩ hl.1 rfl rfl (Nat.le_of_ble_eq_true rfl) dL_law_896 (fun H locs hw => ?_)
                                            refine lv_aload_n hx hb dL_law_899 rfl (lv_at hl 2 rfl) ?_
                                            refine lv_aload_n hx hb dL_law_900 rfl (lv_at hl 0 rfl) ?_
                                            refine lv_iload_n hx hb dL_law_901 rfl (lv_at hl 3 rfl) ?_
                                            refine lv_iconst (v := (1 : Int32)) hx hb dL_law_902 rfl ?_
                                            refine lv_iadd hx hb dL_law_903 ?_
                                            obtain ⟨hi223, hf⟩ := it_g hf
                                            refine va_sld hx hb hX hbl hbA hw.2.2 hi223 dL_law_904 ?_
                                            refine lv_aload_n hx hb dL_law_905 rfl (lv_at hl 0 rfl) ?_
                                            refine lv_iload_n hx hb dL_law_906 rfl (lv_at hl 3 rfl) ?_
                                            refine lv_iconst (v := (2 : Int32)) hx hb dL_law_907 rfl ?_
                                            refine lv_iadd hx hb dL_law_908 ?_
                                            obtain ⟨hi224, hf⟩ := it_g hf
                                            refine va_sld hx hb hX hbl hbA hw.2.2 hi224 dL_law_909 ?_
                                            refine lv_aload_n hx hb dL_law_910 rfl (lv_at hl 0 rfl) ?_
                                            refine lv_iload_n hx hb dL_law_911 rfl (lv_at hl 3 rfl) ?_
                                            refine lv_iconst (v := (3 : Int32)) hx hb dL_law_912 rfl ?_
                                            refine lv_iadd hx hb dL_law_913 ?_
                                            obtain ⟨hi225, hf⟩ := it_g hf
                                            refine va_sld hx hb hX hbl hbA hw.2.2 hi225 dL_law_914 ?_
                                            refine lv_aload_n hx hb dL_law_915 rfl (lv_at hl 0 rfl) ?_
                                            refine lv_iload_n hx hb dL_law_916 rfl (lv_at hl 3 rfl) ?_
                                            refine lv_iconst (v := (4 : Int32)) hx hb dL_law_917 rfl ?_
                                            refine lv_iadd hx hb dL_law_918 ?_
                                            obtain ⟨hi226, hf⟩ := it_g hf
                                            refine va_sld hx hb hX hbl hbA hw.2.2 hi226 dL_law_919 ?_
                                            obtain ⟨r227, Tm_228, hc229, hf⟩ := bd2_e hf
                                            refine r_selVi C hw (c_X11_like (zm := zm) hc229) md_X11_like (Sel.one (gcM g zm Tm) (gcM g zm Tm_228) _ rfl rfl) q6_3 0 rfl cf_X11.1 ⟨Nat.le_of_ble_eq_true rfl, Nat.le_of_ble_eq_true rfl⟩ ⟨Nat.le_refl _, Nat.le_refl _⟩ hl.1 rfl rfl (Nat.le_of_ble_eq_true rfl) dL_law_920 (fun H locs hw => ?_)
                                            refine lv_icmp_eq (tgt := 1115) hx hb dL_law_923 (by decide) (fun hc230 => ?_) (fun hc230 => ?_)
                                            · have hf := it_p hf hc230
                                              refine lv_iinc (v := (x3 + (6 : Int32))) (lv' := [(3, .int (x3 + (6 : Int32))), (0, .ref b), (1, .ref ((ad 0) 0)), (2, .ref (zm 0))]) hx hb dL_law_1115 hl (k := 3) rfl rfl (by decide) rfl (fun ls hl => ?_)
                                              refine lv_goto (tgt := 18) hx hb dL_law_1118 (by decide) ?_
                                              exact hr18 _ _ _ _ _ _ _ _ _ _ _ _ _ _ _ _ _ _ _ hf hw (lv_sub hl [1, 2, 3, 0] rfl)
                                            · have hf := it_n hf hc230
                                              refine lv_iconst (v := (0 : Int32)) hx hb dL_law_926 rfl ?_
                                              exact absurd (so1 hf) (by decide)
                                          · have hf := it_n hf hs231
                                            by_cases hs241 : ((xs x3.toNatClampNeg) &&& (31 : Int32)) = (20 : Int32)
                                            · have hf := it_p hf hs241
                                              refine lv_tableIn (off := 895) (tgt := 928) hx hb dL_law_33 (by rw [hs241]; decide) (by rw [hs241]; decide) (by rw [hs241]; rfl) (by decide) ?_
                                              refine lv_aload_n hx hb dL_law_928 rfl (lv_at hl 1 rfl) ?_
                                              refine lv_aload_n hx hb dL_law_929 rfl (lv_at hl 0 rfl) ?_
                                              refine lv_iload_n hx hb dL_law_930 rfl (lv_at hl 3 rfl) ?_
                                              refine lv_iconst (v := (1 : Int32)) hx hb dL_law_931 rfl ?_
                                              refine lv_iadd hx hb dL_law_932 ?_
                                              obtain ⟨hi232, hf⟩ := it_g hf
                                              refine va_sld hx hb hX hbl hbA hw.2.2 hi232 dL_law_933 ?_
                                              obtain ⟨r233, Tg_234, hc235, hf⟩ := bd2_e hf
                                              refine r_selVi C hw (c_X10_fours (ad := ad) hc235) md_X10_fours (Sel.skip _ (Sel.take (gcE g ad Te) (gcE g ad Te) rfl rfl (Sel.skip _ (Sel.skip _ (Sel.skip _ (Sel.skip _ (Sel.skip _ (Sel.take (gcT g (ad 1) Tt) (gcT g (ad 1) Tt) rfl rfl (Sel.skip _ (Sel.skip _ (Sel.skip _ (Sel.skip _ (Sel.skip _ (Sel.one (gcG g (ad 12) Tg) (gcG g (ad 12) Tg_234) _ rfl rfl)))))))))))))) q4_71 19 rfl cf_X10.1 ⟨Nat.le_of_ble_eq_true rfl, Nat.le_of_ble_eq_true rfl⟩ ⟨Nat.le_refl _, Nat.le_refl _⟩ hl.1 rfl rfl (Nat.le_of_ble_eq_true rfl) dL_law_934 (fun H locs hw => ?_)
                                              refine lv_aload_n hx hb dL_law_937 rfl (lv_at hl 2 rfl) ?_
                                              refine lv_aload_n hx hb dL_law_938 rfl (lv_at hl 0 rfl) ?_
                                              refine lv_iload_n hx hb dL_law_939 rfl (lv_at hl 3 rfl) ?_
                                              refine lv_iconst (v := (1 : Int32)) hx hb dL_law_940 rfl ?_
                                              refine lv_iadd hx hb dL_law_941 ?_
                                              obtain ⟨hi236, hf⟩ := it_g hf
                                              refine va_sld hx hb hX hbl hbA hw.2.2 hi236 dL_law_942 ?_
                                              obtain ⟨r237, Tm_238, hc239, hf⟩ := bd2_e hf
                                              refine r_selVi C hw (c_X11_fours (zm := zm) hc239) md_X11_fours (Sel.one (gcM g zm Tm) (gcM g zm Tm_238) _ rfl rfl) q6_7 0 rfl cf_X11.1 ⟨Nat.le_of_ble_eq_true rfl, Nat.le_of_ble_eq_true rfl⟩ ⟨Nat.le_refl _, Nat.le_refl _⟩ hl.1 rfl rfl (Nat.le_of_ble_eq_true rfl) dL_law_943 (fun H locs hw => ?_)
                                              refine lv_icmp_eq (tgt := 1115) hx hb dL_law_946 (by decide) (fun hc240 => ?_) (fun hc240 => ?_)
                                              · have hf := it_p hf hc240
                                                refine lv_iinc (v := (x3 + (6 : Int32))) (lv' := [(3, .int (x3 + (6 : Int32))), (0, .ref b), (1, .ref ((ad 0) 0)), (2, .ref (zm 0))]) hx hb dL_law_1115 hl (k := 3) rfl rfl (by decide) rfl (fun ls hl => ?_)
                                                refine lv_goto (tgt := 18) hx hb dL_law_1118 (by decide) ?_
                                                exact hr18 _ _ _ _ _ _ _ _ _ _ _ _ _ _ _ _ _ _ _ hf hw (lv_sub hl [1, 2, 3, 0] rfl)
                                              · have hf := it_n hf hc240
                                                refine lv_iconst (v := (0 : Int32)) hx hb dL_law_949 rfl ?_
                                                exact absurd (so1 hf) (by decide)
                                            · have hf := it_n hf hs241
                                              by_cases hs244 : ((xs x3.toNatClampNeg) &&& (31 : Int32)) = (21 : Int32)
                                              · have hf := it_p hf hs244
                                                refine lv_tableIn (off := 918) (tgt := 951) hx hb dL_law_33 (by rw [hs244]; decide) (by rw [hs244]; decide) (by rw [hs244]; rfl) (by decide) ?_
                                                refine lv_aload_n hx hb dL_law_951 rfl (lv_at hl 1 rfl) ?_
                                                refine lv_aload_n hx hb dL_law_952 rfl (lv_at hl 0 rfl) ?_
                                                refine lv_iload_n hx hb dL_law_953 rfl (lv_at hl 3 rfl) ?_
                                                refine lv_iconst (v := (1 : Int32)) hx hb dL_law_954 rfl ?_
                                                refine lv_iadd hx hb dL_law_955 ?_
                                                obtain ⟨hi242, hf⟩ := it_g hf
                                                refine va_sld hx hb hX hbl hbA hw.2.2 hi242 dL_law_956 ?_
                                                refine lv_if_eq (tgt := 964) hx hb dL_law_957 (by decide) (fun hc243 => ?_) (fun hc243 => ?_)
                                                · have hf := it_p hf hc243
                                                  refine lv_iconst (v := (0 : Int32)) hx hb dL_law_964 rfl ?_
                                                  exact kL_law_965 (ad := ad) (zm := zm) C hX hbl hr18 hf hw (lv_sub hl [0, 1, 2, 3] rfl)
                                                · have hf := it_n hf hc243
                                                  refine lv_iconst (v := (1 : Int32)) hx hb dL_law_960 rfl ?_
                                                  refine lv_goto (tgt := 965) hx hb dL_law_961 (by decide) ?_
                                                  exact kL_law_965 (ad := ad) (zm := zm) C hX hbl hr18 hf hw (lv_sub hl [0, 1, 2, 3] rfl)
                                              · have hf := it_n hf hs244
                                                by_cases hs252 : ((xs x3.toNatClampNeg) &&& (31 : Int32)) = (22 : Int32)
                                                · have hf := it_p hf hs252
                                                  refine lv_tableIn (off := 957) (tgt := 990) hx hb dL_law_33 (by rw [hs252]; decide) (by rw [hs252]; decide) (by rw [hs252]; rfl) (by decide) ?_
                                                  refine lv_aload_n hx hb dL_law_990 rfl (lv_at hl 1 rfl) ?_
                                                  obtain ⟨r245, Tr_246, hc247, hf⟩ := bd2_e hf
                                                  refine r_selVi C hw (c_X10_burn (ad := ad) hc247) md_X10_burn (Sel.skip _ (Sel.take (gcE g ad Te) (gcE g ad Te) rfl rfl (Sel.skip _ (Sel.skip _ (Sel.skip _ (Sel.skip _ (Sel.skip _ (Sel.skip _ (Sel.skip _ (Sel.skip _ (Sel.skip _ (Sel.skip _ (Sel.skip _ (Sel.skip _ (Sel.last (gcR g (ad 13) Tr) (gcR g (ad 13) Tr_246) rfl rfl))))))))))))))) q4_108 19 rfl cf_X10.1 ⟨Nat.le_of_ble_eq_true rfl, Nat.le_of_ble_eq_true rfl⟩ ⟨Nat.le_refl _, Nat.le_refl _⟩ hl.1 rfl rfl (Nat.le_of_ble_eq_true rfl) dL_law_991 (fun H locs hw => ?_)
                                                  refine lv_aload_n hx hb dL_law_994 rfl (lv_at hl 2 rfl) ?_
                                                  obtain ⟨r248, Tm_249, hc250, hf⟩ := bd2_e hf
                                                  refine r_selVi C hw (c_X11_burn (zm := zm) hc250) md_X11_burn (Sel.one (gcM g zm Tm) (gcM g zm Tm_249) _ rfl rfl) q6_15 0 rfl cf_X11.1 ⟨Nat.le_of_ble_eq_true rfl, Nat.le_of_ble_eq_true rfl⟩ ⟨Nat.le_refl _, Nat.le_refl _⟩ hl.1 rfl rfl (Nat.le_of_ble_eq_true rfl) dL_law_995 (fun H locs hw => ?_)
                                                  refine lv_icmp_eq (tgt := 1115) hx hb dL_law_998 (by decide) (fun hc251 => ?_) (fun hc251 => ?_)
                                                  · have hf := it_p hf hc251
                                                    refine lv_iinc (v := (x3 + (6 : Int32))) (lv' := [(3, .int (x3 + (6 : Int32))), (0, .ref b), (1, .ref ((ad 0) 0)), (2, .ref (zm 0))]) hx hb dL_law_1115 hl (k := 3) rfl rfl (by decide) rfl (fun ls hl => ?_)
                                                    refine lv_goto (tgt := 18) hx hb dL_law_1118 (by decide) ?_
                                                    exact hr18 _ _ _ _ _ _ _ _ _ _ _ _ _ _ _ _ _ _ _ hf hw (lv_sub hl [1, 2, 3, 0] rfl)
                                                  · have hf := it_n hf hc251
                                                    refine lv_iconst (v := (0 : Int32)) hx hb dL_law_1001 rfl ?_
                                                    exact absurd (so1 hf) (by decide)
                                                · have hf := it_n hf hs252
                                                  by_cases hs266 : ((xs x3.toNatClampNeg) &&& (31 : Int32)) = (23 : Int32)
                                                  · have hf := it_p hf hs266
                                                    refine lv_tableIn (off := 970) (tgt := 1003) hx hb dL_law_33 (by rw [hs266]; decide) (by rw [hs266]; decide) (by rw [hs266]; rfl) (by decide) ?_
                                                    refine lv_aload_n hx hb dL_law_1003 rfl (lv_at hl 1 rfl) ?_
                                                    refine lv_aload_n hx hb dL_law_1004 rfl (lv_at hl 0 rfl) ?_
                                                    refine lv_iload_n hx hb dL_law_1005 rfl (lv_at hl 3 rfl) ?_
                                                    refine lv_iconst (v := (1 : Int32)) hx hb dL_law_1006 rfl ?_
                                                    refine lv_iadd hx hb dL_law_1007 ?_
                                                    obtain ⟨hi253, hf⟩ := it_g hf
                                                    refine va_sld hx hb hX hbl hbA hw.2.2 hi253 dL_law_1008 ?_
                                                    refine lv_aload_n hx hb dL_law_1009 rfl (lv_at hl 0 rfl) ?_
                                                    refine lv_iload_n hx hb dL_law_1010 rfl (lv_at hl 3 rfl) ?_
                                                    refine lv_iconst (v := (2 : Int32)) hx hb dL_law_1011 rfl ?_
                                                    refine lv_iadd hx hb dL_law_1012 ?_
                                                    obtain ⟨hi254, hf⟩ := it_g hf
                                                    refine va_sld hx hb hX hbl hbA hw.2.2 hi254 dL_law_1013 ?_
                                                    refine lv_aload_n hx hb dL_law_1014 rfl (lv_at hl 0 rfl) ?_
                                                    refine lv_iload_n hx hb dL_law_1015 rfl (lv_at hl 3 rfl) ?_
                                                    refine lv_iconst (v := (3 : Int32)) hx hb dL_law_1016 rfl ?_
                                                    refine lv_iadd hx hb dL_law_1017 ?_
                                                    obtain ⟨hi255, hf⟩ := it_g hf
                                                    refine va_sld hx hb hX hbl hbA hw.2.2 hi255 dL_law_1018 ?_
                                                    obtain ⟨r256, Tr_257, hc258, hf⟩ := bd2_e hf
                                                    refine r_selVi C hw (c_X10_slips (ad := ad) hc258) md_X10_slips (Sel.skip _ (Sel.take (gcE g ad Te) (gcE g ad Te) rfl rfl (Sel.skip _ (Sel.skip _ (Sel.skip _ (Sel.skip _ (Sel.skip _ (Sel.skip _ (Sel.skip _ (Sel.skip _ (Sel.skip _ (Sel.skip _ (Sel.skip _ (Sel.skip _ (Sel.last (gcR g (ad 13) Tr) (gcR g (ad 13) Tr_257) rfl rfl))))))))))))))) q4_112 19 rfl cf_X10.1 ⟨Nat.le_of_ble_eq_true rfl, Nat.le_of_ble_eq_true rfl⟩ ⟨Nat.le_refl _, Nat.le_refl _⟩ hl.1 rfl rfl (Nat.le_of_ble_eq_true rfl) dL_law_1019 (fun H locs hw => ?_)
                                                    refine lv_aload_n hx hb dL_law_1022 rfl (lv_at hl 2 rfl) ?_
                                                    refine lv_aload_n hx hb dL_law_1023 rfl (lv_at hl 0 rfl) ?_
                                                    refine lv_iload_n hx hb dL_law_1024 rfl (lv_at hl 3 rfl) ?_
                                                    refine lv_iconst (v := (1 : Int32)) hx hb dL_law_1025 rfl ?_
                                                    refine lv_iadd hx hb dL_law_1026 ?_
                                                    obtain ⟨hi259, hf⟩ := it_g hf
                                                    refine va_sld hx hb hX hbl hbA hw.2.2 hi259 dL_law_1027 ?_
                                                    refine lv_aload_n hx hb dL_law_1028 rfl (lv_at hl 0 rfl) ?_
                                                    refine lv_iload_n hx hb dL_law_1029 rfl (lv_at hl 3 rfl) ?_
                                                    refine lv_iconst (v := (2 : Int32)) hx hb dL_law_1030 rfl ?_
                                                    refine lv_iadd hx hb dL_law_1031 ?_
                                                    obtain ⟨hi260, hf⟩ := it_g hf
                                                    refine va_sld hx hb hX hbl hbA hw.2.2 hi260 dL_law_1032 ?_
                                                    refine lv_aload_n hx hb dL_law_1033 rfl (lv_at hl 0 rfl) ?_
                                                    refine lv_iload_n hx hb dL_law_1034 rfl (lv_at hl 3 rfl) ?_
                                                    refine lv_iconst (v := (3 : Int32)) hx hb dL_law_1035 rfl ?_
                                                    refine lv_iadd hx hb dL_law_1036 ?_
                                                    obtain ⟨hi261, hf⟩ := it_g hf
                                                    refine va_sld hx hb hX hbl hbA hw.2.2 hi261 dL_law_1037 ?_
                                                    obtain ⟨r262, Tm_263, hc264, hf⟩ := bd2_e hf
                                                    refine r_selVi C hw (c_X11_slips (zm := zm) hc264) md_X11_slips (Sel.one (gcM g zm Tm) (gcM g zm Tm_263) _ rfl rfl) q6_19 0 rfl cf_X11.1 ⟨Nat.le_of_ble_eq_true rfl, Nat.le_of_ble_eq_true rfl⟩ ⟨Nat.le_refl _, Nat.le_refl _⟩ hl.1 rfl rfl (Nat.le_of_ble_eq_true rfl) dL_law_1038 (fun H locs hw => ?_)
                                                    refine lv_icmp_eq (tgt := 1115) hx hb dL_law_1041 (by decide) (fun hc265 => ?_) (fun hc265 => ?_)
                                                    · have hf := it_p hf hc265
                                                      refine lv_iinc (v := (x3 + (6 : Int32))) (lv' := [(3, .int (x3 + (6 : Int32))), (0, .ref b), (1, .ref ((ad 0) 0)), (2, .ref (zm 0))]) hx hb dL_law_1115 hl (k := 3) rfl rfl (by decide) rfl (fun ls hl => ?_)
                                                      refine lv_goto (tgt := 18) hx hb dL_law_1118 (by decide) ?_
                                                      exact hr18 _ _ _ _ _ _ _ _ _ _ _ _ _ _ _ _ _ _ _ hf hw (lv_sub hl [1, 2, 3, 0] rfl)
                                                    · have hf := it_n hf hc265
                                                      refine lv_iconst (v := (0 : Int32)) hx hb dL_law_1044 rfl ?_
                                                      exact absurd (so1 hf) (by decide)
                                                  · have hf := it_n hf hs266
                                                    by_cases hs278 : ((xs x3.toNatClampNeg) &&& (31 : Int32)) = (24 : Int32)
                                                    · have hf := it_p hf hs278
                                                      refine lv_tableIn (off := 1013) (tgt := 1046) hx hb dL_law_33 (by rw [hs278]; decide) (by rw [hs278]; decide) (by rw [hs278]; rfl) (by decide) ?_
                                                      refine lv_aload_n hx hb dL_law_1046 rfl (lv_at hl 1 rfl) ?_
                                                      refine lv_aload_n hx hb dL_law_1047 rfl (lv_at hl 0 rfl) ?_
                                                      refine lv_iload_n hx hb dL_law_1048 rfl (lv_at hl 3 rfl) ?_
                                                      refine lv_iconst (v := (1 : Int32)) hx hb dL_law_1049 rfl ?_
                                                      refine lv_iadd hx hb dL_law_1050 ?_
                                                      obtain ⟨hi267, hf⟩ := it_g hf
                                                      refine va_sld hx hb hX hbl hbA hw.2.2 hi267 dL_law_1051 ?_
                                                      obtain ⟨r268, Te_269, Ta_270, Tb_271, hc272, hf⟩ := bd4_e hf
                                                      refine r_selVi C hw (c_X10_keep (ad := ad) hc272) md_X10_keep (Sel.skip _ (Sel.take (gcE g ad Te) (gcE g ad Te_269) rfl rfl (Sel.skip _ (Sel.skip _ (Sel.take (gcD g (ad 6) Td) (gcD g (ad 6) Td) rfl rfl (Sel.skip _ (Sel.skip _ (Sel.skip _ (Sel.skip _ (Sel.take (gcD g (ad 7) Ta) (gcD g (ad 7) Ta_270) rfl rfl (Sel.one (gcD g (ad 8) Tb) (gcD g (ad 8) Tb_271) _ rfl rfl))))))))))) q4_147 19 rfl cf_X10.1 ⟨Nat.le_of_ble_eq_true rfl, Nat.le_of_ble_eq_true rfl⟩ ⟨Nat.le_refl _, Nat.le_refl _⟩ hl.1 rfl rfl (Nat.le_of_ble_eq_true rfl) dL_law_1052 (fun H locs hw => ?_)
                                                      refine lv_aload_n hx hb dL_law_1055 rfl (lv_at hl 2 rfl) ?_
                                                      refine lv_aload_n hx hb dL_law_1056 rfl (lv_at hl 0 rfl) ?_
                                                      refine lv_iload_n hx hb dL_law_1057 rfl (lv_at hl 3 rfl) ?_
                                                      refine lv_iconst (v := (1 : Int32)) hx hb dL_law_1058 rfl ?_
                                                      refine lv_iadd hx hb dL_law_1059 ?_
                                                      obtain ⟨hi273, hf⟩ := it_g hf
                                                      refine va_sld hx hb hX hbl hbA hw.2.2 hi273 dL_law_1060 ?_
                                                      obtain ⟨r274, Tm_275, hc276, hf⟩ := bd2_e hf
                                                      refine r_selVi C hw (c_X11_keep (zm := zm) hc276) md_X11_keep (Sel.one (gcM g zm Tm) (gcM g zm Tm_275) _ rfl rfl) q6_32 0 rfl cf_X11.1 ⟨Nat.le_of_ble_eq_true rfl, Nat.le_of_ble_eq_true rfl⟩ ⟨Nat.le_refl _, Nat.le_refl _⟩ hl.1 rfl rfl (Nat.le_of_ble_eq_true rfl) dL_law_1061 (fun H locs hw => ?_)
                                                      refine lv_icmp_eq (tgt := 1115) hx hb dL_law_1064 (by decide) (fun hc277 => ?_) (fun hc277 => ?_)
                                                      · have hf := it_p hf hc277
                                                        refine lv_iinc (v := (x3 + (6 : Int32))) (lv' := [(3, .int (x3 + (6 : Int32))), (0, .ref b), (1, .ref ((ad 0) 0)), (2, .ref (zm 0))]) hx hb dL_law_1115 hl (k := 3) rfl rfl (by decide) rfl (fun ls hl => ?_)
                                                        refine lv_goto (tgt := 18) hx hb dL_law_1118 (by decide) ?_
                                                        exact hr18 _ _ _ _ _ _ _ _ _ _ _ _ _ _ _ _ _ _ _ hf hw (lv_sub hl [1, 2, 3, 0] rfl)
                                                      · have hf := it_n hf hc277
                                                        refine lv_iconst (v := (0 : Int32)) hx hb dL_law_1067 rfl ?_
                                                        exact absurd (so1 hf) (by decide)
                                                    · have hf := it_n hf hs278
                                                      by_cases hs288 : ((xs x3.toNatClampNeg) &&& (31 : Int32)) = (25 : Int32)
                                                      · have hf := it_p hf hs288
                                                        refine lv_tableIn (off := 1036) (tgt := 1069) hx hb dL_law_33 (by rw [hs288]; decide) (by rw [hs288]; decide) (by rw [hs288]; rfl) (by decide) ?_
                                                        refine lv_aload_n hx hb dL_law_1069 rfl (lv_at hl 1 rfl) ?_
                                                        refine lv_aload_n hx hb dL_law_1070 rfl (lv_at hl 0 rfl) ?_
                                                        refine lv_iload_n hx hb dL_law_1071 rfl (lv_at hl 3 rfl) ?_
                                                        refine lv_iconst (v := (1 : Int32)) hx hb dL_law_1072 rfl ?_
                                                        refine lv_iadd hx hb dL_law_1073 ?_
                                                        obtain ⟨hi279, hf⟩ := it_g hf
                                                        refine va_sld hx hb hX hbl hbA hw.2.2 hi279 dL_law_1074 ?_
                                                        obtain ⟨r280, Td_281, hc282, hf⟩ := bd2_e hf
                                                        refine r_selVi C hw (c_X10_back (ad := ad) hc282) md_X10_back (Sel.skip _ (Sel.take (gcE g ad Te) (gcE g ad Te) rfl rfl (Sel.skip _ (Sel.skip _ (Sel.take (gcD g (ad 6) Td) (gcD g (ad 6) Td_281) rfl rfl (Sel.skip _ (Sel.skip _ (Sel.skip _ (Sel.skip _ (Sel.take (gcD g (ad 7) Ta) (gcD g (ad 7) Ta) rfl rfl (Sel.one (gcD g (ad 8) Tb) (gcD g (ad 8) Tb) _ rfl rfl))))))))))) q4_155 19 rfl cf_X10.1 ⟨Nat.le_of_ble_eq_true rfl, Nat.le_of_ble_eq_true rfl⟩ ⟨Nat.le_refl _, Nat.le_refl _⟩ hl.1 rfl rfl (Nat.le_of_ble_eq_true rfl) dL_law_1075 (fun H locs hw => ?_)
                                                        refine lv_aload_n hx hb dL_law_1078 rfl (lv_at hl 2 rfl) ?_
                                                        refine lv_aload_n hx hb dL_law_1079 rfl (lv_at hl 0 rfl) ?_
                                                        refine lv_iload_n hx hb dL_law_1080 rfl (lv_at hl 3 rfl) ?_
                                                        refine lv_iconst (v := (1 : Int32)) hx hb dL_law_1081 rfl ?_
                                                        refine lv_iadd hx hb dL_law_1082 ?_
                                                        obtain ⟨hi283, hf⟩ := it_g hf
                                                        refine va_sld hx hb hX hbl hbA hw.2.2 hi283 dL_law_1083 ?_
                                                        obtain ⟨r284, Tm_285, hc286, hf⟩ := bd2_e hf
                                                        refine r_selVi C hw (c_X11_back (zm := zm) hc286) md_X11_back (Sel.one (gcM g zm Tm) (gcM g zm Tm_285) _ rfl rfl) q6_40 0 rfl cf_X11.1 ⟨Nat.le_of_ble_eq_true rfl, Nat.le_of_ble_eq_true rfl⟩ ⟨Nat.le_refl _, Nat.le_refl _⟩ hl.1 rfl rfl (Nat.le_of_ble_eq_true rfl) dL_law_1084 (fun H locs hw => ?_)
                                                        refine lv_icmp_eq (tgt := 1115) hx hb dL_law_1087 (by decide) (fun hc287 => ?_) (fun hc287 => ?_)
                                                        · have hf := it_p hf hc287
                                                          refine lv_iinc (v := (x3 + (6 : Int32))) (lv' := [(3, .int (x3 + (6 : Int32))), (0, .ref b), (1, .ref ((ad 0) 0)), (2, .ref (zm 0))]) hx hb dL_law_1115 hl (k := 3) rfl rfl (by decide) rfl (fun ls hl => ?_)
                                                          refine lv_goto (tgt := 18) hx hb dL_law_1118 (by decide) ?_
                                                          exact hr18 _ _ _ _ _ _ _ _ _ _ _ _ _ _ _ _ _ _ _ hf hw (lv_sub hl [1, 2, 3, 0] rfl)
                                                        · have hf := it_n hf hc287
                                                          refine lv_iconst (v := (0 : Int32)) hx hb dL_law_1090 rfl ?_
                                                          exact absurd (so1 hf) (by decide)
                                                      · have hf := it_n hf hs288
                                                        by_cases hs296 : ((xs x3.toNatClampNeg) &&& (31 : Int32)) = (26 : Int32)
                                                        · have hf := it_p hf hs296
                                                          refine lv_tableIn (off := 1059) (tgt := 1092) hx hb dL_law_33 (by rw [hs296]; decide) (by rw [hs296]; decide) (by rw [hs296]; rfl) (by decide) ?_
                                                          refine lv_aload_n hx hb dL_law_1092 rfl (lv_at hl 1 rfl) ?_
                                                          refine lv_aload_n hx hb dL_law_1093 rfl (lv_at hl 0 rfl) ?_
                                                          refine lv_iload_n hx hb dL_law_1094 rfl (lv_at hl 3 rfl) ?_
                                                          refine lv_iconst (v := (1 : Int32)) hx hb dL_law_1095 rfl ?_
                                                          refine lv_iadd hx hb dL_law_1096 ?_
                                                          obtain ⟨hi289, hf⟩ := it_g hf
                                                          refine va_sld hx hb hX hbl hbA hw.2.2 hi289 dL_law_1097 ?_
                                                          obtain ⟨r290, hc291, hf⟩ := bd1_e hf
                                                          refine r_selVi C hw (c_X10_count (ad := ad) hc291) md_X10_count (Sel.skip _ (Sel.take (gcE g ad Te) (gcE g ad Te) rfl rfl (Sel.skip _ (Sel.skip _ (Sel.take (gcD g (ad 6) Td) (gcD g (ad 6) Td) rfl rfl (Sel.skip _ (Sel.take (gcX g (ad 3) Tx) (gcX g (ad 3) Tx) rfl rfl (Sel.take (gcT g (ad 1) Tt) (gcT g (ad 1) Tt) rfl rfl (Sel.skip _ (Sel.skip _ (Sel.skip _ (Sel.skip _ (Sel.skip _ (Sel.skip _ (Sel.last (gcR g (ad 13) Tr) (gcR g (ad 13) Tr) rfl rfl))))))))))))))) q4_159 19 rfl cf_X10.1 ⟨Nat.le_of_ble_eq_true rfl, Nat.le_of_ble_eq_true rfl⟩ ⟨Nat.le_refl _, Nat.le_refl _⟩ hl.1 rfl rfl (Nat.le_of_ble_eq_true rfl) dL_law_1098 (fun H locs hw => ?_)
                                                          refine lv_aload_n hx hb dL_law_1101 rfl (lv_at hl 2 rfl) ?_
                                                          refine lv_aload_n hx hb dL_law_1102 rfl (lv_at hl 0 rfl) ?_
                                                          refine lv_iload_n hx hb dL_law_1103 rfl (lv_at hl 3 rfl) ?_
                                                          refine lv_iconst (v := (1 : Int32)) hx hb dL_law_1104 rfl ?_
                                                          refine lv_iadd hx hb dL_law_1105 ?_
                                                          obtain ⟨hi292, hf⟩ := it_g hf
                                                          refine va_sld hx hb hX hbl hbA hw.2.2 hi292 dL_law_1106 ?_
                                                          obtain ⟨r293, hc294, hf⟩ := bd1_e hf
                                                          refine r_selVi C hw (c_X11_count (zm := zm) hc294) md_X11_count (Sel.one (gcM g zm Tm) (gcM g zm Tm) _ rfl rfl) q6_44 0 rfl cf_X11.1 ⟨Nat.le_of_ble_eq_true rfl, Nat.le_of_ble_eq_true rfl⟩ ⟨Nat.le_refl _, Nat.le_refl _⟩ hl.1 rfl rfl (Nat.le_of_ble_eq_true rfl) dL_law_1107 (fun H locs hw => ?_)
                                                          refine lv_icmp_eq (tgt := 1115) hx hb dL_law_1110 (by decide) (fun hc295 => ?_) (fun hc295 => ?_)
                                                          · have hf := it_p hf hc295
                                                            refine lv_iinc (v := (x3 + (6 : Int32))) (lv' := [(3, .int (x3 + (6 : Int32))), (0, .ref b), (1, .ref ((ad 0) 0)), (2, .ref (zm 0))]) hx hb dL_law_1115 hl (k := 3) rfl rfl (by decide) rfl (fun ls hl => ?_)
                                                            refine lv_goto (tgt := 18) hx hb dL_law_1118 (by decide) ?_
                                                            exact hr18 _ _ _ _ _ _ _ _ _ _ _ _ _ _ _ _ _ _ _ hf hw (lv_sub hl [1, 2, 3, 0] rfl)
                                                          · have hf := it_n hf hc295
                                                            refine lv_iconst (v := (0 : Int32)) hx hb dL_law_1113 rfl ?_
                                                            exact absurd (so1 hf) (by decide)
                                                        · have hf := it_n hf hs296
                                                          refine lv_tableOut (tgt := 1115) hx hb dL_law_33 (sw_o (lo := 0) (hi := 26) (by decide) (by decide) (fun k h1 h2 => ?_)) (by decide) ?_
                                                          · rcases (show k = 0 ∨ k = 1 ∨ k = 2 ∨ k = 3 ∨ k = 4 ∨ k = 5 ∨ k = 6 ∨ k = 7 ∨ k = 8 ∨ k = 9 ∨ k = 10 ∨ k = 11 ∨ k = 12 ∨ k = 13 ∨ k = 14 ∨ k = 15 ∨ k = 16 ∨ k = 17 ∨ k = 18 ∨ k = 19 ∨ k = 20 ∨ k = 21 ∨ k = 22 ∨ k = 23 ∨ k = 24 ∨ k = 25 ∨ k = 26 by omega) with rfl | rfl | rfl | rfl | rfl | rfl | rfl | rfl | rfl | rfl | rfl | rfl | rfl | rfl | rfl | rfl | rfl | rfl | rfl | rfl | rfl | rfl | rfl | rfl | rfl | rfl | rfl
                                                            · exact hs15
                                                            · exact hs23
                                                            · exact hs33
                                                            · exact hs48
                                                            · exact hs58
                                                            · exact hs72
                                                            · exact hs88
                                                            · exact hs93
                                                            · exact hs103
                                                            · exact hs115
                                                            · exact hs123
                                                            · exact hs131
                                                            · exact hs141
                                                            · exact hs155
                                                            · exact hs173
                                                            · exact hs179
                                                            · exact hs193
                                                            · exact hs203
                                                            · exact hs215
                                                            · exact hs231
                                                            · exact hs241
                                                            · exact hs244
                                                            · exact hs252
                                                            · exact hs266
                                                            · exact hs278
                                                            · exact hs288
                                                            · exact hs296
                                                          · refine lv_iinc (v := (x3 + (6 : Int32))) (lv' := [(3, .int (x3 + (6 : Int32))), (0, .ref b), (1, .ref ((ad 0) 0)), (2, .ref (zm 0))]) hx hb dL_law_1115 hl (k := 3) rfl rfl (by decide) rfl (fun ls hl => ?_)
                                                            refine lv_goto (tgt := 18) hx hb dL_law_1118 (by decide) ?_
                                                            exact hr18 _ _ _ _ _ _ _ _ _ _ _ _ _ _ _ _ _ _ _ hf hw (lv_sub hl [1, 2, 3, 0] rfl)
set_option maxRecDepth 100000 in
set_option maxHeartbeats 4000000 in
theorem klL_law_18 {l : Launch} {g : evG} {p : Program} {e : Env} {s : State} {m : MethodId} {b L : Nat} {xs : Nat → Int32} {below : List Frame} {meth : Method} {c : Code} {ad : Nat → Nat → Nat} {zm : Nat → Nat} (C : ctx g p s m #[Value.ref b] meth c RL code 4 ret (fun q : Nat => s.heap.size ≤ q)) (hX : va_X b L xs s s.heap) (hbl : b < s.heap.size) : ∀ (n : Nat) (Tm : Gp) (Te : Gp) (Tp : Gp) (Tl : Gp) (Td : Gp) (Tk : Gp) (Tx : Gp) (Tt : Gp) (Tv : Gp) (Ta : Gp) (Tb : Gp) (Tn : Gp) (Th : Gp) (Tg : Gp) (Tr : Gp) (x3 : Int32) (H : Heap) (locs : List Loc) (ls : Array Slot), lL_law_18 xs L n Tm Te Tp Tl Td Tk Tx Tt Tv Ta Tb Tn Th Tg Tr x3 = some (1 : Int32) → wl g (fun q : Nat => s.heap.size ≤ q) s.heap (gcM g zm Tm ++ (gcE g ad Te ++ (gcP g (ad 9) (ad 1) Tp ++ (gcL g (ad 4) (ad 5) Tl ++ (gcD g (ad 6) Td ++ (gcK g (ad 5) (ad 3) Tk ++ (gcX g (ad 3) Tx ++ (gcT g (ad 1) Tt ++ (gcT g (ad 2) Tv ++ (gcD g (ad 7) Ta ++ (gcD g (ad 8) Tb ++ (gcN g (ad 10) Tn ++ (gcH g (ad 11) Th ++ (gcG g (ad 12) Tg ++ (gcR g (ad 13) Tr))))))))))))))) H locs → lv_has ls 4 [(0, .ref b), (1, .ref ((ad 0) 0)), (2, .ref (zm 0)), (3, .int x3)] → W p l e room_1 s m #[Value.ref b] below meth c H locs 68 17327 (lw_Z below #[Value.ref b] s) (F0 m 18 ls []) := by
  intro n
  induction n with
  | zero => intro _ _ _ _ _ _ _ _ _ _ _ _ _ _ _ _ _ _ _ hf; exact no_f hf
  | succ n ih => intro _ _ _ _ _ _ _ _ _ _ _ _ _ _ _ _ _ _ _ hf hw hl; exact kL_law_18 (ad := ad) (zm := zm) C hX hbl (rec18 := lL_law_18 xs L n) ih hf hw hl
