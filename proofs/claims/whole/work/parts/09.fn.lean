noncomputable def fX10_personIndex (x0 : Int32) (x1 : Int32) : Option (Int32) :=
  some (((x0 * (6 : Int32)) + x1))
noncomputable def fX10_slotIndex (x0 : Int32) (x1 : Int32) (x2 : Int32) : Option (Int32) :=
  bd1 (fX10_personIndex x0 x1) (fun r1 => some (((r1 * (4 : Int32)) + x2)))
noncomputable def fX10_within (x0 : Int32) (x1 : Int32) (x2 : Int32) : Option (Int32) :=
  if x0 < x1 then (some ((0 : Int32)))
  else (if x2 < x0 then (some ((0 : Int32)))
  else (some ((1 : Int32))))
noncomputable def fX10_isValley (x0 : Int32) : Option (Int32) :=
  bd1 (fX10_within x0 (0 : Int32) (1 : Int32)) (fun r1 => if vp_nar .boolean r1 = r1 then some (r1) else none)
noncomputable def fX10_isSuch_6 (rec6 : Int32 → Int32 → Int32 → Option (Int32)) (x1 : Int32) (x2 : Int32) (x3 : Int32) : Option (Int32) :=
  if (7 : Int32) ≤ x3 then (some ((0 : Int32)))
  else (if x2 = x1 then (some ((1 : Int32)))
  else (bd1 (fX10_within x2 (0 : Int32) ((7 : Int32) - (1 : Int32))) (fun r1 => if r1 = 0 then (some ((0 : Int32)))
  else (if ix x2 7 then ((rec6 x1 (ev_ka x2.toNatClampNeg) (x3 + (1 : Int32)))) else none))))
noncomputable def lX10_isSuch_6  : Nat → Int32 → Int32 → Int32 → Option (Int32) :=
  lpf (fun _ _ _ => none) (fX10_isSuch_6)
noncomputable def fX10_isSuch (x0 : Int32) (x1 : Int32) : Option (Int32) :=
  (lX10_isSuch_6 fu x1 (x0 + (3 : Int32)) (0 : Int32))
noncomputable def fX10_isPlanAsked (x0 : Int32) (x1 : Int32) : Option (Int32) :=
  bd1 (fX10_within x0 (0 : Int32) (1 : Int32)) (fun r1 => if r1 = 0 then (some ((0 : Int32)))
  else (bd1 (fX10_within x1 (0 : Int32) (200 : Int32)) (fun r3 => if r3 = 0 then (some ((0 : Int32)))
  else (some ((1 : Int32))))))
noncomputable def fX7_signAt (Tx : Gp) (x1 : Int32) : Option (Int32) :=
  if x1 < 0 then (some ((-1 : Int32)))
  else (if (Tx 0 0) ≤ x1 then (some ((-1 : Int32)))
  else (if (200 : Int32) ≤ x1 then (some ((-1 : Int32)))
  else (if ix x1 200 then (some ((Tx 1 x1.toNatClampNeg))) else none)))
noncomputable def fX7_append_3 (rec3 : Gp → Int64 → Int32 → Int32 → Option (Gp)) (Tx : Gp) (x1 : Int64) (x3 : Int32) (x4 : Int32) : Option (Gp) :=
  if x3 ≤ x4 then (some (Tx))
  else (bd1 (fX10_within (Tx 0 0) (0 : Int32) (199 : Int32)) (fun r1 => if r1 = 0 then (some (Tx))
  else (if ix (Tx 0 0) 200 then ((rec3 (u2 (u2 Tx 1 (Tx 0 0).toNatClampNeg ((x1 >>> (((8 : Int32) * x4).toInt64 &&& 63)) &&& (255 : Int64)).toInt32) 0 0 ((Tx 0 0) + (1 : Int32))) x1 x3 (x4 + (1 : Int32)))) else none)))
noncomputable def lX7_append_3  : Nat → Gp → Int64 → Int32 → Int32 → Option (Gp) :=
  lpf (fun _ _ _ _ => none) (fX7_append_3)
noncomputable def fX7_append (Tx : Gp) (x1 : Int64) (x3 : Int32) : Option (Gp) :=
  (lX7_append_3 fu Tx x1 x3 (0 : Int32))
noncomputable def fX8_kindOfSign_21 (x0 : Int32) : Option (Int32) :=
  if x0 < (48 : Int32) then (some ((3 : Int32)))
  else (if (57 : Int32) < x0 then (some ((3 : Int32)))
  else (some ((2 : Int32))))
noncomputable def fX8_kindOfSign (x0 : Int32) : Option (Int32) :=
  if x0 = (-1 : Int32) then (some ((0 : Int32)))
  else (if x0 < (97 : Int32) then ((fX8_kindOfSign_21 x0))
  else (if (122 : Int32) < x0 then ((fX8_kindOfSign_21 x0))
  else (some ((1 : Int32)))))
noncomputable def fX8_advance_104 (Tx : Gp) (rec104 : Gp → Option (Gp)) (Tk : Gp) : Option (Gp) :=
  if (Tx 0 0) ≤ (Tk 0 2) then (some (Tk))
  else (bd1 (fX7_signAt Tx (Tk 0 2)) (fun r1 => bd1 (fX8_kindOfSign r1) (fun r3 => if r3 = (Tk 0 3) then ((rec104 (u2 Tk 0 2 ((Tk 0 2) + (1 : Int32)))))
  else (some (Tk)))))
noncomputable def lX8_advance_104 (Tx : Gp) : Nat → Gp → Option (Gp) :=
  lpf (fun _ => none) (fX8_advance_104 Tx)
noncomputable def fX8_advance_51 (Tx : Gp) (Tk : Gp) : Option (Gp) :=
  bd1 (fX7_signAt Tx (Tk 0 1)) (fun r1 => bd1 (fX8_kindOfSign r1) (fun r3 => if r3 = 0 then (some ((u2 (u2 Tk 0 3 r3) 0 2 (Tk 0 1))))
  else (if r3 = (3 : Int32) then (some ((u2 (u2 (u2 Tk 0 3 r3) 0 2 (Tk 0 1)) 0 2 ((Tk 0 1) + (1 : Int32)))))
  else ((lX8_advance_104 Tx fu (u2 (u2 (u2 Tk 0 3 r3) 0 2 (Tk 0 1)) 0 2 ((Tk 0 1) + (1 : Int32))))))))
noncomputable def fX8_advance_8 (Tx : Gp) (rec8 : Gp → Option (Gp)) (Tk : Gp) : Option (Gp) :=
  if (Tx 0 0) ≤ (Tk 0 1) then ((fX8_advance_51 Tx Tk))
  else (bd1 (fX7_signAt Tx (Tk 0 1)) (fun r1 => if r1 = (32 : Int32) then ((rec8 (u2 Tk 0 1 ((Tk 0 1) + (1 : Int32)))))
  else ((fX8_advance_51 Tx Tk))))
noncomputable def lX8_advance_8 (Tx : Gp) : Nat → Gp → Option (Gp) :=
  lpf (fun _ => none) (fX8_advance_8 Tx)
noncomputable def fX8_advance (Tk : Gp) (Tx : Gp) : Option (Gp) :=
  (lX8_advance_8 Tx fu (u2 Tk 0 1 (Tk 0 2)))
noncomputable def fX8_number_57 (Tk : Gp) (Tx : Gp) (rec57 : Int32 → Int32 → Option (Int32)) (x1 : Int32) (x2 : Int32) : Option (Int32) :=
  if (Tk 0 2) ≤ x2 then (some (x1))
  else (bd1 (fX7_signAt Tx x2) (fun r1 => (rec57 (((x1 * (10 : Int32)) + r1) - (48 : Int32)) (x2 + (1 : Int32)))))
noncomputable def lX8_number_57 (Tk : Gp) (Tx : Gp) : Nat → Int32 → Int32 → Option (Int32) :=
  lpf (fun _ _ => none) (fX8_number_57 Tk Tx)
noncomputable def fX8_number_26 (Tk : Gp) (Tx : Gp) : Option (Int32) :=
  if (Tk 0 3) = (2 : Int32) then (if ((Tk 0 2) - (Tk 0 1)) ≤ (2 : Int32) then ((lX8_number_57 Tk Tx fu (0 : Int32) (Tk 0 1)))
  else (some ((1000000 : Int32))))
  else (some ((1000000 : Int32)))
noncomputable def fX8_number (Tk : Gp) (Tx : Gp) : Option (Int32) :=
  if (Tk 0 3) = (3 : Int32) then (bd1 (fX7_signAt Tx (Tk 0 1)) (fun r1 => if r1 = (45 : Int32) then (some ((-1 : Int32)))
  else ((fX8_number_26 Tk Tx ))))
  else ((fX8_number_26 Tk Tx ))
noncomputable def fX8_isWord_28 (k : Nat) (Tk : Gp) (Tx : Gp) (rec28 : Int32 → Option (Int32)) (x2 : Int32) : Option (Int32) :=
  if (ev_sl k) ≤ x2 then (some ((1 : Int32)))
  else (bd1 (fX7_signAt Tx ((Tk 0 1) + x2)) (fun r1 => if ix x2 (ev_len.getD k 0) then (if r1 = (ev_sc k x2.toNatClampNeg) then ((rec28 (x2 + (1 : Int32))))
  else (some ((0 : Int32)))) else none))
noncomputable def lX8_isWord_28 (k : Nat) (Tk : Gp) (Tx : Gp) : Nat → Int32 → Option (Int32) :=
  lpf (fun _ => none) (fX8_isWord_28 k Tk Tx)
noncomputable def fX8_isWord (k : Nat) (Tk : Gp) (Tx : Gp) : Option (Int32) :=
  if (Tk 0 3) = (1 : Int32) then (if ((Tk 0 2) - (Tk 0 1)) = (ev_sl k) then ((lX8_isWord_28 k Tk Tx fu (0 : Int32)))
  else (some ((0 : Int32))))
  else (some ((0 : Int32)))
noncomputable def fX8_isEnd (Tk : Gp) : Option (Int32) :=
  if (Tk 0 3) = 0 then (some ((1 : Int32)))
  else (some ((0 : Int32)))
noncomputable def fX8_isSign (Tk : Gp) (Tx : Gp) (x1 : Int32) : Option (Int32) :=
  if (Tk 0 3) = (3 : Int32) then (bd1 (fX7_signAt Tx (Tk 0 1)) (fun r1 => if r1 = x1 then (some ((1 : Int32)))
  else (some ((0 : Int32)))))
  else (some ((0 : Int32)))
noncomputable def fX8_rewind (Tk : Gp) (Tx : Gp) : Option (Gp) :=
  bd1 (fX8_advance (u2 Tk 0 2 (0 : Int32)) Tx) (fun Tk_1 => some (Tk_1))
noncomputable def fX9_meantOn (Tt : Gp) (x1 : Int32) (x2 : Int32) (x3 : Int32) (x4 : Int32) : Option (Int32) :=
  bd1 (fX10_slotIndex x2 x3 x4) (fun r1 => bd1 (fX10_within ((x1 * (48 : Int32)) + r1) (0 : Int32) ((96 : Int32) - (1 : Int32))) (fun r3 => if r3 = 0 then (some ((5 : Int32)))
  else (if ix ((x1 * (48 : Int32)) + r1) 96 then (some ((Tt 5 ((x1 * (48 : Int32)) + r1).toNatClampNeg))) else none)))
noncomputable def fX9_breadOf_23 (Tt : Gp) (x1 : Int32) (x2 : Int32) (y0 : Int32) : Option (Int32) :=
  if y0 = 0 then (some ((0 : Int32)))
  else (if ix ((x1 * (5 : Int32)) + x2) 10 then (some ((Tt 3 ((x1 * (5 : Int32)) + x2).toNatClampNeg))) else none)
noncomputable def fX9_breadOf_22 (Tt : Gp) (x1 : Int32) (x2 : Int32) : Option (Int32) :=
  (fX9_breadOf_23 Tt x1 x2 (0 : Int32))
noncomputable def fX9_breadOf (Tt : Gp) (x1 : Int32) (x2 : Int32) : Option (Int32) :=
  if x1 < 0 then ((fX9_breadOf_22 Tt x1 x2))
  else (if (2 : Int32) ≤ x1 then ((fX9_breadOf_22 Tt x1 x2))
  else (if x2 < 0 then ((fX9_breadOf_22 Tt x1 x2))
  else (if (5 : Int32) ≤ x2 then ((fX9_breadOf_22 Tt x1 x2))
  else ((fX9_breadOf_23 Tt x1 x2 (1 : Int32))))))
noncomputable def fX9_classOf (Tt : Gp) (x1 : Int32) : Option (Int32) :=
  if x1 < 0 then (some ((4 : Int32)))
  else (if (5 : Int32) ≤ x1 then (some ((4 : Int32)))
  else (if ix x1 5 then (some ((Tt 2 x1.toNatClampNeg))) else none))
noncomputable def fX9_kindOf (Tt : Gp) (x1 : Int32) : Option (Int32) :=
  if x1 < 0 then (some ((-1 : Int32)))
  else (if (Tt 0 0) ≤ x1 then (some ((-1 : Int32)))
  else (if (6 : Int32) ≤ x1 then (some ((-1 : Int32)))
  else (if ix x1 6 then (some ((Tt 1 x1.toNatClampNeg))) else none)))
noncomputable def fX9_mayDo_46 (Tt : Gp) (x3 : Int32) (x5 : Int32) : Option (Int32) :=
  if x5 = (2 : Int32) then (if (Tt 0 1) < (2 : Int32) then (some ((1 : Int32)))
  else (if x3 = ((Tt 0 1) - (1 : Int32)) then (some ((0 : Int32)))
  else (some ((1 : Int32)))))
  else (some ((1 : Int32)))
noncomputable def fX9_mayDo (Tt : Gp) (x1 : Int32) (x2 : Int32) (x3 : Int32) (x4 : Int32) : Option (Int32) :=
  if x4 = (5 : Int32) then (some ((1 : Int32)))
  else (bd1 (fX9_breadOf Tt x1 x4) (fun r1 => if r1 = (-1 : Int32) then (some ((0 : Int32)))
  else (bd1 (fX9_kindOf Tt x2) (fun r3 => if r3 = (1 : Int32) then (bd1 (fX9_classOf Tt x4) (fun r5 => if r5 = (3 : Int32) then (some ((0 : Int32)))
  else ((fX9_mayDo_46 Tt x3 r3))))
  else ((fX9_mayDo_46 Tt x3 r3))))))
noncomputable def fX9_keepsTreaty_30 (Tt : Gp) (x1 : Int32) (y0 : Int32) : Option (Int32) :=
  if x1 = 0 then (if y0 = (1 : Int32) then (some ((1 : Int32)))
  else (some ((0 : Int32))))
  else (if y0 = (0 : Int32) then (some ((1 : Int32)))
  else (some ((0 : Int32))))
noncomputable def fX9_keepsTreaty (Tt : Gp) (x1 : Int32) (x2 : Int32) (x3 : Int32) (x4 : Int32) : Option (Int32) :=
  bd1 (fX9_kindOf Tt x2) (fun r1 => if r1 = (3 : Int32) then (some ((1 : Int32)))
  else (bd1 (fX9_classOf Tt x3) (fun r3 => bd1 (fX9_classOf Tt x4) (fun r5 => if r3 = r5 then ((fX9_keepsTreaty_30 Tt x1 (1 : Int32)))
  else ((fX9_keepsTreaty_30 Tt x1 (0 : Int32)))))))
noncomputable def fX9_breadMade (Tt : Gp) (x1 : Int32) (x2 : Int32) (x3 : Int32) : Option (Int32) :=
  bd1 (fX9_breadOf Tt x1 x3) (fun r1 => bd1 (fX9_kindOf Tt x2) (fun r3 => if r3 = (2 : Int32) then (some ((r1 / (2 : Int32))))
  else (some (r1))))
noncomputable def fX9_hasPair (Tt : Gp) (x1 : Int32) : Option (Int32) :=
  bd1 (fX10_within x1 (0 : Int32) ((Tt 0 0) - (1 : Int32))) (fun r1 => if vp_nar .boolean r1 = r1 then some (r1) else none)
noncomputable def fX9_tellKind (Tt : Gp) (x1 : Int32) (x2 : Int32) : Option (Gp) :=
  bd1 (fX9_hasPair Tt x1) (fun r1 => if r1 = 0 then (some (Tt))
  else (if (6 : Int32) ≤ x1 then (some (Tt))
  else (if ix x1 6 then (some ((u2 Tt 1 x1.toNatClampNeg x2))) else none)))
noncomputable def fX9_canBeDone (Tt : Gp) (x1 : Int32) (x2 : Int32) : Option (Int32) :=
  bd1 (fX9_breadOf Tt x1 x2) (fun r1 => if r1 = (-1 : Int32) then (some ((0 : Int32)))
  else (some ((1 : Int32))))
noncomputable def fX9_tellMeant (Tt : Gp) (x1 : Int32) (x2 : Int32) (x3 : Int32) : Option (Gp) :=
  bd1 (fX10_within ((x1 * (48 : Int32)) + x2) (0 : Int32) ((96 : Int32) - (1 : Int32))) (fun r1 => if r1 = 0 then (some (Tt))
  else (if ix ((x1 * (48 : Int32)) + x2) 96 then (some ((u2 Tt 5 ((x1 * (48 : Int32)) + x2).toNatClampNeg x3))) else none))
noncomputable def fX9_settle (Tt : Gp) (x1 : Int32) (x2 : Int32) : Option (Gp) :=
  some ((uc (uc (u2 (u2 Tt 0 0 x1) 0 1 x2) 1 (ev_fill (Tt 1) 6 (0 : Int32))) 5 (ev_fill (Tt 5) 96 (5 : Int32))))
noncomputable def fX9_tellBread (Tt : Gp) (x1 : Int32) (x2 : Int32) (x3 : Int32) : Option (Gp) :=
  if x1 < 0 then (some (Tt))
  else (if (2 : Int32) ≤ x1 then (some (Tt))
  else (if x2 < 0 then (some (Tt))
  else (if x2 < (5 : Int32) then (if ix ((x1 * (5 : Int32)) + x2) 10 then (some ((u2 Tt 3 ((x1 * (5 : Int32)) + x2).toNatClampNeg x3))) else none)
  else (some (Tt)))))
noncomputable def fX9_tellWork (Tt : Gp) (x1 : Int32) (x2 : Int32) (x3 : Int32) : Option (Gp) :=
  if x1 < 0 then (some (Tt))
  else (if x1 < (5 : Int32) then (if ix x1 5 then (if ix x1 5 then (some ((u2 (u2 Tt 2 x1.toNatClampNeg x2) 4 x1.toNatClampNeg x3))) else none) else none)
  else (some (Tt)))
noncomputable def fX9_worthOf (Tt : Gp) (x1 : Int32) : Option (Int32) :=
  if x1 < 0 then (some ((0 : Int32)))
  else (if (5 : Int32) ≤ x1 then (some ((0 : Int32)))
  else (if ix x1 5 then (some ((Tt 4 x1.toNatClampNeg))) else none))
noncomputable def fX9_becomeLike_123 (To : Gp) (rec123 : Gp → Int32 → Option (Gp)) (Tt : Gp) (x2 : Int32) : Option (Gp) :=
  if (96 : Int32) ≤ x2 then (some (Tt))
  else (if ix x2 96 then (if ix x2 96 then ((rec123 (u2 Tt 5 x2.toNatClampNeg (To 5 x2.toNatClampNeg)) (x2 + (1 : Int32)))) else none) else none)
noncomputable def lX9_becomeLike_123 (To : Gp) : Nat → Gp → Int32 → Option (Gp) :=
  lpf (fun _ _ => none) (fX9_becomeLike_123 To)
noncomputable def fX9_becomeLike_97 (To : Gp) (rec97 : Gp → Int32 → Option (Gp)) (Tt : Gp) (x2 : Int32) : Option (Gp) :=
  if (10 : Int32) ≤ x2 then ((lX9_becomeLike_123 To fu Tt (0 : Int32)))
  else (if ix x2 10 then (if ix x2 10 then ((rec97 (u2 Tt 3 x2.toNatClampNeg (To 3 x2.toNatClampNeg)) (x2 + (1 : Int32)))) else none) else none)
noncomputable def lX9_becomeLike_97 (To : Gp) : Nat → Gp → Int32 → Option (Gp) :=
  lpf (fun _ _ => none) (fX9_becomeLike_97 To)
noncomputable def fX9_becomeLike_60 (To : Gp) (rec60 : Gp → Int32 → Option (Gp)) (Tt : Gp) (x2 : Int32) : Option (Gp) :=
  if (5 : Int32) ≤ x2 then ((lX9_becomeLike_97 To fu Tt (0 : Int32)))
  else (if ix x2 5 then (if ix x2 5 then (if ix x2 5 then (if ix x2 5 then ((rec60 (u2 (u2 Tt 2 x2.toNatClampNeg (To 2 x2.toNatClampNeg)) 4 x2.toNatClampNeg (To 4 x2.toNatClampNeg)) (x2 + (1 : Int32)))) else none) else none) else none) else none)
noncomputable def lX9_becomeLike_60 (To : Gp) : Nat → Gp → Int32 → Option (Gp) :=
  lpf (fun _ _ => none) (fX9_becomeLike_60 To)
noncomputable def fX9_becomeLike_34 (To : Gp) (rec34 : Gp → Int32 → Option (Gp)) (Tt : Gp) (x2 : Int32) : Option (Gp) :=
  if (6 : Int32) ≤ x2 then ((lX9_becomeLike_60 To fu Tt (0 : Int32)))
  else (if ix x2 6 then (if ix x2 6 then ((rec34 (u2 Tt 1 x2.toNatClampNeg (To 1 x2.toNatClampNeg)) (x2 + (1 : Int32)))) else none) else none)
noncomputable def lX9_becomeLike_34 (To : Gp) : Nat → Gp → Int32 → Option (Gp) :=
  lpf (fun _ _ => none) (fX9_becomeLike_34 To)
noncomputable def fX9_becomeLike (Tt : Gp) (To : Gp) : Option (Gp) :=
  (lX9_becomeLike_34 To fu (u2 (u2 (u2 (u2 Tt 0 0 (To 0 0)) 0 1 (To 0 1)) 0 2 (To 0 2)) 0 3 (To 0 3)) (0 : Int32))
noncomputable def fX9_hasHour (Tt : Gp) (x1 : Int32) : Option (Int32) :=
  bd1 (fX10_within x1 (0 : Int32) ((Tt 0 1) - (1 : Int32))) (fun r1 => if vp_nar .boolean r1 = r1 then some (r1) else none)
noncomputable def fX1_takeNumber (Tl : Gp) (Tk : Gp) (Tx : Gp) (x1 : Int32) (x2 : Int32) : Option (Int32 × Gp × Gp) :=
  if (Tl 0 1) = (-1 : Int32) then (bd1 (fX8_number Tk Tx) (fun r1 => bd1 (fX10_within r1 x1 x2) (fun r3 => if r3 = 0 then (some (r1, (u2 Tl 0 1 (Tk 0 1)), Tk))
  else (bd1 (fX8_advance Tk Tx) (fun Tk_5 => some (r1, Tl, Tk_5))))))
  else (some ((-1 : Int32), Tl, Tk))
noncomputable def fX1_readEats (Tl : Gp) (Tk : Gp) (Tx : Gp) (Tv : Gp) : Option (Gp × Gp × Gp) :=
  bd1 (fX8_advance Tk Tx) (fun Tk_1 => bd3 (fX1_takeNumber Tl Tk_1 Tx (0 : Int32) (20 : Int32)) (fun r3 Tl_4 Tk_5 => if (Tl_4 0 1) = (-1 : Int32) then (some (Tl_4, Tk_5, (u2 Tv 0 2 r3)))
  else (some (Tl_4, Tk_5, Tv))))
noncomputable def fX1_readFine (Tl : Gp) (Tk : Gp) (Tx : Gp) (Tv : Gp) : Option (Gp × Gp × Gp) :=
  bd1 (fX8_advance Tk Tx) (fun Tk_1 => bd3 (fX1_takeNumber Tl Tk_1 Tx (0 : Int32) (99 : Int32)) (fun r3 Tl_4 Tk_5 => if (Tl_4 0 1) = (-1 : Int32) then (some (Tl_4, Tk_5, (u2 Tv 0 3 r3)))
  else (some (Tl_4, Tk_5, Tv))))
noncomputable def fX1_readKind (Tl : Gp) (Tk : Gp) (Tx : Gp) (Tv : Gp) : Option (Gp × Gp × Gp) :=
  bd1 (fX8_advance Tk Tx) (fun Tk_1 => bd3 (fX1_takeNumber Tl Tk_1 Tx (0 : Int32) ((Tv 0 0) - (1 : Int32))) (fun r3 Tl_4 Tk_5 => bd3 (fX1_takeNumber Tl_4 Tk_5 Tx (0 : Int32) (3 : Int32)) (fun r7 Tl_8 Tk_9 => if (Tl_8 0 1) = (-1 : Int32) then (bd1 (fX9_tellKind Tv r3 r7) (fun Tv_11 => some (Tl_8, Tk_9, Tv_11)))
  else (some (Tl_8, Tk_9, Tv)))))
noncomputable def fX1_readMeant (Tl : Gp) (Tk : Gp) (Tx : Gp) (Tv : Gp) : Option (Gp × Gp × Gp) :=
  bd1 (fX8_advance Tk Tx) (fun Tk_1 => bd3 (fX1_takeNumber Tl Tk_1 Tx (0 : Int32) (1 : Int32)) (fun r3 Tl_4 Tk_5 => bd3 (fX1_takeNumber Tl_4 Tk_5 Tx (0 : Int32) (1 : Int32)) (fun r7 Tl_8 Tk_9 => bd3 (fX1_takeNumber Tl_8 Tk_9 Tx (0 : Int32) ((Tv 0 0) - (1 : Int32))) (fun r11 Tl_12 Tk_13 => bd3 (fX1_takeNumber Tl_12 Tk_13 Tx (0 : Int32) ((Tv 0 1) - (1 : Int32))) (fun r15 Tl_16 Tk_17 => bd3 (fX1_takeNumber Tl_16 Tk_17 Tx (0 : Int32) (5 : Int32)) (fun r19 Tl_20 Tk_21 => if (Tl_20 0 1) = (-1 : Int32) then (bd1 (fX9_canBeDone Tv r7 r19) (fun r23 => if r23 = 0 then (some ((u2 Tl_20 0 1 (Tk_17 0 1)), Tk_21, Tv))
  else (bd1 (fX10_slotIndex r7 r11 r15) (fun r25 => bd1 (fX9_tellMeant Tv r3 r25 r19) (fun Tv_27 => some (Tl_20, Tk_21, Tv_27))))))
  else (some (Tl_20, Tk_21, Tv))))))))
noncomputable def fX1_readTreaty (Tl : Gp) (Tk : Gp) (Tx : Gp) (Tv : Gp) : Option (Gp × Gp × Gp) :=
  bd1 (fX8_advance Tk Tx) (fun Tk_1 => bd3 (fX1_takeNumber Tl Tk_1 Tx (1 : Int32) (6 : Int32)) (fun r3 Tl_4 Tk_5 => bd3 (fX1_takeNumber Tl_4 Tk_5 Tx (1 : Int32) (4 : Int32)) (fun r7 Tl_8 Tk_9 => if (Tl_8 0 1) = (-1 : Int32) then (bd1 (fX9_settle Tv r3 r7) (fun Tv_11 => some (Tl_8, Tk_9, Tv_11)))
  else (some (Tl_8, Tk_9, Tv)))))
noncomputable def fX1_readWork (Tl : Gp) (Tk : Gp) (Tx : Gp) (Tv : Gp) : Option (Gp × Gp × Gp) :=
  bd1 (fX8_advance Tk Tx) (fun Tk_1 => bd3 (fX1_takeNumber Tl Tk_1 Tx (0 : Int32) (4 : Int32)) (fun r3 Tl_4 Tk_5 => bd3 (fX1_takeNumber Tl_4 Tk_5 Tx (0 : Int32) (3 : Int32)) (fun r7 Tl_8 Tk_9 => bd3 (fX1_takeNumber Tl_8 Tk_9 Tx (-1 : Int32) (20 : Int32)) (fun r11 Tl_12 Tk_13 => bd3 (fX1_takeNumber Tl_12 Tk_13 Tx (-1 : Int32) (20 : Int32)) (fun r15 Tl_16 Tk_17 => bd3 (fX1_takeNumber Tl_16 Tk_17 Tx (0 : Int32) (20 : Int32)) (fun r19 Tl_20 Tk_21 => if (Tl_20 0 1) = (-1 : Int32) then (bd1 (fX9_tellWork Tv r3 r7 r19) (fun Tv_23 => bd1 (fX9_tellBread Tv_23 (0 : Int32) r3 r11) (fun Tv_25 => bd1 (fX9_tellBread Tv_25 (1 : Int32) r3 r15) (fun Tv_27 => some (Tl_20, Tk_21, Tv_27)))))
  else (some (Tl_20, Tk_21, Tv))))))))
noncomputable def fX1_readLine (Tl : Gp) (Tk : Gp) (Tx : Gp) (Tv : Gp) : Option (Gp × Gp × Gp) :=
  bd1 (fX8_isWord 0 Tk Tx) (fun r1 => if r1 = 0 then (bd1 (fX8_isWord 1 Tk Tx) (fun r3 => if r3 = 0 then (bd1 (fX8_isWord 2 Tk Tx) (fun r5 => if r5 = 0 then (bd1 (fX8_isWord 3 Tk Tx) (fun r7 => if r7 = 0 then (bd1 (fX8_isWord 4 Tk Tx) (fun r9 => if r9 = 0 then (bd1 (fX8_isWord 5 Tk Tx) (fun r11 => if r11 = 0 then (some ((u2 Tl 0 1 (Tk 0 1)), Tk, Tv))
  else (bd3 (fX1_readFine Tl Tk Tx Tv) (fun Tl_13 Tk_14 Tv_15 => some (Tl_13, Tk_14, Tv_15)))))
  else (bd3 (fX1_readEats Tl Tk Tx Tv) (fun Tl_18 Tk_19 Tv_20 => some (Tl_18, Tk_19, Tv_20)))))
  else (bd3 (fX1_readMeant Tl Tk Tx Tv) (fun Tl_23 Tk_24 Tv_25 => some (Tl_23, Tk_24, Tv_25)))))
  else (bd3 (fX1_readKind Tl Tk Tx Tv) (fun Tl_28 Tk_29 Tv_30 => some (Tl_28, Tk_29, Tv_30)))))
  else (bd3 (fX1_readWork Tl Tk Tx Tv) (fun Tl_33 Tk_34 Tv_35 => some (Tl_33, Tk_34, Tv_35)))))
  else (bd3 (fX1_readTreaty Tl Tk Tx Tv) (fun Tl_38 Tk_39 Tv_40 => some (Tl_38, Tk_39, Tv_40))))
noncomputable def fX1_readInto_14 (Tx : Gp) (rec14 : Gp → Gp → Gp → Int32 → Option (Int32 × Gp × Gp × Gp)) (Tl : Gp) (Tk : Gp) (Tv : Gp) (x2 : Int32) : Option (Int32 × Gp × Gp × Gp) :=
  if (10 : Int32) < x2 then (some ((Tl 0 1), Tl, Tk, Tv))
  else (bd3 (fX1_readLine Tl Tk Tx Tv) (fun Tl_1 Tk_2 Tv_3 => if (Tl_1 0 1) = (-1 : Int32) then (bd1 (fX8_isEnd Tk_2) (fun r5 => if r5 = 0 then (if x2 = (10 : Int32) then (some ((Tk_2 0 1), (u2 Tl_1 0 2 x2), Tk_2, Tv_3))
  else (bd1 (fX8_isSign Tk_2 Tx (59 : Int32)) (fun r7 => if r7 = 0 then (some ((Tk_2 0 1), (u2 Tl_1 0 2 x2), Tk_2, Tv_3))
  else (bd1 (fX8_advance Tk_2 Tx) (fun Tk_9 => (rec14 (u2 Tl_1 0 2 x2) Tk_9 Tv_3 (x2 + (1 : Int32))))))))
  else (some ((Tl_1 0 1), (u2 Tl_1 0 2 x2), Tk_2, Tv_3))))
  else (some ((Tl_1 0 1), (u2 Tl_1 0 2 x2), Tk_2, Tv_3))))
noncomputable def lX1_readInto_14 (Tx : Gp) : Nat → Gp → Gp → Gp → Int32 → Option (Int32 × Gp × Gp × Gp) :=
  lpf (fun _ _ _ _ => none) (fX1_readInto_14 Tx)
noncomputable def fX1_readInto (Tl : Gp) (Tk : Gp) (Tx : Gp) (Tv : Gp) : Option (Int32 × Gp × Gp × Gp) :=
  bd1 (fX8_rewind Tk Tx) (fun Tk_1 => (lX1_readInto_14 Tx fu (u2 Tl 0 1 (-1 : Int32)) Tk_1 Tv (1 : Int32)))
noncomputable def fX0_beginAnew (Td : Gp) : Option (Gp) :=
  some ((uc (uc (uc (uc (u2 (u2 Td 0 0 (0 : Int32)) 0 1 (0 : Int32)) 1 (ev_fill (Td 1) 2 (0 : Int32))) 2 (ev_fill (Td 2) 12 (0 : Int32))) 3 (ev_fill (Td 3) 12 (0 : Int32))) 4 (ev_fill (Td 4) 48 (-1 : Int32))))
noncomputable def fX0_becomeLike_81 (To : Gp) (rec81 : Gp → Int32 → Option (Gp)) (Td : Gp) (x2 : Int32) : Option (Gp) :=
  if (48 : Int32) ≤ x2 then (some (Td))
  else (if ix x2 48 then (if ix x2 48 then ((rec81 (u2 Td 4 x2.toNatClampNeg (To 4 x2.toNatClampNeg)) (x2 + (1 : Int32)))) else none) else none)
noncomputable def lX0_becomeLike_81 (To : Gp) : Nat → Gp → Int32 → Option (Gp) :=
  lpf (fun _ _ => none) (fX0_becomeLike_81 To)
noncomputable def fX0_becomeLike_43 (To : Gp) (rec43 : Gp → Int32 → Option (Gp)) (Td : Gp) (x2 : Int32) : Option (Gp) :=
  if (12 : Int32) ≤ x2 then ((lX0_becomeLike_81 To fu Td (0 : Int32)))
  else (if ix x2 12 then (if ix x2 12 then (if ix x2 12 then (if ix x2 12 then ((rec43 (u2 (u2 Td 2 x2.toNatClampNeg (To 2 x2.toNatClampNeg)) 3 x2.toNatClampNeg (To 3 x2.toNatClampNeg)) (x2 + (1 : Int32)))) else none) else none) else none) else none)
noncomputable def lX0_becomeLike_43 (To : Gp) : Nat → Gp → Int32 → Option (Gp) :=
  lpf (fun _ _ => none) (fX0_becomeLike_43 To)
noncomputable def fX0_becomeLike_18 (To : Gp) (rec18 : Gp → Int32 → Option (Gp)) (Td : Gp) (x2 : Int32) : Option (Gp) :=
  if (2 : Int32) ≤ x2 then ((lX0_becomeLike_43 To fu Td (0 : Int32)))
  else (if ix x2 2 then (if ix x2 2 then ((rec18 (u2 Td 1 x2.toNatClampNeg (To 1 x2.toNatClampNeg)) (x2 + (1 : Int32)))) else none) else none)
noncomputable def lX0_becomeLike_18 (To : Gp) : Nat → Gp → Int32 → Option (Gp) :=
  lpf (fun _ _ => none) (fX0_becomeLike_18 To)
noncomputable def fX0_becomeLike (Td : Gp) (To : Gp) : Option (Gp) :=
  (lX0_becomeLike_18 To fu (u2 (u2 Td 0 0 (To 0 0)) 0 1 (To 0 1)) (0 : Int32))
noncomputable def fX0_tellOtherwise (Td : Gp) (x1 : Int32) (x2 : Int32) (x3 : Int32) (x4 : Int32) : Option (Gp) :=
  bd1 (fX10_slotIndex x1 x2 x3) (fun r1 => bd1 (fX10_within r1 (0 : Int32) (47 : Int32)) (fun r3 => if r3 = 0 then (some (Td))
  else (if ix r1 48 then (some ((u2 Td 4 r1.toNatClampNeg x4))) else none)))
noncomputable def fX0_tellIll (Td : Gp) (x1 : Int32) (x2 : Int32) (x3 : Int32) : Option (Gp) :=
  bd1 (fX10_personIndex x1 x2) (fun r1 => if x3 = 0 then (some ((u2 Td 0 1 ((Td 0 1) &&& (((1 : Int32) <<< (r1 &&& 31)) ^^^ (-1 : Int32))))))
  else (some ((u2 Td 0 1 ((Td 0 1) ||| ((1 : Int32) <<< (r1 &&& 31)))))))
noncomputable def fX0_isIll (Td : Gp) (x1 : Int32) (x2 : Int32) : Option (Int32) :=
  bd1 (fX10_personIndex x1 x2) (fun r1 => if (((Td 0 1) >>> (r1 &&& 31)) &&& (1 : Int32)) = 0 then (some ((0 : Int32)))
  else (some ((1 : Int32))))
noncomputable def fX0_faultsOf (Td : Gp) (x1 : Int32) (x2 : Int32) : Option (Int32) :=
  bd1 (fX10_personIndex x1 x2) (fun r1 => bd1 (fX10_within r1 (0 : Int32) (11 : Int32)) (fun r3 => if r3 = 0 then (some ((0 : Int32)))
  else (if ix r1 12 then (some ((Td 2 r1.toNatClampNeg))) else none)))
noncomputable def fX0_owedBy (Td : Gp) (x1 : Int32) (x2 : Int32) : Option (Int32) :=
  bd1 (fX10_personIndex x1 x2) (fun r1 => bd1 (fX10_within r1 (0 : Int32) (11 : Int32)) (fun r3 => if r3 = 0 then (some ((0 : Int32)))
  else (if ix r1 12 then (some ((Td 3 r1.toNatClampNeg))) else none)))
noncomputable def fX0_odd (Td : Gp) : Option (Int32) :=
  some (((Td 0 0) &&& (1 : Int32)))
noncomputable def fX0_toldFor (Td : Gp) (x1 : Int32) (x2 : Int32) (x3 : Int32) : Option (Int32) :=
  bd1 (fX10_slotIndex x1 x2 x3) (fun r1 => bd1 (fX10_within r1 (0 : Int32) (47 : Int32)) (fun r3 => if r3 = 0 then (some ((-1 : Int32)))
  else (if ix r1 48 then (some ((Td 4 r1.toNatClampNeg))) else none)))
noncomputable def fX0_isToldOtherwise (Td : Gp) (Tt : Gp) (x2 : Int32) (x3 : Int32) (x4 : Int32) : Option (Int32) :=
  bd1 (fX0_toldFor Td x2 x3 x4) (fun r1 => if r1 = (-1 : Int32) then (some ((0 : Int32)))
  else (bd1 (fX0_odd Td) (fun r3 => bd1 (fX9_meantOn Tt r3 x2 x3 x4) (fun r5 => if r1 = r5 then (some ((0 : Int32)))
  else (some ((1 : Int32)))))))
noncomputable def fX0_workOf_41 (Td : Gp) (Tt : Gp) (x2 : Int32) (x3 : Int32) (x4 : Int32) (x5 : Int32) : Option (Int32) :=
  bd1 (fX9_mayDo Tt x2 x3 x4 x5) (fun r1 => if r1 = 0 then (some ((5 : Int32)))
  else (some (x5)))
noncomputable def fX0_workOf (Td : Gp) (Tt : Gp) (x2 : Int32) (x3 : Int32) (x4 : Int32) : Option (Int32) :=
  bd1 (fX0_isIll Td x2 x3) (fun r1 => if r1 = 0 then (bd1 (fX0_toldFor Td x2 x3 x4) (fun r3 => if r3 = (-1 : Int32) then (bd1 (fX0_odd Td) (fun r5 => bd1 (fX9_meantOn Tt r5 x2 x3 x4) (fun r7 => (fX0_workOf_41 Td Tt x2 x3 x4 r7))))
  else ((fX0_workOf_41 Td Tt x2 x3 x4 r3))))
  else (some ((5 : Int32))))
noncomputable def fX0_isBreach (Td : Gp) (Tt : Gp) (x2 : Int32) (x3 : Int32) : Option (Int32) :=
  bd1 (fX0_isIll Td (0 : Int32) x2) (fun r1 => if r1 = 0 then (bd1 (fX0_isIll Td (1 : Int32) x2) (fun r3 => if r3 = 0 then (bd1 (fX0_workOf Td Tt (0 : Int32) x2 x3) (fun r5 => bd1 (fX0_workOf Td Tt (1 : Int32) x2 x3) (fun r7 => bd1 (fX0_odd Td) (fun r9 => bd1 (fX9_keepsTreaty Tt r9 x2 r5 r7) (fun r11 => if r11 = 0 then (some ((1 : Int32)))
  else (some ((0 : Int32))))))))
  else (some ((0 : Int32)))))
  else (some ((0 : Int32))))
noncomputable def fX0_addFault (Td : Gp) (x1 : Int32) (x2 : Int32) (x3 : Int32) : Option (Gp) :=
  bd1 (fX10_personIndex x1 x2) (fun r1 => bd1 (fX10_within r1 (0 : Int32) (11 : Int32)) (fun r3 => if r3 = 0 then (some (Td))
  else (if ix r1 12 then (if ix r1 12 then (if ix r1 12 then (if ix r1 12 then (some ((u2 (u2 Td 2 r1.toNatClampNeg ((Td 2 r1.toNatClampNeg) + (1 : Int32))) 3 r1.toNatClampNeg ((Td 3 r1.toNatClampNeg) + x3)))) else none) else none) else none) else none)))
noncomputable def fX0_blame_50 (Tt : Gp) (Td : Gp) (x2 : Int32) : Option (Gp) :=
  bd1 (fX0_addFault Td (1 : Int32) x2 (Tt 0 3)) (fun Td_1 => some (Td_1))
noncomputable def fX0_blame_40 (Tt : Gp) (Td : Gp) (x2 : Int32) (x4 : Int32) (x5 : Int32) : Option (Gp) :=
  if x5 = 0 then (if x4 = 0 then ((fX0_blame_50 Tt Td x2))
  else (some (Td)))
  else ((fX0_blame_50 Tt Td x2))
noncomputable def fX0_blame_30 (Tt : Gp) (Td : Gp) (x2 : Int32) (x4 : Int32) (x5 : Int32) : Option (Gp) :=
  bd1 (fX0_addFault Td (0 : Int32) x2 (Tt 0 3)) (fun Td_1 => (fX0_blame_40 Tt Td_1 x2 x4 x5))
noncomputable def fX0_blame (Td : Gp) (Tt : Gp) (x2 : Int32) (x3 : Int32) : Option (Gp) :=
  bd1 (fX0_isToldOtherwise Td Tt (0 : Int32) x2 x3) (fun r1 => bd1 (fX0_isToldOtherwise Td Tt (1 : Int32) x2 x3) (fun r3 => if r1 = 0 then (if r3 = 0 then ((fX0_blame_30 Tt Td x2 r1 r3))
  else ((fX0_blame_40 Tt Td x2 r1 r3)))
  else ((fX0_blame_30 Tt Td x2 r1 r3))))
noncomputable def fX0_makeBread_3 (Tt : Gp) (rec3 : Gp → Int32 → Int32 → Int32 → Option (Gp)) (Td : Gp) (x2 : Int32) (x3 : Int32) (x4 : Int32) : Option (Gp) :=
  if (2 : Int32) ≤ x4 then (some (Td))
  else (if ix x4 2 then (bd1 (fX0_workOf Td Tt x4 x2 x3) (fun r2 => bd1 (fX9_breadMade Tt x4 x2 r2) (fun r4 => if ix x4 2 then ((rec3 (u2 Td 1 x4.toNatClampNeg ((Td 1 x4.toNatClampNeg) + r4)) x2 x3 (x4 + (1 : Int32)))) else none))) else none)
noncomputable def lX0_makeBread_3 (Tt : Gp) : Nat → Gp → Int32 → Int32 → Int32 → Option (Gp) :=
  lpf (fun _ _ _ _ => none) (fX0_makeBread_3 Tt)
noncomputable def fX0_makeBread (Td : Gp) (Tt : Gp) (x2 : Int32) (x3 : Int32) : Option (Gp) :=
  (lX0_makeBread_3 Tt fu Td x2 x3 (0 : Int32))
noncomputable def fX0_passOne_58 (Tt : Gp) (rec58 : Gp → Int32 → Option (Gp)) (Td : Gp) (x2 : Int32) : Option (Gp) :=
  if (2 : Int32) ≤ x2 then (some ((u2 (uc Td 4 (ev_fill (Td 4) 48 (-1 : Int32))) 0 0 ((Td 0 0) + (1 : Int32)))))
  else (if ix x2 2 then (if ix x2 2 then ((rec58 (u2 Td 1 x2.toNatClampNeg ((Td 1 x2.toNatClampNeg) - ((Tt 0 2) * (Tt 0 0)))) (x2 + (1 : Int32)))) else none) else none)
noncomputable def lX0_passOne_58 (Tt : Gp) : Nat → Gp → Int32 → Option (Gp) :=
  lpf (fun _ _ => none) (fX0_passOne_58 Tt)
noncomputable def fX0_passOne_12 (Tt : Gp) (rec2 : Gp → Int32 → Option (Gp)) (rec12 : Gp → Int32 → Int32 → Option (Gp)) (Td : Gp) (x2 : Int32) (x3 : Int32) : Option (Gp) :=
  if (Tt 0 1) ≤ x3 then ((rec2 Td (x2 + (1 : Int32))))
  else (bd1 (fX0_makeBread Td Tt x2 x3) (fun Td_1 => bd1 (fX0_isBreach Td_1 Tt x2 x3) (fun r3 => if r3 = 0 then ((rec12 Td_1 x2 (x3 + (1 : Int32))))
  else (bd1 (fX0_blame Td_1 Tt x2 x3) (fun Td_5 => (rec12 Td_5 x2 (x3 + (1 : Int32))))))))
noncomputable def lX0_passOne_12 (Tt : Gp) (rec2 : Gp → Int32 → Option (Gp)) : Nat → Gp → Int32 → Int32 → Option (Gp) :=
  lpf (fun _ _ _ => none) (fX0_passOne_12 Tt rec2)
noncomputable def fX0_passOne_2 (Tt : Gp) (rec2 : Gp → Int32 → Option (Gp)) (Td : Gp) (x2 : Int32) : Option (Gp) :=
  if (Tt 0 0) ≤ x2 then ((lX0_passOne_58 Tt fu Td (0 : Int32)))
  else ((lX0_passOne_12 Tt rec2 fu Td x2 (0 : Int32)))
noncomputable def lX0_passOne_2 (Tt : Gp) : Nat → Gp → Int32 → Option (Gp) :=
  lpf (fun _ _ => none) (fX0_passOne_2 Tt)
noncomputable def fX0_passOne (Td : Gp) (Tt : Gp) : Option (Gp) :=
  (lX0_passOne_2 Tt fu Td (0 : Int32))
noncomputable def fX3_classIn (x0 : Int32) (x1 : Int32) : Option (Int32) :=
  some (((x0 >>> (((2 : Int32) * x1) &&& 31)) &&& (3 : Int32)))
noncomputable def fX3_toBeAlike_9 (Tn : Gp) (rec9 : Int32 → Int32 → Int32 → Int32 → Int32 → Int32 → Option (Int32)) (x1 : Int32) (x2 : Int32) (x3 : Int32) (x4 : Int32) (x5 : Int32) (x6 : Int32) : Option (Int32) :=
  if x2 ≤ x6 then (some (x4))
  else (bd1 (fX3_classIn x1 x6) (fun r1 => if r1 = x5 then ((rec9 x1 x2 x3 x4 x5 (x6 + (1 : Int32))))
  else (if x3 ≤ x6 then ((rec9 x1 x2 x3 (x4 + (1 : Int32)) r1 (x6 + (1 : Int32))))
  else (some ((-1 : Int32))))))
noncomputable def lX3_toBeAlike_9 (Tn : Gp) : Nat → Int32 → Int32 → Int32 → Int32 → Int32 → Int32 → Option (Int32) :=
  lpf (fun _ _ _ _ _ _ => none) (fX3_toBeAlike_9 Tn)
noncomputable def fX3_toBeAlike (Tn : Gp) (x1 : Int32) (x2 : Int32) (x3 : Int32) : Option (Int32) :=
  (lX3_toBeAlike_9 Tn fu x1 x2 x3 (0 : Int32) (0 : Int32) (0 : Int32))
noncomputable def fX3_leastOfAll_5 (Tn : Gp) (rec5 : Int32 → Int32 → Option (Int32)) (x1 : Int32) (x2 : Int32) : Option (Int32) :=
  if (4 : Int32) ≤ x2 then (some (x1))
  else (if ix x2 4 then ((rec5 (imn x1 (Tn 1 x2.toNatClampNeg)) (x2 + (1 : Int32)))) else none)
noncomputable def lX3_leastOfAll_5 (Tn : Gp) : Nat → Int32 → Int32 → Option (Int32) :=
  lpf (fun _ _ => none) (fX3_leastOfAll_5 Tn)
noncomputable def fX3_leastOfAll (Tn : Gp) : Option (Int32) :=
  (lX3_leastOfAll_5 Tn fu (1000000 : Int32) (0 : Int32))
noncomputable def fX3_toBeNeverAlike_86 (rec36 : Gp → Int32 → Int32 → Int32 → Int32 → Option (Int32 × Gp)) (rec64 : Gp → Int32 → Int32 → Int32 → Int32 → Int32 → Int32 → Option (Int32 × Gp)) (Tn : Gp) (x1 : Int32) (x2 : Int32) (x3 : Int32) (x4 : Int32) (x5 : Int32) (x6 : Int32) (y0 : Int32) : Option (Int32 × Gp) :=
  if y0 = 0 then (if ix x6 4 then (if ix x6 4 then ((rec64 (u2 Tn 1 x6.toNatClampNeg (imn (Tn 1 x6.toNatClampNeg) x5)) x1 x2 x3 x4 x5 (x6 + (1 : Int32)))) else none) else none)
  else (if ix x6 4 then ((rec64 (u2 Tn 1 x6.toNatClampNeg (1000000 : Int32)) x1 x2 x3 x4 x5 (x6 + (1 : Int32)))) else none)
noncomputable def fX3_toBeNeverAlike_64 (rec36 : Gp → Int32 → Int32 → Int32 → Int32 → Option (Int32 × Gp)) (rec64 : Gp → Int32 → Int32 → Int32 → Int32 → Int32 → Int32 → Option (Int32 × Gp)) (Tn : Gp) (x1 : Int32) (x2 : Int32) (x3 : Int32) (x4 : Int32) (x5 : Int32) (x6 : Int32) : Option (Int32 × Gp) :=
  if (4 : Int32) ≤ x6 then ((rec36 Tn x1 x2 x3 (x4 + (1 : Int32))))
  else (bd1 (fX3_classIn x1 x4) (fun r1 => if x6 = r1 then ((fX3_toBeNeverAlike_86 rec36 rec64 Tn x1 x2 x3 x4 x5 x6 (1 : Int32)))
  else ((fX3_toBeNeverAlike_86 rec36 rec64 Tn x1 x2 x3 x4 x5 x6 (0 : Int32)))))
noncomputable def lX3_toBeNeverAlike_64 (rec36 : Gp → Int32 → Int32 → Int32 → Int32 → Option (Int32 × Gp)) : Nat → Gp → Int32 → Int32 → Int32 → Int32 → Int32 → Int32 → Option (Int32 × Gp) :=
  lpf (fun _ _ _ _ _ _ _ => none) (fX3_toBeNeverAlike_64 rec36)
noncomputable def fX3_toBeNeverAlike_36 (rec36 : Gp → Int32 → Int32 → Int32 → Int32 → Option (Int32 × Gp)) (Tn : Gp) (x1 : Int32) (x2 : Int32) (x3 : Int32) (x4 : Int32) : Option (Int32 × Gp) :=
  if x2 ≤ x4 then (bd1 (fX3_leastOfAll Tn) (fun r1 => if (1000000 : Int32) ≤ r1 then (some ((-1 : Int32), Tn))
  else (some (r1, Tn))))
  else (if x3 ≤ x4 then (bd1 (fX3_leastOfAll Tn) (fun r4 => (lX3_toBeNeverAlike_64 rec36 fu Tn x1 x2 x3 x4 (r4 + (1 : Int32)) (0 : Int32))))
  else ((lX3_toBeNeverAlike_64 rec36 fu Tn x1 x2 x3 x4 (1000000 : Int32) (0 : Int32))))
noncomputable def lX3_toBeNeverAlike_36  : Nat → Gp → Int32 → Int32 → Int32 → Int32 → Option (Int32 × Gp) :=
  lpf (fun _ _ _ _ _ => none) (fX3_toBeNeverAlike_36)
noncomputable def fX3_toBeNeverAlike_3 (rec3 : Gp → Int32 → Int32 → Int32 → Int32 → Option (Int32 × Gp)) (Tn : Gp) (x1 : Int32) (x2 : Int32) (x3 : Int32) (x4 : Int32) : Option (Int32 × Gp) :=
  if (4 : Int32) ≤ x4 then ((lX3_toBeNeverAlike_36 fu Tn x1 x2 x3 (0 : Int32)))
  else (if x4 = 0 then (if ix x4 4 then ((rec3 (u2 Tn 1 x4.toNatClampNeg (0 : Int32)) x1 x2 x3 (x4 + (1 : Int32)))) else none)
  else (if ix x4 4 then ((rec3 (u2 Tn 1 x4.toNatClampNeg (1000000 : Int32)) x1 x2 x3 (x4 + (1 : Int32)))) else none))
noncomputable def lX3_toBeNeverAlike_3  : Nat → Gp → Int32 → Int32 → Int32 → Int32 → Option (Int32 × Gp) :=
  lpf (fun _ _ _ _ _ => none) (fX3_toBeNeverAlike_3)
noncomputable def fX3_toBeNeverAlike (Tn : Gp) (x1 : Int32) (x2 : Int32) (x3 : Int32) : Option (Int32 × Gp) :=
  (lX3_toBeNeverAlike_3 fu Tn x1 x2 x3 (0 : Int32))
noncomputable def fX4_changeHarm (Th : Gp) (x1 : Int32) (x2 : Int32) (x3 : Int32) : Option (Int32 × Gp) :=
  bd1 (fX10_within ((x1 * (6 : Int32)) + x2) (0 : Int32) ((36 : Int32) - (1 : Int32))) (fun r1 => if r1 = 0 then (some ((0 : Int32), Th))
  else (if ix ((x1 * (6 : Int32)) + x2) 36 then (if ix ((x1 * (6 : Int32)) + x2) 36 then (some ((Th 1 ((x1 * (6 : Int32)) + x2).toNatClampNeg), (u2 Th 1 ((x1 * (6 : Int32)) + x2).toNatClampNeg x3))) else none) else none))
noncomputable def fX4_leastWith (Th : Gp) (x1 : Int32) (x2 : Int32) (x3 : Int32) : Option (Int32) :=
  if (x1 ||| ((1 : Int32) <<< (x3 &&& 31))) = x1 then (some ((1000000 : Int32)))
  else (bd1 (fX10_within (x1 ||| ((1 : Int32) <<< (x3 &&& 31))) (0 : Int32) (63 : Int32)) (fun r1 => if r1 = 0 then (some ((1000000 : Int32)))
  else (bd1 (fX10_within ((x2 * (6 : Int32)) + x3) (0 : Int32) ((36 : Int32) - (1 : Int32))) (fun r3 => if r3 = 0 then (some ((1000000 : Int32)))
  else (if ix ((x2 * (6 : Int32)) + x3) 36 then (if ix (x1 ||| ((1 : Int32) <<< (x3 &&& 31))) 64 then (some ((imn ((Th 1 ((x2 * (6 : Int32)) + x3).toNatClampNeg) + (Th 2 (x1 ||| ((1 : Int32) <<< (x3 &&& 31))).toNatClampNeg)) (1000000 : Int32)))) else none) else none)))))
noncomputable def fX4_leastHarm_76 (rec16 : Gp → Int32 → Int32 → Int32 → Int32 → Int32 → Option (Int32 × Gp)) (rec46 : Gp → Int32 → Int32 → Int32 → Int32 → Int32 → Int32 → Int32 → Int32 → Option (Int32 × Gp)) (Th : Gp) (x1 : Int32) (x2 : Int32) (x3 : Int32) (x4 : Int32) (x5 : Int32) (x6 : Int32) (x7 : Int32) (x8 : Int32) (x9 : Int32) (y0 : Int32) : Option (Int32 × Gp) :=
  if x9 = y0 then (bd1 (fX4_leastWith Th x5 x6 x8) (fun r1 => (rec46 Th x1 x2 x3 x4 x5 x6 (imn x7 r1) (x8 + (1 : Int32)))))
  else ((rec46 Th x1 x2 x3 x4 x5 x6 x7 (x8 + (1 : Int32))))
noncomputable def fX4_leastHarm_63 (rec16 : Gp → Int32 → Int32 → Int32 → Int32 → Int32 → Option (Int32 × Gp)) (rec46 : Gp → Int32 → Int32 → Int32 → Int32 → Int32 → Int32 → Int32 → Int32 → Option (Int32 × Gp)) (Th : Gp) (x1 : Int32) (x2 : Int32) (x3 : Int32) (x4 : Int32) (x5 : Int32) (x6 : Int32) (x7 : Int32) (x8 : Int32) (y0 : Int32) : Option (Int32 × Gp) :=
  if x8 = x3 then ((fX4_leastHarm_76 rec16 rec46 Th x1 x2 x3 x4 x5 x6 x7 x8 y0 (1 : Int32)))
  else ((fX4_leastHarm_76 rec16 rec46 Th x1 x2 x3 x4 x5 x6 x7 x8 y0 (0 : Int32)))
noncomputable def fX4_leastHarm_46 (rec16 : Gp → Int32 → Int32 → Int32 → Int32 → Int32 → Option (Int32 × Gp)) (rec46 : Gp → Int32 → Int32 → Int32 → Int32 → Int32 → Int32 → Int32 → Int32 → Option (Int32 × Gp)) (Th : Gp) (x1 : Int32) (x2 : Int32) (x3 : Int32) (x4 : Int32) (x5 : Int32) (x6 : Int32) (x7 : Int32) (x8 : Int32) : Option (Int32 × Gp) :=
  if x1 ≤ x8 then (if ix x5 64 then ((rec16 (u2 Th 2 x5.toNatClampNeg x7) x1 x2 x3 x4 (x5 + (-1 : Int32)))) else none)
  else (if x6 = x2 then ((fX4_leastHarm_63 rec16 rec46 Th x1 x2 x3 x4 x5 x6 x7 x8 (1 : Int32)))
  else ((fX4_leastHarm_63 rec16 rec46 Th x1 x2 x3 x4 x5 x6 x7 x8 (0 : Int32))))
noncomputable def lX4_leastHarm_46 (rec16 : Gp → Int32 → Int32 → Int32 → Int32 → Int32 → Option (Int32 × Gp)) : Nat → Gp → Int32 → Int32 → Int32 → Int32 → Int32 → Int32 → Int32 → Int32 → Option (Int32 × Gp) :=
  lpf (fun _ _ _ _ _ _ _ _ _ => none) (fX4_leastHarm_46 rec16)
noncomputable def fX4_leastHarm_16 (rec16 : Gp → Int32 → Int32 → Int32 → Int32 → Int32 → Option (Int32 × Gp)) (Th : Gp) (x1 : Int32) (x2 : Int32) (x3 : Int32) (x4 : Int32) (x5 : Int32) : Option (Int32 × Gp) :=
  if x5 < 0 then (some ((Th 2 (0 : Int32).toNatClampNeg), Th))
  else (if x5 = x4 then ((lX4_leastHarm_46 rec16 fu Th x1 x2 x3 x4 x5 (ev_bc x5) (0 : Int32) (0 : Int32)))
  else ((lX4_leastHarm_46 rec16 fu Th x1 x2 x3 x4 x5 (ev_bc x5) (1000000 : Int32) (0 : Int32))))
noncomputable def lX4_leastHarm_16  : Nat → Gp → Int32 → Int32 → Int32 → Int32 → Int32 → Option (Int32 × Gp) :=
  lpf (fun _ _ _ _ _ _ => none) (fX4_leastHarm_16)
noncomputable def fX4_leastHarm (Th : Gp) (x1 : Int32) (x2 : Int32) (x3 : Int32) : Option (Int32 × Gp) :=
  (lX4_leastHarm_16 fu Th x1 x2 x3 (((1 : Int32) <<< (x1 &&& 31)) - (1 : Int32)) (imn (((1 : Int32) <<< (x1 &&& 31)) - (1 : Int32)) (63 : Int32)))
noncomputable def fX4_firstBest_3 (Th : Gp) (rec3 : Int32 → Int32 → Int32 → Int32 → Option (Int32)) (x1 : Int32) (x2 : Int32) (x3 : Int32) (x4 : Int32) : Option (Int32) :=
  if x1 ≤ x4 then (some ((0 : Int32)))
  else (bd1 (fX10_within x2 (0 : Int32) (63 : Int32)) (fun r1 => if r1 = 0 then ((rec3 x1 x2 x3 (x4 + (1 : Int32))))
  else (bd1 (fX4_leastWith Th x2 x3 x4) (fun r3 => if ix x2 64 then (if r3 = (Th 2 x2.toNatClampNeg) then (some (x4))
  else ((rec3 x1 x2 x3 (x4 + (1 : Int32))))) else none))))
noncomputable def lX4_firstBest_3 (Th : Gp) : Nat → Int32 → Int32 → Int32 → Int32 → Option (Int32) :=
  lpf (fun _ _ _ _ => none) (fX4_firstBest_3 Th)
noncomputable def fX4_firstBest (Th : Gp) (x1 : Int32) (x2 : Int32) (x3 : Int32) : Option (Int32) :=
  (lX4_firstBest_3 Th fu x1 x2 x3 (0 : Int32))
noncomputable def fX4_partnerOf_16 (rec16 : Gp → Int32 → Int32 → Int32 → Int32 → Int32 → Option (Int32 × Gp)) (Th : Gp) (x1 : Int32) (x2 : Int32) (x3 : Int32) (x4 : Int32) (x5 : Int32) : Option (Int32 × Gp) :=
  if x2 < x5 then (some (x4, Th))
  else (bd1 (fX4_firstBest Th x1 x3 x5) (fun r1 => (rec16 Th x1 x2 (x3 ||| ((1 : Int32) <<< (r1 &&& 31))) r1 (x5 + (1 : Int32)))))
noncomputable def lX4_partnerOf_16  : Nat → Gp → Int32 → Int32 → Int32 → Int32 → Int32 → Option (Int32 × Gp) :=
  lpf (fun _ _ _ _ _ _ => none) (fX4_partnerOf_16)
noncomputable def fX4_partnerOf (Th : Gp) (x1 : Int32) (x2 : Int32) : Option (Int32 × Gp) :=
  bd2 (fX4_leastHarm Th x1 (-1 : Int32) (-1 : Int32)) (fun r1 Th_2 => (lX4_partnerOf_16 fu Th_2 x1 x2 (0 : Int32) (-1 : Int32) (0 : Int32)))
noncomputable def fX2_indexOf (x0 : Int32) (x1 : Int32) (x2 : Int32) : Option (Int32) :=
  some (((((x0 * (6 : Int32)) + (imn x1 x2)) * (6 : Int32)) + (imx x1 x2)))
noncomputable def fX2_changeLiking (Tg : Gp) (x1 : Int32) (x2 : Int32) (x3 : Int32) (x4 : Int32) : Option (Int32 × Gp) :=
  bd1 (fX2_indexOf x1 x2 x3) (fun r1 => bd1 (fX10_within r1 (0 : Int32) ((72 : Int32) - (1 : Int32))) (fun r3 => if r3 = 0 then (some ((0 : Int32), Tg))
  else (if ix r1 72 then (if ix r1 72 then (some ((Tg 1 r1.toNatClampNeg), (u2 Tg 1 r1.toNatClampNeg x4))) else none) else none)))
noncomputable def fX2_greatestKnown (Tg : Gp) (x1 : Int32) : Option (Int32) :=
  bd1 (fX10_within x1 (0 : Int32) (63 : Int32)) (fun r1 => if r1 = 0 then (some ((0 : Int32)))
  else (if ix x1 64 then (some ((Tg 2 x1.toNatClampNeg))) else none))
noncomputable def fX2_valueOf_51 (Tg : Gp) (x3 : Int32) (x4 : Int32) (y0 : Int32) : Option (Int32) :=
  if y0 = 0 then (some ((1 : Int32)))
  else (if ix x3 72 then (if ix x4 72 then (some ((((imn (Tg 1 x3.toNatClampNeg) (Tg 1 x4.toNatClampNeg)) * (4 : Int32)) + (1 : Int32)))) else none) else none)
noncomputable def fX2_valueOf_50 (Tg : Gp) (x3 : Int32) (x4 : Int32) : Option (Int32) :=
  (fX2_valueOf_51 Tg x3 x4 (0 : Int32))
noncomputable def fX2_valueOf (Tg : Gp) (x1 : Int32) (x2 : Int32) : Option (Int32) :=
  bd1 (fX2_indexOf (0 : Int32) x1 x2) (fun r1 => bd1 (fX2_indexOf (1 : Int32) x1 x2) (fun r3 => bd1 (fX10_within r1 (0 : Int32) ((72 : Int32) - (1 : Int32))) (fun r5 => if r5 = 0 then ((fX2_valueOf_50 Tg r1 r3))
  else (bd1 (fX10_within r3 (0 : Int32) ((72 : Int32) - (1 : Int32))) (fun r7 => if r7 = 0 then ((fX2_valueOf_50 Tg r1 r3))
  else ((fX2_valueOf_51 Tg r1 r3 (1 : Int32))))))))
noncomputable def fX2_greatestOfSet_27 (Tg : Gp) (rec27 : Int32 → Int32 → Int32 → Int32 → Int32 → Option (Int32)) (x2 : Int32) (x3 : Int32) (x4 : Int32) (x5 : Int32) (x6 : Int32) : Option (Int32) :=
  if x2 ≤ x6 then (some (x5))
  else (if (x3 &&& (((1 : Int32) <<< (x6 &&& 31)) ^^^ (-1 : Int32))) = x3 then ((rec27 x2 x3 x4 x5 (x6 + (1 : Int32))))
  else (bd1 (fX2_greatestKnown Tg (x3 &&& (((1 : Int32) <<< (x6 &&& 31)) ^^^ (-1 : Int32)))) (fun r1 => bd1 (fX2_valueOf Tg x4 x6) (fun r3 => (rec27 x2 x3 x4 (imx x5 (r1 + r3)) (x6 + (1 : Int32)))))))
noncomputable def lX2_greatestOfSet_27 (Tg : Gp) : Nat → Int32 → Int32 → Int32 → Int32 → Int32 → Option (Int32) :=
  lpf (fun _ _ _ _ _ => none) (fX2_greatestOfSet_27 Tg)
noncomputable def fX2_greatestOfSet (Tg : Gp) (x1 : Int32) (x2 : Int32) : Option (Int32) :=
  bd1 (fX2_greatestKnown Tg (x1 &&& (x1 - (1 : Int32)))) (fun r1 => (lX2_greatestOfSet_27 Tg fu x2 (x1 &&& (x1 - (1 : Int32))) (ev_bc ((x1 &&& (-x1)) - (1 : Int32))) r1 (0 : Int32)))
noncomputable def fX2_greatestOf_20 (rec20 : Gp → Int32 → Int32 → Int32 → Option (Int32 × Gp)) (Tg : Gp) (x1 : Int32) (x2 : Int32) (x3 : Int32) : Option (Int32 × Gp) :=
  if x2 < x3 then (bd1 (fX2_greatestKnown Tg x2) (fun r1 => some (r1, Tg)))
  else (bd1 (fX2_greatestOfSet Tg x3 x1) (fun r3 => if ix x3 64 then ((rec20 (u2 Tg 2 x3.toNatClampNeg r3) x1 x2 (x3 + (1 : Int32)))) else none))
noncomputable def lX2_greatestOf_20  : Nat → Gp → Int32 → Int32 → Int32 → Option (Int32 × Gp) :=
  lpf (fun _ _ _ _ => none) (fX2_greatestOf_20)
noncomputable def fX2_greatestOf (Tg : Gp) (x1 : Int32) : Option (Int32 × Gp) :=
  (lX2_greatestOf_20 fu (u2 Tg 2 (0 : Int32).toNatClampNeg (0 : Int32)) x1 ((imn ((1 : Int32) <<< (x1 &&& 31)) (64 : Int32)) - (1 : Int32)) (1 : Int32))
noncomputable def fX2_greatestSum (Tg : Gp) (x1 : Int32) : Option (Int32 × Gp) :=
  bd2 (fX2_greatestOf Tg x1) (fun r1 Tg_2 => some ((r1 / (4 : Int32)), Tg_2))
noncomputable def fX2_mostFours (Tg : Gp) (x1 : Int32) : Option (Int32 × Gp) :=
  bd2 (fX2_greatestOf Tg x1) (fun r1 Tg_2 => some ((irm r1 (4 : Int32)), Tg_2))
noncomputable def fX6_append (Tr : Gp) (x1 : Int32) : Option (Gp) :=
  if (Tr 0 0) < 0 then (some (Tr))
  else (if (Tr 0 0) < (40 : Int32) then (if ix (Tr 0 0) 40 then (some ((u2 (u2 Tr 1 (Tr 0 0).toNatClampNeg (vp_nar .boolean x1)) 0 0 ((Tr 0 0) + (1 : Int32))))) else none)
  else (some (Tr)))
noncomputable def fX6_costOf_47 (Tr : Gp) (x3 : Int32) (x4 : Int32) (y0 : Int32) : Option (Int32) :=
  if y0 = x4 then (some ((0 : Int32)))
  else (some ((x3 * (64 : Int32))))
noncomputable def fX6_costOf_46 (Tr : Gp) (x3 : Int32) (x4 : Int32) : Option (Int32) :=
  (fX6_costOf_47 Tr x3 x4 (0 : Int32))
noncomputable def fX6_costOf_13 (Tr : Gp) (x1 : Int32) (x3 : Int32) (y0 : Int32) : Option (Int32) :=
  if x1 < 0 then ((fX6_costOf_46 Tr x3 y0))
  else (if (Tr 0 0) ≤ x1 then ((fX6_costOf_46 Tr x3 y0))
  else (if (40 : Int32) ≤ x1 then ((fX6_costOf_46 Tr x3 y0))
  else (if ix x1 40 then (if (Tr 1 x1.toNatClampNeg) = 0 then ((fX6_costOf_46 Tr x3 y0))
  else ((fX6_costOf_47 Tr x3 y0 (1 : Int32)))) else none)))
noncomputable def fX6_costOf (Tr : Gp) (x1 : Int32) (x2 : Int32) (x3 : Int32) : Option (Int32) :=
  if (irm (x1 + x2) (2 : Int32)) = 0 then ((fX6_costOf_13 Tr x1 x3 (1 : Int32)))
  else ((fX6_costOf_13 Tr x1 x3 (0 : Int32)))
noncomputable def fX6_leastFrom (Tr : Gp) (x1 : Int32) (x2 : Int32) : Option (Int32) :=
  bd1 (fX10_within (((2 : Int32) * x1) + x2) (0 : Int32) ((82 : Int32) - (1 : Int32))) (fun r1 => if r1 = 0 then (some ((0 : Int32)))
  else (if ix (((2 : Int32) * x1) + x2) 82 then (some ((Tr 2 (((2 : Int32) * x1) + x2).toNatClampNeg))) else none))
noncomputable def fX6_slipTo (Tr : Gp) (x1 : Int32) (x2 : Int32) (x3 : Int32) : Option (Int32) :=
  bd1 (fX6_leastFrom Tr x1 x2) (fun r1 => some ((((x3 * (64 : Int32)) + (1 : Int32)) + r1)))
noncomputable def fX6_reckon_22 (rec15 : Gp → Int32 → Int32 → Int32 → Option (Int32 × Gp)) (rec22 : Gp → Int32 → Int32 → Int32 → Int32 → Option (Int32 × Gp)) (Tr : Gp) (x1 : Int32) (x2 : Int32) (x3 : Int32) (x4 : Int32) : Option (Int32 × Gp) :=
  if (2 : Int32) ≤ x4 then ((rec15 Tr x1 x2 (x3 + (-1 : Int32))))
  else (bd1 (fX6_leastFrom Tr (x3 + (1 : Int32)) x4) (fun r1 => bd1 (fX6_slipTo Tr (x3 + (1 : Int32)) ((1 : Int32) - x4) x1) (fun r3 => bd1 (fX10_within (((2 : Int32) * x3) + x4) (0 : Int32) ((82 : Int32) - (1 : Int32))) (fun r5 => if r5 = 0 then ((rec22 Tr x1 x2 x3 (x4 + (1 : Int32))))
  else (bd1 (fX6_costOf Tr x3 x4 x2) (fun r7 => if ix (((2 : Int32) * x3) + x4) 82 then ((rec22 (u2 Tr 2 (((2 : Int32) * x3) + x4).toNatClampNeg (r7 + (imn r1 r3))) x1 x2 x3 (x4 + (1 : Int32)))) else none))))))
noncomputable def lX6_reckon_22 (rec15 : Gp → Int32 → Int32 → Int32 → Option (Int32 × Gp)) : Nat → Gp → Int32 → Int32 → Int32 → Int32 → Option (Int32 × Gp) :=
  lpf (fun _ _ _ _ _ => none) (fX6_reckon_22 rec15)
noncomputable def fX6_reckon_15 (rec15 : Gp → Int32 → Int32 → Int32 → Option (Int32 × Gp)) (Tr : Gp) (x1 : Int32) (x2 : Int32) (x3 : Int32) : Option (Int32 × Gp) :=
  if x3 < 0 then (bd1 (fX6_leastFrom Tr (0 : Int32) (0 : Int32)) (fun r1 => some (r1, Tr)))
  else ((lX6_reckon_22 rec15 fu Tr x1 x2 x3 (0 : Int32)))
noncomputable def lX6_reckon_15  : Nat → Gp → Int32 → Int32 → Int32 → Option (Int32 × Gp) :=
  lpf (fun _ _ _ _ => none) (fX6_reckon_15)
noncomputable def fX6_reckon (Tr : Gp) (x1 : Int32) (x2 : Int32) : Option (Int32 × Gp) :=
  (lX6_reckon_15 fu (uc Tr 2 (ev_fill (Tr 2) 82 (0 : Int32))) x1 x2 ((Tr 0 0) - (1 : Int32)))
noncomputable def fX6_leastCost (Tr : Gp) (x1 : Int32) (x2 : Int32) : Option (Int32 × Gp) :=
  bd2 (fX6_reckon Tr x1 x2) (fun r1 Tr_2 => some ((r1 / (64 : Int32)), Tr_2))
noncomputable def fX6_fewestSlips (Tr : Gp) (x1 : Int32) (x2 : Int32) : Option (Int32 × Gp) :=
  bd2 (fX6_reckon Tr x1 x2) (fun r1 Tr_2 => some ((irm r1 (64 : Int32)), Tr_2))
noncomputable def fX6_firstSlip_16 (rec16 : Gp → Int32 → Int32 → Int32 → Int32 → Int32 → Int32 → Option (Int32 × Gp)) (Tr : Gp) (x1 : Int32) (x2 : Int32) (x3 : Int32) (x4 : Int32) (x5 : Int32) (x6 : Int32) : Option (Int32 × Gp) :=
  if (Tr 0 0) ≤ x6 then (some (x5, Tr))
  else (bd1 (fX6_costOf Tr (x6 - (1 : Int32)) (0 : Int32) x2) (fun r1 => bd1 (fX6_slipTo Tr x6 (1 : Int32) x1) (fun r3 => if ((x4 + r1) + r3) = x3 then ((rec16 Tr x1 x2 x3 (x4 + r1) x6 (x6 + (1 : Int32))))
  else ((rec16 Tr x1 x2 x3 (x4 + r1) x5 (x6 + (1 : Int32)))))))
noncomputable def lX6_firstSlip_16  : Nat → Gp → Int32 → Int32 → Int32 → Int32 → Int32 → Int32 → Option (Int32 × Gp) :=
  lpf (fun _ _ _ _ _ _ _ => none) (fX6_firstSlip_16)
noncomputable def fX6_firstSlip (Tr : Gp) (x1 : Int32) (x2 : Int32) : Option (Int32 × Gp) :=
  bd2 (fX6_reckon Tr x1 x2) (fun r1 Tr_2 => (lX6_firstSlip_16 fu Tr_2 x1 x2 r1 (0 : Int32) (-1 : Int32) (1 : Int32)))
noncomputable def fX5_forget (Tp : Gp) : Option (Gp) :=
  some ((u2 (u2 Tp 3 (0 : Int32).toNatClampNeg (vp_nar .boolean (0 : Int32))) 3 (1 : Int32).toNatClampNeg (vp_nar .boolean (0 : Int32))))
noncomputable def fX5_bestFrom (Tp : Gp) (x1 : Int32) (x2 : Int32) : Option (Int32) :=
  bd1 (fX10_within (x1 + (imx x2 (0 : Int32))) (0 : Int32) ((10050 : Int32) - (1 : Int32))) (fun r1 => if r1 = 0 then (some ((-1 : Int32)))
  else (if ix (x1 + (imx x2 (0 : Int32))) 10050 then (some ((Tp 1 (x1 + (imx x2 (0 : Int32))).toNatClampNeg))) else none))
noncomputable def fX5_clearRow_2 (rec2 : Gp → Int32 → Int32 → Option (Gp)) (Tp : Gp) (x1 : Int32) (x2 : Int32) : Option (Gp) :=
  if (201 : Int32) ≤ x2 then (some (Tp))
  else (bd1 (fX10_within (x1 + x2) (0 : Int32) ((10050 : Int32) - (1 : Int32))) (fun r1 => if r1 = 0 then ((rec2 Tp x1 (x2 + (1 : Int32))))
  else (if ix (x1 + x2) 10050 then ((rec2 (u2 Tp 1 (x1 + x2).toNatClampNeg (-1 : Int32)) x1 (x2 + (1 : Int32)))) else none)))
noncomputable def lX5_clearRow_2  : Nat → Gp → Int32 → Int32 → Option (Gp) :=
  lpf (fun _ _ _ => none) (fX5_clearRow_2)
noncomputable def fX5_clearRow (Tp : Gp) (x1 : Int32) : Option (Gp) :=
  (lX5_clearRow_2 fu Tp x1 (0 : Int32))
noncomputable def fX5_isAllowed (Tp : Gp) (Tt : Gp) (x1 : Int32) (x2 : Int32) (x3 : Int32) (x4 : Int32) (x5 : Int32) : Option (Int32) :=
  bd1 (fX9_mayDo Tt (0 : Int32) x2 x3 x4) (fun r1 => if r1 = 0 then (some ((0 : Int32)))
  else (bd1 (fX9_mayDo Tt (1 : Int32) x2 x3 x5) (fun r3 => if r3 = 0 then (some ((0 : Int32)))
  else (bd1 (fX9_keepsTreaty Tt x1 x2 x4 x5) (fun r5 => if r5 = 0 then (some ((0 : Int32)))
  else (some ((1 : Int32))))))))
noncomputable def fX5_madeBy (Tp : Gp) (Tt : Gp) (x1 : Int32) (x2 : Int32) (x3 : Int32) : Option (Int32) :=
  bd1 (fX9_breadMade Tt (0 : Int32) x1 x2) (fun r1 => bd1 (fX9_breadMade Tt (1 : Int32) x1 x3) (fun r3 => some ((r1 + r3))))
noncomputable def fX5_worthOf (Tp : Gp) (Tt : Gp) (x1 : Int32) (x2 : Int32) : Option (Int32) :=
  bd1 (fX9_worthOf Tt x1) (fun r1 => bd1 (fX9_worthOf Tt x2) (fun r3 => some ((r1 + r3))))
noncomputable def fX5_findWorths_20 (Tt : Gp) (rec11 : Gp → Int32 → Int32 → Int32 → Int32 → Option (Gp)) (rec20 : Gp → Int32 → Int32 → Int32 → Int32 → Int32 → Option (Gp)) (Tp : Gp) (x1 : Int32) (x2 : Int32) (x3 : Int32) (x4 : Int32) (x5 : Int32) : Option (Gp) :=
  if (5 : Int32) < x5 then ((rec11 Tp x1 x2 x3 (x4 + (1 : Int32))))
  else (bd1 (fX5_isAllowed Tp Tt x1 x2 x3 x4 x5) (fun r1 => if r1 = 0 then ((rec20 Tp x1 x2 x3 x4 (x5 + (1 : Int32))))
  else (bd1 (fX5_madeBy Tp Tt x2 x4 x5) (fun r3 => bd1 (fX10_within r3 (0 : Int32) (40 : Int32)) (fun r5 => if r5 = 0 then ((rec20 Tp x1 x2 x3 x4 (x5 + (1 : Int32))))
  else (if ix r3 41 then (bd1 (fX5_worthOf Tp Tt x4 x5) (fun r8 => if ix r3 41 then ((rec20 (u2 Tp 2 r3.toNatClampNeg (imx (Tp 2 r3.toNatClampNeg) r8)) x1 x2 x3 x4 (x5 + (1 : Int32)))) else none)) else none))))))
noncomputable def lX5_findWorths_20 (Tt : Gp) (rec11 : Gp → Int32 → Int32 → Int32 → Int32 → Option (Gp)) : Nat → Gp → Int32 → Int32 → Int32 → Int32 → Int32 → Option (Gp) :=
  lpf (fun _ _ _ _ _ _ => none) (fX5_findWorths_20 Tt rec11)
noncomputable def fX5_findWorths_11 (Tt : Gp) (rec11 : Gp → Int32 → Int32 → Int32 → Int32 → Option (Gp)) (Tp : Gp) (x1 : Int32) (x2 : Int32) (x3 : Int32) (x4 : Int32) : Option (Gp) :=
  if (5 : Int32) < x4 then (some (Tp))
  else ((lX5_findWorths_20 Tt rec11 fu Tp x1 x2 x3 x4 (0 : Int32)))
noncomputable def lX5_findWorths_11 (Tt : Gp) : Nat → Gp → Int32 → Int32 → Int32 → Int32 → Option (Gp) :=
  lpf (fun _ _ _ _ _ => none) (fX5_findWorths_11 Tt)
noncomputable def fX5_findWorths (Tp : Gp) (Tt : Gp) (x1 : Int32) (x2 : Int32) (x3 : Int32) : Option (Gp) :=
  (lX5_findWorths_11 Tt fu (uc Tp 2 (ev_fill (Tp 2) 41 (-1 : Int32))) x1 x2 x3 (0 : Int32))
noncomputable def fX5_offer (Tp : Gp) (x1 : Int32) (x2 : Int32) (x3 : Int32) : Option (Gp) :=
  bd1 (fX10_within (x1 + x2) (0 : Int32) ((10050 : Int32) - (1 : Int32))) (fun r1 => if r1 = 0 then (some (Tp))
  else (if ix (x1 + x2) 10050 then (if x3 ≤ (Tp 1 (x1 + x2).toNatClampNeg) then (some (Tp))
  else (if ix (x1 + x2) 10050 then (some ((u2 Tp 1 (x1 + x2).toNatClampNeg x3))) else none)) else none))
noncomputable def fX5_offerAll_3 (rec3 : Gp → Int32 → Int32 → Int32 → Int32 → Option (Gp)) (Tp : Gp) (x1 : Int32) (x2 : Int32) (x3 : Int32) (x4 : Int32) : Option (Gp) :=
  if (201 : Int32) ≤ x4 then (some (Tp))
  else (bd1 (fX5_bestFrom Tp (x1 + (201 : Int32)) (x4 - x2)) (fun r1 => if r1 = (-1 : Int32) then (some (Tp))
  else (bd1 (fX5_offer Tp x1 x4 (r1 + x3)) (fun Tp_3 => (rec3 Tp_3 x1 x2 x3 (x4 + (1 : Int32)))))))
noncomputable def lX5_offerAll_3  : Nat → Gp → Int32 → Int32 → Int32 → Int32 → Option (Gp) :=
  lpf (fun _ _ _ _ _ => none) (fX5_offerAll_3)
noncomputable def fX5_offerAll (Tp : Gp) (x1 : Int32) (x2 : Int32) (x3 : Int32) : Option (Gp) :=
  (lX5_offerAll_3 fu Tp x1 x2 x3 (0 : Int32))
noncomputable def fX5_reckonRow_10 (rec10 : Gp → Int32 → Int32 → Int32 → Option (Gp)) (Tp : Gp) (x1 : Int32) (x2 : Int32) (x3 : Int32) : Option (Gp) :=
  if x3 < 0 then (some (Tp))
  else (if ix x3 41 then (if x2 < (Tp 2 x3.toNatClampNeg) then (if ix x3 41 then (bd1 (fX5_offerAll Tp x1 x3 (Tp 2 x3.toNatClampNeg)) (fun Tp_3 => (rec10 Tp_3 x1 (Tp 2 x3.toNatClampNeg) (x3 + (-1 : Int32))))) else none)
  else ((rec10 Tp x1 x2 (x3 + (-1 : Int32))))) else none)
noncomputable def lX5_reckonRow_10  : Nat → Gp → Int32 → Int32 → Int32 → Option (Gp) :=
  lpf (fun _ _ _ _ => none) (fX5_reckonRow_10)
noncomputable def fX5_reckonRow (Tp : Gp) (x1 : Int32) : Option (Gp) :=
  bd1 (fX5_clearRow Tp x1) (fun Tp_1 => (lX5_reckonRow_10 fu Tp_1 x1 (-1 : Int32) (40 : Int32)))
noncomputable def fX5_rowOf (Tp : Gp) (Tt : Gp) (x1 : Int32) (x2 : Int32) (x3 : Int32) : Option (Int32) :=
  some (((((x1 * (25 : Int32)) + (x2 * (Tt 0 1))) + x3) * (201 : Int32)))
noncomputable def fX5_reckon_60 (Tt : Gp) (rec46 : Gp → Int32 → Int32 → Option (Gp)) (rec60 : Gp → Int32 → Int32 → Int32 → Option (Gp)) (Tp : Gp) (x1 : Int32) (x2 : Int32) (x3 : Int32) : Option (Gp) :=
  if x3 < 0 then ((rec46 Tp x1 (x2 + (-1 : Int32))))
  else (bd1 (fX5_findWorths Tp Tt x1 x2 x3) (fun Tp_1 => bd1 (fX5_rowOf Tp_1 Tt x1 x2 x3) (fun r3 => bd1 (fX5_reckonRow Tp_1 r3) (fun Tp_5 => (rec60 Tp_5 x1 x2 (x3 + (-1 : Int32)))))))
noncomputable def lX5_reckon_60 (Tt : Gp) (rec46 : Gp → Int32 → Int32 → Option (Gp)) : Nat → Gp → Int32 → Int32 → Int32 → Option (Gp) :=
  lpf (fun _ _ _ _ => none) (fX5_reckon_60 Tt rec46)
noncomputable def fX5_reckon_46 (Tt : Gp) (rec46 : Gp → Int32 → Int32 → Option (Gp)) (Tp : Gp) (x1 : Int32) (x2 : Int32) : Option (Gp) :=
  if x2 < 0 then (some (Tp))
  else ((lX5_reckon_60 Tt rec46 fu Tp x1 x2 ((Tt 0 1) - (1 : Int32))))
noncomputable def lX5_reckon_46 (Tt : Gp) : Nat → Gp → Int32 → Int32 → Option (Gp) :=
  lpf (fun _ _ _ => none) (fX5_reckon_46 Tt)
noncomputable def fX5_reckon (Tp : Gp) (Tt : Gp) (x1 : Int32) : Option (Gp) :=
  bd1 (fX5_rowOf Tp Tt x1 (Tt 0 0) (0 : Int32)) (fun r1 => bd1 (fX5_clearRow Tp r1) (fun Tp_3 => bd1 (fX5_rowOf Tp_3 Tt x1 (Tt 0 0) (0 : Int32)) (fun r5 => bd1 (fX5_offer Tp_3 r5 (0 : Int32) (0 : Int32)) (fun Tp_7 => (lX5_reckon_46 Tt fu Tp_7 x1 ((Tt 0 0) - (1 : Int32)))))))
noncomputable def fX5_greatestWorth_25 (Tt : Gp) (Tp : Gp) (x1 : Int32) (x2 : Int32) : Option (Int32 × Gp) :=
  if ix x1 2 then (bd1 (fX5_rowOf (u2 Tp 3 x1.toNatClampNeg (vp_nar .boolean (1 : Int32))) Tt x1 (0 : Int32) (0 : Int32)) (fun r2 => bd1 (fX5_bestFrom (u2 Tp 3 x1.toNatClampNeg (vp_nar .boolean (1 : Int32))) r2 x2) (fun r4 => some (r4, (u2 Tp 3 x1.toNatClampNeg (vp_nar .boolean (1 : Int32))))))) else none
noncomputable def fX5_greatestWorth (Tp : Gp) (Tt : Gp) (x1 : Int32) (x2 : Int32) : Option (Int32 × Gp) :=
  bd1 (fX10_within x1 (0 : Int32) (1 : Int32)) (fun r1 => if r1 = 0 then (some ((-1 : Int32), Tp))
  else (if ix x1 2 then (if (Tp 3 x1.toNatClampNeg) = 0 then (bd1 (fX5_reckon Tp Tt x1) (fun Tp_4 => (fX5_greatestWorth_25 Tt Tp_4 x1 x2)))
  else ((fX5_greatestWorth_25 Tt Tp x1 x2))) else none))
noncomputable def fX5_choose_31 (Tt : Gp) (rec22 : Gp → Int32 → Int32 → Int32 → Int32 → Int32 → Int32 → Int32 → Option (Gp)) (rec31 : Gp → Int32 → Int32 → Int32 → Int32 → Int32 → Int32 → Int32 → Int32 → Option (Gp)) (Tp : Gp) (x1 : Int32) (x2 : Int32) (x3 : Int32) (x4 : Int32) (x5 : Int32) (x6 : Int32) (x7 : Int32) (x8 : Int32) : Option (Gp) :=
  if (5 : Int32) < x8 then ((rec22 Tp x1 x2 x3 x4 x5 x6 (x7 + (1 : Int32))))
  else (bd1 (fX5_isAllowed Tp Tt x1 x2 x3 x7 x8) (fun r1 => if r1 = 0 then ((rec31 Tp x1 x2 x3 x4 x5 x6 x7 (x8 + (1 : Int32))))
  else (bd1 (fX5_madeBy Tp Tt x2 x7 x8) (fun r3 => bd1 (fX5_bestFrom Tp (x5 + (201 : Int32)) (x4 - r3)) (fun r5 => if r5 = (-1 : Int32) then ((rec31 Tp x1 x2 x3 x4 x5 x6 x7 (x8 + (1 : Int32))))
  else (bd1 (fX5_worthOf Tp Tt x7 x8) (fun r7 => if (r5 + r7) = x6 then (some ((u2 (u2 Tp 0 4 x7) 0 5 x8)))
  else ((rec31 Tp x1 x2 x3 x4 x5 x6 x7 (x8 + (1 : Int32)))))))))))
noncomputable def lX5_choose_31 (Tt : Gp) (rec22 : Gp → Int32 → Int32 → Int32 → Int32 → Int32 → Int32 → Int32 → Option (Gp)) : Nat → Gp → Int32 → Int32 → Int32 → Int32 → Int32 → Int32 → Int32 → Int32 → Option (Gp) :=
  lpf (fun _ _ _ _ _ _ _ _ _ => none) (fX5_choose_31 Tt rec22)
noncomputable def fX5_choose_22 (Tt : Gp) (rec22 : Gp → Int32 → Int32 → Int32 → Int32 → Int32 → Int32 → Int32 → Option (Gp)) (Tp : Gp) (x1 : Int32) (x2 : Int32) (x3 : Int32) (x4 : Int32) (x5 : Int32) (x6 : Int32) (x7 : Int32) : Option (Gp) :=
  if (5 : Int32) < x7 then (some (Tp))
  else ((lX5_choose_31 Tt rec22 fu Tp x1 x2 x3 x4 x5 x6 x7 (0 : Int32)))
noncomputable def lX5_choose_22 (Tt : Gp) : Nat → Gp → Int32 → Int32 → Int32 → Int32 → Int32 → Int32 → Int32 → Option (Gp) :=
  lpf (fun _ _ _ _ _ _ _ _ => none) (fX5_choose_22 Tt)
noncomputable def fX5_choose (Tp : Gp) (Tt : Gp) (x1 : Int32) (x2 : Int32) (x3 : Int32) (x4 : Int32) : Option (Gp) :=
  bd1 (fX5_rowOf Tp Tt x1 x2 x3) (fun r1 => bd1 (fX5_bestFrom Tp r1 x4) (fun r3 => (lX5_choose_22 Tt fu Tp x1 x2 x3 x4 r1 r3 (0 : Int32))))
noncomputable def fX5_follow_37 (Tt : Gp) (rec6 : Gp → Int32 → Int32 → Int32 → Int32 → Int32 → Int32 → Option (Int32 × Gp)) (rec37 : Gp → Int32 → Int32 → Int32 → Int32 → Int32 → Int32 → Int32 → Int32 → Option (Int32 × Gp)) (Tp : Gp) (x1 : Int32) (x2 : Int32) (x3 : Int32) (x4 : Int32) (x5 : Int32) (x6 : Int32) (x7 : Int32) (x8 : Int32) : Option (Int32 × Gp) :=
  if x7 ≤ x8 then ((rec6 Tp x1 x2 x3 x4 x5 (x6 + (1 : Int32))))
  else (bd1 (fX5_choose Tp Tt x1 x6 x8 (imx (x2 - x5) (0 : Int32))) (fun Tp_1 => bd1 (fX5_madeBy Tp_1 Tt x6 (Tp_1 0 4) (Tp_1 0 5)) (fun r3 => (rec37 Tp_1 x1 x2 x3 x4 (x5 + r3) x6 x7 (x8 + (1 : Int32))))))
noncomputable def lX5_follow_37 (Tt : Gp) (rec6 : Gp → Int32 → Int32 → Int32 → Int32 → Int32 → Int32 → Option (Int32 × Gp)) : Nat → Gp → Int32 → Int32 → Int32 → Int32 → Int32 → Int32 → Int32 → Int32 → Option (Int32 × Gp) :=
  lpf (fun _ _ _ _ _ _ _ _ _ => none) (fX5_follow_37 Tt rec6)
noncomputable def fX5_follow_6 (Tt : Gp) (rec6 : Gp → Int32 → Int32 → Int32 → Int32 → Int32 → Int32 → Option (Int32 × Gp)) (Tp : Gp) (x1 : Int32) (x2 : Int32) (x3 : Int32) (x4 : Int32) (x5 : Int32) (x6 : Int32) : Option (Int32 × Gp) :=
  if x3 < x6 then (some (x5, Tp))
  else (if x6 = x3 then ((lX5_follow_37 Tt rec6 fu Tp x1 x2 x3 x4 x5 x6 (x4 + (1 : Int32)) (0 : Int32)))
  else ((lX5_follow_37 Tt rec6 fu Tp x1 x2 x3 x4 x5 x6 (Tt 0 1) (0 : Int32))))
noncomputable def lX5_follow_6 (Tt : Gp) : Nat → Gp → Int32 → Int32 → Int32 → Int32 → Int32 → Int32 → Option (Int32 × Gp) :=
  lpf (fun _ _ _ _ _ _ _ => none) (fX5_follow_6 Tt)
noncomputable def fX5_follow (Tp : Gp) (Tt : Gp) (x1 : Int32) (x2 : Int32) (x3 : Int32) (x4 : Int32) : Option (Int32 × Gp) :=
  (lX5_follow_6 Tt fu Tp x1 x2 x3 x4 (0 : Int32) (0 : Int32))
noncomputable def fX10_write (Te : Gp) (Tx : Gp) (x1 : Int64) (x3 : Int32) : Option (Int32 × Gp) :=
  bd1 (fX10_within x3 (1 : Int32) (8 : Int32)) (fun r1 => if r1 = 0 then (some ((-3 : Int32), Tx))
  else (if x3 ≤ ((200 : Int32) - (Tx 0 0)) then (bd1 (fX7_append Tx x1 x3) (fun Tx_3 => some ((Tx_3 0 0), Tx_3)))
  else (some ((-5 : Int32), Tx))))
noncomputable def fX10_erase (Te : Gp) (Tx : Gp) : Option (Int32 × Gp) :=
  some ((Tx 0 0), (u2 Tx 0 0 (0 : Int32)))
noncomputable def fX10_fault (Te : Gp) (Tl : Gp) (Tk : Gp) (Tx : Gp) (Tt : Gp) (Tv : Gp) : Option (Int32 × Gp × Gp × Gp) :=
  bd1 (fX9_becomeLike Tv Tt) (fun Tv_1 => bd4 (fX1_readInto Tl Tk Tx Tv_1) (fun r3 Tl_4 Tk_5 Tv_6 => some (r3, Tl_4, Tk_5, Tv_6)))
noncomputable def fX10_treaty_64 (rec64 : Gp → Gp → Gp → Gp → Gp → Gp → Gp → Gp → Int32 → Option (Int32 × Gp × Gp × Gp × Gp × Gp × Gp × Gp × Gp)) (Te : Gp) (Tp : Gp) (Tl : Gp) (Td : Gp) (Tk : Gp) (Tx : Gp) (Tt : Gp) (Tv : Gp) (x1 : Int32) : Option (Int32 × Gp × Gp × Gp × Gp × Gp × Gp × Gp × Gp) :=
  if (2 : Int32) ≤ x1 then (some ((Tl 0 2), Te, Tp, Tl, Td, Tk, Tx, Tt, Tv))
  else (if ix x1 2 then ((rec64 (u2 Te 2 x1.toNatClampNeg (vp_nar .boolean (0 : Int32))) Tp Tl Td Tk Tx Tt Tv (x1 + (1 : Int32)))) else none)
noncomputable def lX10_treaty_64  : Nat → Gp → Gp → Gp → Gp → Gp → Gp → Gp → Gp → Int32 → Option (Int32 × Gp × Gp × Gp × Gp × Gp × Gp × Gp × Gp) :=
  lpf (fun _ _ _ _ _ _ _ _ _ => none) (fX10_treaty_64)
noncomputable def fX10_treaty (Te : Gp) (Tp : Gp) (Tl : Gp) (Td : Gp) (Tk : Gp) (Tx : Gp) (Tt : Gp) (Tv : Gp) : Option (Int32 × Gp × Gp × Gp × Gp × Gp × Gp × Gp × Gp) :=
  bd1 (fX9_becomeLike Tv Tt) (fun Tv_1 => bd4 (fX1_readInto Tl Tk Tx Tv_1) (fun r3 Tl_4 Tk_5 Tv_6 => if r3 = (-1 : Int32) then (bd1 (fX9_becomeLike Tt Tv_6) (fun Tt_8 => bd1 (fX0_beginAnew Td) (fun Td_10 => bd1 (fX5_forget Tp) (fun Tp_12 => (lX10_treaty_64 fu Te Tp_12 Tl_4 Td_10 Tk_5 (u2 Tx 0 0 (0 : Int32)) Tt_8 Tv_6 (0 : Int32))))))
  else (some ((-4 : Int32), Te, Tp, Tl_4, Td, Tk_5, Tx, Tt, Tv_6))))
noncomputable def fX10_work (Te : Gp) (Tt : Gp) (x1 : Int32) (x2 : Int32) : Option (Int32) :=
  bd1 (fX10_within x1 (0 : Int32) (5 : Int32)) (fun r1 => if r1 = 0 then (some ((-2 : Int32)))
  else (if x2 = (0 : Int32) then (bd1 (fX9_classOf Tt x1) (fun r3 => some (r3)))
  else (if x2 = (1 : Int32) then (bd1 (fX9_breadOf Tt (0 : Int32) x1) (fun r6 => some (r6)))
  else (if x2 = (2 : Int32) then (bd1 (fX9_breadOf Tt (1 : Int32) x1) (fun r9 => some (r9)))
  else (if x2 = (3 : Int32) then (bd1 (fX9_worthOf Tt x1) (fun r12 => some (r12)))
  else (some ((-3 : Int32))))))))
noncomputable def fX10_isPerson (Te : Gp) (Tt : Gp) (x1 : Int32) (x2 : Int32) : Option (Int32) :=
  bd1 (fX10_isValley x1) (fun r1 => if r1 = 0 then (some ((0 : Int32)))
  else (bd1 (fX9_hasPair Tt x2) (fun r3 => if r3 = 0 then (some ((0 : Int32)))
  else (some ((1 : Int32))))))
noncomputable def fX10_isSlot (Te : Gp) (Tt : Gp) (x1 : Int32) (x2 : Int32) (x3 : Int32) : Option (Int32) :=
  bd1 (fX10_isPerson Te Tt x1 x2) (fun r1 => if r1 = 0 then (some ((0 : Int32)))
  else (bd1 (fX9_hasHour Tt x3) (fun r3 => if r3 = 0 then (some ((0 : Int32)))
  else (some ((1 : Int32))))))
noncomputable def fX10_meant (Te : Gp) (Tt : Gp) (x1 : Int32) (x2 : Int32) (x3 : Int32) (x4 : Int32) : Option (Int32) :=
  bd1 (fX10_isSlot Te Tt x2 x3 x4) (fun r1 => if r1 = 0 then (some ((-2 : Int32)))
  else (bd1 (fX10_within x1 (0 : Int32) (1 : Int32)) (fun r3 => if r3 = 0 then (some ((-3 : Int32)))
  else (bd1 (fX9_meantOn Tt x1 x2 x3 x4) (fun r5 => some (r5))))))
noncomputable def fX10_done (Te : Gp) (Td : Gp) (Tt : Gp) (x1 : Int32) (x2 : Int32) (x3 : Int32) (x4 : Int32) : Option (Int32 × Gp) :=
  bd1 (fX10_isSlot Te Tt x1 x2 x3) (fun r1 => if r1 = 0 then (some ((-2 : Int32), Td))
  else (bd1 (fX10_within x4 (0 : Int32) (5 : Int32)) (fun r3 => if r3 = 0 then (some ((-2 : Int32), Td))
  else (bd1 (fX9_canBeDone Tt x1 x4) (fun r5 => if r5 = 0 then (some ((-4 : Int32), Td))
  else (bd1 (fX0_tellOtherwise Td x1 x2 x3 x4) (fun Td_7 => some ((1 : Int32), Td_7))))))))
noncomputable def fX10_ill_29 (Te : Gp) (Tt : Gp) (Td : Gp) (x1 : Int32) (x2 : Int32) (x3 : Int32) (y0 : Int32) : Option (Int32 × Gp) :=
  bd1 (fX0_tellIll Td x1 x2 x3) (fun Td_1 => some (y0, Td_1))
noncomputable def fX10_ill (Te : Gp) (Td : Gp) (Tt : Gp) (x1 : Int32) (x2 : Int32) (x3 : Int32) : Option (Int32 × Gp) :=
  bd1 (fX10_isPerson Te Tt x1 x2) (fun r1 => if r1 = 0 then (some ((-2 : Int32), Td))
  else (bd1 (fX0_isIll Td x1 x2) (fun r3 => if r3 = 0 then ((fX10_ill_29 Te Tt Td x1 x2 x3 (0 : Int32)))
  else ((fX10_ill_29 Te Tt Td x1 x2 x3 (1 : Int32))))))
noncomputable def fX10_days_15 (Te : Gp) (Tt : Gp) (rec15 : Gp → Int32 → Int32 → Option (Int32 × Gp)) (Td : Gp) (x1 : Int32) (x2 : Int32) : Option (Int32 × Gp) :=
  if x1 ≤ x2 then (some ((Td 0 0), Td))
  else (bd1 (fX0_passOne Td Tt) (fun Td_1 => (rec15 Td_1 x1 (x2 + (1 : Int32)))))
noncomputable def lX10_days_15 (Te : Gp) (Tt : Gp) : Nat → Gp → Int32 → Int32 → Option (Int32 × Gp) :=
  lpf (fun _ _ _ => none) (fX10_days_15 Te Tt)
noncomputable def fX10_days (Te : Gp) (Td : Gp) (Tt : Gp) (x1 : Int32) : Option (Int32 × Gp) :=
  bd1 (fX10_within x1 (1 : Int32) (99 : Int32)) (fun r1 => if r1 = 0 then (some ((-3 : Int32), Td))
  else ((lX10_days_15 Te Tt fu Td x1 (0 : Int32))))
noncomputable def fX10_person (Te : Gp) (Td : Gp) (Tt : Gp) (x1 : Int32) (x2 : Int32) (x3 : Int32) : Option (Int32) :=
  bd1 (fX10_isPerson Te Tt x1 x2) (fun r1 => if r1 = 0 then (some ((-2 : Int32)))
  else (if x3 = 0 then (bd1 (fX0_faultsOf Td x1 x2) (fun r11 => some (r11)))
  else (if x3 = (1 : Int32) then (bd1 (fX0_owedBy Td x1 x2) (fun r8 => some (r8)))
  else (bd1 (fX10_within x3 (10 : Int32) (((10 : Int32) + (Tt 0 1)) - (1 : Int32))) (fun r3 => if r3 = 0 then (some ((-3 : Int32)))
  else (bd1 (fX0_workOf Td Tt x1 x2 (x3 - (10 : Int32))) (fun r5 => some (r5))))))))
noncomputable def fX10_bread (Te : Gp) (Td : Gp) (x1 : Int32) : Option (Int32) :=
  bd1 (fX10_isValley x1) (fun r1 => if r1 = 0 then (some ((-2 : Int32)))
  else (if ix x1 2 then (some (((Td 1 x1.toNatClampNeg) + (100000 : Int32)))) else none))
noncomputable def fX10_breaches_18 (Te : Gp) (Td : Gp) (Tt : Gp) (rec18 : Int32 → Int32 → Int32 → Option (Int32)) (x1 : Int32) (x2 : Int32) (x3 : Int32) : Option (Int32) :=
  if (Tt 0 1) ≤ x3 then (some (x2))
  else (bd1 (fX0_isBreach Td Tt x1 x3) (fun r1 => if r1 = 0 then ((rec18 x1 x2 (x3 + (1 : Int32))))
  else ((rec18 x1 (x2 ||| ((1 : Int32) <<< (x3 &&& 31))) (x3 + (1 : Int32))))))
noncomputable def lX10_breaches_18 (Te : Gp) (Td : Gp) (Tt : Gp) : Nat → Int32 → Int32 → Int32 → Option (Int32) :=
  lpf (fun _ _ _ => none) (fX10_breaches_18 Te Td Tt)
noncomputable def fX10_breaches (Te : Gp) (Td : Gp) (Tt : Gp) (x1 : Int32) : Option (Int32) :=
  bd1 (fX9_hasPair Tt x1) (fun r1 => if r1 = 0 then (some ((-2 : Int32)))
  else ((lX10_breaches_18 Te Td Tt fu x1 (0 : Int32) (0 : Int32))))
noncomputable def fX10_as (Te : Gp) (Td : Gp) (Tt : Gp) (x1 : Int32) (x2 : Int32) : Option (Int32) :=
  bd1 (fX9_hasPair Tt x1) (fun r1 => if r1 = 0 then (some ((-2 : Int32)))
  else (bd1 (fX10_within x2 (0 : Int32) ((7 : Int32) - (1 : Int32))) (fun r3 => if r3 = 0 then (some ((-3 : Int32)))
  else (bd1 (fX9_kindOf Tt x1) (fun r5 => bd1 (fX10_isSuch r5 x2) (fun r7 => if r7 = 0 then (some ((-4 : Int32)))
  else (bd1 (fX0_faultsOf Td (0 : Int32) x1) (fun r9 => bd1 (fX0_faultsOf Td (1 : Int32) x1) (fun r11 => some ((r9 + r11)))))))))))
noncomputable def fX10_plan (Te : Gp) (Tp : Gp) (Tt : Gp) (x1 : Int32) (x2 : Int32) (x3 : Int32) : Option (Int32 × Gp) :=
  bd1 (fX10_isPlanAsked x1 x2) (fun r1 => if r1 = 0 then (some ((-3 : Int32), Tp))
  else (bd1 (fX10_within x3 (0 : Int32) (1 : Int32)) (fun r3 => if r3 = 0 then (some ((-3 : Int32), Tp))
  else (bd2 (fX5_greatestWorth Tp Tt x1 x2) (fun r5 Tp_6 => if x3 = 0 then (some (r5, Tp_6))
  else (if r5 = (-1 : Int32) then (some (r5, Tp_6))
  else (bd2 (fX5_follow Tp_6 Tt x1 x2 ((Tt 0 0) - (1 : Int32)) ((Tt 0 1) - (1 : Int32))) (fun r8 Tp_9 => some (r8, Tp_9)))))))))
noncomputable def fX10_planned (Te : Gp) (Tp : Gp) (Tt : Gp) (x1 : Int32) (x2 : Int32) (x3 : Int32) (x4 : Int32) (x5 : Int32) : Option (Int32 × Gp) :=
  bd1 (fX10_isSlot Te Tt x3 x4 x5) (fun r1 => if r1 = 0 then (some ((-2 : Int32), Tp))
  else (bd1 (fX10_isPlanAsked x1 x2) (fun r3 => if r3 = 0 then (some ((-3 : Int32), Tp))
  else (bd2 (fX5_greatestWorth Tp Tt x1 x2) (fun r5 Tp_6 => if r5 = (-1 : Int32) then (some ((-1 : Int32), Tp_6))
  else (bd2 (fX5_follow Tp_6 Tt x1 x2 x4 x5) (fun r8 Tp_9 => if x3 = 0 then (some ((Tp_9 0 4), Tp_9))
  else (some ((Tp_9 0 5), Tp_9)))))))))
noncomputable def fX10_news (Te : Gp) (Tn : Gp) (x1 : Int32) (x2 : Int32) (x3 : Int32) (x4 : Int32) : Option (Int32 × Gp) :=
  bd1 (fX10_within x2 (1 : Int32) (12 : Int32)) (fun r1 => if r1 = 0 then (some ((-3 : Int32), Tn))
  else (bd1 (fX10_within x3 (0 : Int32) (9 : Int32)) (fun r3 => if r3 = 0 then (some ((-3 : Int32), Tn))
  else (if x4 = 0 then (bd2 (fX3_toBeNeverAlike Tn x1 x2 x3) (fun r5 Tn_6 => some (r5, Tn_6)))
  else (bd1 (fX3_toBeAlike Tn x1 x2 x3) (fun r8 => some (r8, Tn)))))))
noncomputable def fX10_harm (Te : Gp) (Tt : Gp) (Th : Gp) (x1 : Int32) (x2 : Int32) (x3 : Int32) : Option (Int32 × Gp) :=
  bd1 (fX9_hasPair Tt x1) (fun r1 => if r1 = 0 then (some ((-2 : Int32), Th))
  else (bd1 (fX9_hasPair Tt x2) (fun r3 => if r3 = 0 then (some ((-2 : Int32), Th))
  else (bd1 (fX10_within x3 (0 : Int32) (99 : Int32)) (fun r5 => if r5 = 0 then (some ((-3 : Int32), Th))
  else (bd2 (fX4_changeHarm Th x1 x2 x3) (fun r7 Th_8 => some (r7, Th_8))))))))
noncomputable def fX10_anew (Te : Gp) (Tt : Gp) (Th : Gp) (x1 : Int32) : Option (Int32 × Gp) :=
  if x1 = (-1 : Int32) then (bd2 (fX4_leastHarm Th (Tt 0 0) (-1 : Int32) (-1 : Int32)) (fun r7 Th_8 => some (r7, Th_8)))
  else (bd1 (fX9_hasPair Tt x1) (fun r1 => if r1 = 0 then (some ((-2 : Int32), Th))
  else (bd2 (fX4_partnerOf Th (Tt 0 0) x1) (fun r3 Th_4 => some (r3, Th_4)))))
noncomputable def fX10_forced (Te : Gp) (Tt : Gp) (Th : Gp) (x1 : Int32) (x2 : Int32) : Option (Int32 × Gp) :=
  bd1 (fX9_hasPair Tt x1) (fun r1 => if r1 = 0 then (some ((-2 : Int32), Th))
  else (bd1 (fX9_hasPair Tt x2) (fun r3 => if r3 = 0 then (some ((-2 : Int32), Th))
  else (bd2 (fX4_leastHarm Th (Tt 0 0) x1 x2) (fun r5 Th_6 => some (r5, Th_6))))))
noncomputable def fX10_like (Te : Gp) (Tt : Gp) (Tg : Gp) (x1 : Int32) (x2 : Int32) (x3 : Int32) (x4 : Int32) : Option (Int32 × Gp) :=
  bd1 (fX10_isPerson Te Tt x1 x2) (fun r1 => if r1 = 0 then (some ((-2 : Int32), Tg))
  else (bd1 (fX10_isPerson Te Tt x1 x3) (fun r3 => if r3 = 0 then (some ((-2 : Int32), Tg))
  else (if x2 = x3 then (some ((-3 : Int32), Tg))
  else (bd1 (fX10_within x4 (0 : Int32) (99 : Int32)) (fun r5 => if r5 = 0 then (some ((-3 : Int32), Tg))
  else (bd2 (fX2_changeLiking Tg x1 x2 x3 x4) (fun r7 Tg_8 => some (r7, Tg_8)))))))))
noncomputable def fX10_fours (Te : Gp) (Tt : Gp) (Tg : Gp) (x1 : Int32) : Option (Int32 × Gp) :=
  if x1 = 0 then (bd2 (fX2_greatestSum Tg (Tt 0 0)) (fun r5 Tg_6 => some (r5, Tg_6)))
  else (if x1 = (1 : Int32) then (bd2 (fX2_mostFours Tg (Tt 0 0)) (fun r1 Tg_2 => some (r1, Tg_2)))
  else (some ((-3 : Int32), Tg)))
noncomputable def fX10_record (Te : Gp) (Tr : Gp) (x1 : Int32) : Option (Int32 × Gp) :=
  if (Tr 0 0) < (40 : Int32) then (bd1 (fX6_append Tr x1) (fun Tr_1 => some ((Tr_1 0 0), Tr_1)))
  else (some ((-5 : Int32), Tr))
noncomputable def fX10_burn (Te : Gp) (Tr : Gp) : Option (Int32 × Gp) :=
  some ((Tr 0 0), (u2 Tr 0 0 (0 : Int32)))
noncomputable def fX10_slips (Te : Gp) (Tr : Gp) (x1 : Int32) (x2 : Int32) (x3 : Int32) : Option (Int32 × Gp) :=
  bd1 (fX10_within x1 (1 : Int32) (9 : Int32)) (fun r1 => if r1 = 0 then (some ((-3 : Int32), Tr))
  else (bd1 (fX10_within x2 (1 : Int32) (9 : Int32)) (fun r3 => if r3 = 0 then (some ((-3 : Int32), Tr))
  else (if x3 = (0 : Int32) then (bd2 (fX6_leastCost Tr x1 x2) (fun r5 Tr_6 => some (r5, Tr_6)))
  else (if x3 = (1 : Int32) then (bd2 (fX6_fewestSlips Tr x1 x2) (fun r9 Tr_10 => some (r9, Tr_10)))
  else (if x3 = (2 : Int32) then (bd2 (fX6_firstSlip Tr x1 x2) (fun r13 Tr_14 => some (r13, Tr_14)))
  else (some ((-3 : Int32), Tr))))))))
noncomputable def fX10_keep (Te : Gp) (Td : Gp) (Ta : Gp) (Tb : Gp) (x1 : Int32) : Option (Int32 × Gp × Gp × Gp) :=
  bd1 (fX10_within x1 (0 : Int32) (1 : Int32)) (fun r1 => if r1 = 0 then (some ((-2 : Int32), Te, Ta, Tb))
  else (if ix x1 2 then (if x1 = 0 then (bd1 (fX0_becomeLike Ta Td) (fun Ta_5 => if ix x1 2 then (some ((Td 0 0), (u2 Te 2 x1.toNatClampNeg (vp_nar .boolean (1 : Int32))), Ta_5, Tb)) else none))
  else (bd1 (fX0_becomeLike Tb Td) (fun Tb_8 => if ix x1 2 then (some ((Td 0 0), (u2 Te 2 x1.toNatClampNeg (vp_nar .boolean (1 : Int32))), Ta, Tb_8)) else none))) else none))
noncomputable def fX10_back (Te : Gp) (Td : Gp) (Ta : Gp) (Tb : Gp) (x1 : Int32) : Option (Int32 × Gp) :=
  bd1 (fX10_within x1 (0 : Int32) (1 : Int32)) (fun r1 => if r1 = 0 then (some ((-2 : Int32), Td))
  else (if ix x1 2 then (if (Te 2 x1.toNatClampNeg) = 0 then (some ((-4 : Int32), Td))
  else (if ix x1 2 then (if x1 = 0 then (bd1 (fX0_becomeLike Td Ta) (fun Td_6 => some ((Td_6 0 0), Td_6)))
  else (bd1 (fX0_becomeLike Td Tb) (fun Td_8 => some ((Td_8 0 0), Td_8)))) else none)) else none))
noncomputable def fX10_count (Te : Gp) (Td : Gp) (Tx : Gp) (Tt : Gp) (Tr : Gp) (x1 : Int32) : Option (Int32) :=
  if x1 = (0 : Int32) then (some ((Tt 0 0)))
  else (if x1 = (1 : Int32) then (some ((Tt 0 1)))
  else (if x1 = (2 : Int32) then (some ((Tt 0 2)))
  else (if x1 = (3 : Int32) then (some ((Tt 0 3)))
  else (if x1 = (4 : Int32) then (some ((Td 0 0)))
  else (if x1 = (5 : Int32) then (some ((Tr 0 0)))
  else (if x1 = (6 : Int32) then (some ((Tx 0 0)))
  else (bd1 (fX10_within x1 (7 : Int32) (12 : Int32)) (fun r8 => if r8 = 0 then (some ((-3 : Int32)))
  else (bd1 (fX9_kindOf Tt (x1 - (7 : Int32))) (fun r10 => some (r10)))))))))))
noncomputable def fX11_begin_2 (rec2 : Gp → Int32 → Option (Gp)) (Tm : Gp) (x1 : Int32) : Option (Gp) :=
  if (87 : Int32) ≤ x1 then (some (Tm))
  else (if (39 : Int32) ≤ x1 then (if ix x1 261 then ((rec2 (u2 Tm 1 x1.toNatClampNeg (-1 : Int32)) (x1 + (1 : Int32)))) else none)
  else (if ix x1 261 then ((rec2 (u2 Tm 1 x1.toNatClampNeg (0 : Int32)) (x1 + (1 : Int32)))) else none))
noncomputable def lX11_begin_2  : Nat → Gp → Int32 → Option (Gp) :=
  lpf (fun _ _ => none) (fX11_begin_2)
noncomputable def fX11_begin (Tm : Gp) : Option (Gp) :=
  (lX11_begin_2 fu Tm (0 : Int32))
noncomputable def fX11_in (x0 : Int64) (x2 : Int64) (x4 : Int64) : Option (Int32) :=
  if (lg_cmp x0 x2) < 0 then (some ((0 : Int32)))
  else (if 0 < (lg_cmp x0 x4) then (some ((0 : Int32)))
  else (some ((1 : Int32))))
noncomputable def fX11_write_33 (rec33 : Gp → Int64 → Int32 → Int32 → Option (Int32 × Gp)) (Tm : Gp) (x1 : Int64) (x3 : Int32) (x4 : Int32) : Option (Int32 × Gp) :=
  if x3 ≤ x4 then (some ((Tm 0 3), Tm))
  else (if ix (Tm 0 3) 200 then ((rec33 (u2 (u2 Tm 3 (Tm 0 3).toNatClampNeg ((x1 >>> (((8 : Int32) * x4).toInt64 &&& 63)) &&& (255 : Int64)).toInt32) 0 3 ((Tm 0 3) + (1 : Int32))) x1 x3 (x4 + (1 : Int32)))) else none)
noncomputable def lX11_write_33  : Nat → Gp → Int64 → Int32 → Int32 → Option (Int32 × Gp) :=
  lpf (fun _ _ _ _ => none) (fX11_write_33)
noncomputable def fX11_write (Tm : Gp) (x1 : Int64) (x3 : Int32) : Option (Int32 × Gp) :=
  bd1 (fX11_in x3.toInt64 (1 : Int64) (8 : Int64)) (fun r1 => if r1 = 0 then (some ((-3 : Int32), Tm))
  else (if ((Tm 0 3) + x3) ≤ (200 : Int32) then ((lX11_write_33 fu Tm x1 x3 (0 : Int32)))
  else (some ((-5 : Int32), Tm))))
noncomputable def fX11_erase (Tm : Gp) : Option (Int32 × Gp) :=
  some ((Tm 0 3), (u2 Tm 0 3 (0 : Int32)))
noncomputable def fX11_sort_16 (x0 : Int32) : Option (Int32) :=
  if x0 < (48 : Int32) then (some ((0 : Int32)))
  else (if (57 : Int32) < x0 then (some ((0 : Int32)))
  else (some ((2 : Int32))))
noncomputable def fX11_sort (x0 : Int32) : Option (Int32) :=
  if x0 < (97 : Int32) then ((fX11_sort_16 x0))
  else (if (122 : Int32) < x0 then ((fX11_sort_16 x0))
  else (some ((1 : Int32))))
noncomputable def fX11_token_71 (rec71 : Gp → Option (Gp)) (Tm : Gp) : Option (Gp) :=
  if (Tm 0 3) ≤ (Tm 0 13) then (some ((u2 Tm 0 15 (Tm 0 13))))
  else (if ix (Tm 0 14) 200 then (bd1 (fX11_sort (Tm 3 (Tm 0 14).toNatClampNeg)) (fun r2 => if r2 ≤ 0 then (some ((u2 Tm 0 15 (Tm 0 13))))
  else (if ix (Tm 0 13) 200 then (bd1 (fX11_sort (Tm 3 (Tm 0 13).toNatClampNeg)) (fun r5 => if ix (Tm 0 14) 200 then (bd1 (fX11_sort (Tm 3 (Tm 0 14).toNatClampNeg)) (fun r8 => if r5 = r8 then ((rec71 (u2 Tm 0 13 ((Tm 0 13) + (1 : Int32)))))
  else (some ((u2 Tm 0 15 (Tm 0 13)))))) else none)) else none))) else none)
noncomputable def lX11_token_71  : Nat → Gp → Option (Gp) :=
  lpf (fun _ => none) (fX11_token_71)
noncomputable def fX11_token_38 (Tm : Gp) : Option (Gp) :=
  if (Tm 0 3) ≤ (Tm 0 13) then ((lX11_token_71 fu (u2 (u2 Tm 0 14 (Tm 0 13)) 0 13 ((Tm 0 13) + (0 : Int32)))))
  else ((lX11_token_71 fu (u2 (u2 Tm 0 14 (Tm 0 13)) 0 13 ((Tm 0 13) + (1 : Int32)))))
noncomputable def fX11_token_0 (rec0 : Gp → Option (Gp)) (Tm : Gp) : Option (Gp) :=
  if (Tm 0 3) ≤ (Tm 0 13) then ((fX11_token_38 Tm))
  else (if ix (Tm 0 13) 200 then (if (Tm 3 (Tm 0 13).toNatClampNeg) = (32 : Int32) then ((rec0 (u2 Tm 0 13 ((Tm 0 13) + (1 : Int32)))))
  else ((fX11_token_38 Tm))) else none)
noncomputable def lX11_token_0  : Nat → Gp → Option (Gp) :=
  lpf (fun _ => none) (fX11_token_0)
noncomputable def fX11_token (Tm : Gp) : Option (Gp) :=
  (lX11_token_0 fu Tm)
noncomputable def fX11_isWord_22 (Tm : Gp) (rec22 : Int32 → Int32 → Int32 → Int32 → Option (Int32)) (x1 : Int32) (x2 : Int32) (x3 : Int32) (x4 : Int32) : Option (Int32) :=
  if x3 = 0 then (if vp_nar .boolean x3 = x3 then some (x3) else none)
  else (if x2 ≤ x4 then (if vp_nar .boolean x3 = x3 then some (x3) else none)
  else (if ix ((Tm 0 14) + x4) 200 then (if (Tm 3 ((Tm 0 14) + x4).toNatClampNeg) = ((96 : Int32) + ((x1 >>> (((5 : Int32) * x4) &&& 31)) &&& (31 : Int32))) then ((rec22 x1 x2 (1 : Int32) (x4 + (1 : Int32))))
  else ((rec22 x1 x2 (0 : Int32) (x4 + (1 : Int32))))) else none))
noncomputable def lX11_isWord_22 (Tm : Gp) : Nat → Int32 → Int32 → Int32 → Int32 → Option (Int32) :=
  lpf (fun _ _ _ _ => none) (fX11_isWord_22 Tm)
noncomputable def fX11_isWord (Tm : Gp) (x1 : Int32) (x2 : Int32) : Option (Int32) :=
  if ((Tm 0 15) - (Tm 0 14)) = x2 then ((lX11_isWord_22 Tm fu x1 x2 (1 : Int32) (0 : Int32)))
  else ((lX11_isWord_22 Tm fu x1 x2 (0 : Int32) (0 : Int32)))
noncomputable def fX11_wordOf (Tm : Gp) : Option (Int32) :=
  bd1 (fX11_isWord Tm (859870804 : Int32) (6 : Int32)) (fun r1 => if r1 = 0 then (bd1 (fX11_isWord Tm (379383 : Int32) (4 : Int32)) (fun r3 => if r3 = 0 then (bd1 (fX11_isWord Tm (145707 : Int32) (4 : Int32)) (fun r5 => if r5 = 0 then (bd1 (fX11_isWord Tm (21431469 : Int32) (5 : Int32)) (fun r7 => if r7 = 0 then (bd1 (fX11_isWord Tm (643109 : Int32) (4 : Int32)) (fun r9 => if r9 = 0 then (bd1 (fX11_isWord Tm (178470 : Int32) (4 : Int32)) (fun r11 => if r11 = 0 then (some ((-1 : Int32)))
  else (some ((5 : Int32)))))
  else (some ((4 : Int32)))))
  else (some ((3 : Int32)))))
  else (some ((2 : Int32)))))
  else (some ((1 : Int32)))))
  else (some ((0 : Int32))))
noncomputable def fX11_reads_51 (rec51 : Gp → Int32 → Int32 → Int32 → Int32 → Int32 → Option (Int32 × Gp)) (Tm : Gp) (x1 : Int32) (x2 : Int32) (x3 : Int32) (x4 : Int32) (x5 : Int32) : Option (Int32 × Gp) :=
  if (Tm 0 15) ≤ x5 then (bd1 (fX11_in x4.toInt64 x2.toInt64 x3.toInt64) (fun r1 => if r1 = 0 then (some ((0 : Int32), Tm))
  else (if ix ((((6 : Int32) * (Tm 0 5)) + (1 : Int32)) + x1) 60 then (bd1 (fX11_token (u2 Tm 4 ((((6 : Int32) * (Tm 0 5)) + (1 : Int32)) + x1).toNatClampNeg x4)) (fun Tm_4 => some ((1 : Int32), Tm_4))) else none)))
  else (if ix x5 200 then ((rec51 Tm x1 x2 x3 ((((10 : Int32) * x4) + (Tm 3 x5.toNatClampNeg)) - (48 : Int32)) (x5 + (1 : Int32)))) else none)
noncomputable def lX11_reads_51  : Nat → Gp → Int32 → Int32 → Int32 → Int32 → Int32 → Option (Int32 × Gp) :=
  lpf (fun _ _ _ _ _ _ => none) (fX11_reads_51)
noncomputable def fX11_reads (Tm : Gp) (x1 : Int32) (x2 : Int32) (x3 : Int32) : Option (Int32 × Gp) :=
  if (Tm 0 14) = (Tm 0 3) then (some ((0 : Int32), Tm))
  else (if ix (Tm 0 14) 200 then (bd1 (fX11_sort (Tm 3 (Tm 0 14).toNatClampNeg)) (fun r2 => if r2 = (2 : Int32) then (if ((Tm 0 15) - (Tm 0 14)) ≤ (2 : Int32) then ((lX11_reads_51 fu Tm x1 x2 x3 (0 : Int32) (Tm 0 14)))
  else (some ((0 : Int32), Tm)))
  else (some ((0 : Int32), Tm)))) else none)
noncomputable def fX11_readsBread_48 (Tm : Gp) (x1 : Int32) : Option (Int32 × Gp) :=
  bd2 (fX11_reads Tm x1 (0 : Int32) (20 : Int32)) (fun r1 Tm_2 => if vp_nar .boolean r1 = r1 then some (r1, Tm_2) else none)
noncomputable def fX11_readsBread (Tm : Gp) (x1 : Int32) : Option (Int32 × Gp) :=
  if (Tm 0 3) ≤ (Tm 0 14) then ((fX11_readsBread_48 Tm x1))
  else (if ix (Tm 0 14) 200 then (if (Tm 3 (Tm 0 14).toNatClampNeg) = (45 : Int32) then (if ix ((((6 : Int32) * (Tm 0 5)) + (1 : Int32)) + x1) 60 then (bd1 (fX11_token (u2 Tm 4 ((((6 : Int32) * (Tm 0 5)) + (1 : Int32)) + x1).toNatClampNeg (-1 : Int32))) (fun Tm_3 => some ((1 : Int32), Tm_3))) else none)
  else ((fX11_readsBread_48 Tm x1))) else none)
noncomputable def fX11_readsWork (Tm : Gp) : Option (Int32 × Gp) :=
  bd2 (fX11_reads Tm (4 : Int32) (0 : Int32) (5 : Int32)) (fun r1 Tm_2 => if r1 = 0 then (some ((0 : Int32), Tm_2))
  else (if ix ((((6 : Int32) * (Tm 0 5)) + (1 : Int32)) + (4 : Int32)) 60 then (if (5 : Int32) ≤ (Tm_2 4 ((((6 : Int32) * (Tm 0 5)) + (1 : Int32)) + (4 : Int32)).toNatClampNeg) then (some ((1 : Int32), Tm_2))
  else (if ix ((((6 : Int32) * (Tm 0 5)) + (1 : Int32)) + (1 : Int32)) 60 then (if ix (((2 : Int32) * (Tm_2 4 ((((6 : Int32) * (Tm 0 5)) + (1 : Int32)) + (4 : Int32)).toNatClampNeg)) + (Tm_2 4 ((((6 : Int32) * (Tm 0 5)) + (1 : Int32)) + (1 : Int32)).toNatClampNeg)) 12 then (if (Tm_2 8 (((2 : Int32) * (Tm_2 4 ((((6 : Int32) * (Tm 0 5)) + (1 : Int32)) + (4 : Int32)).toNatClampNeg)) + (Tm_2 4 ((((6 : Int32) * (Tm 0 5)) + (1 : Int32)) + (1 : Int32)).toNatClampNeg)).toNatClampNeg) = 0 then (some ((0 : Int32), (u2 Tm_2 0 14 (Tm 0 14))))
  else (some ((1 : Int32), Tm_2))) else none) else none)) else none))
noncomputable def fX11_readsRest (Tm : Gp) (x1 : Int32) : Option (Int32 × Gp) :=
  if x1 = (0 : Int32) then (bd2 (fX11_reads Tm (0 : Int32) (1 : Int32) (6 : Int32)) (fun r1 Tm_2 => if r1 = 0 then (some ((0 : Int32), Tm_2))
  else (bd2 (fX11_reads Tm_2 (1 : Int32) (1 : Int32) (4 : Int32)) (fun r4 Tm_5 => if r4 = 0 then (some ((0 : Int32), Tm_5))
  else (some ((1 : Int32), Tm_5))))))
  else (if x1 = (1 : Int32) then (bd2 (fX11_reads Tm (0 : Int32) (0 : Int32) (4 : Int32)) (fun r10 Tm_11 => if r10 = 0 then (some ((0 : Int32), Tm_11))
  else (bd2 (fX11_reads Tm_11 (1 : Int32) (0 : Int32) (3 : Int32)) (fun r13 Tm_14 => if r13 = 0 then (some ((0 : Int32), Tm_14))
  else (bd2 (fX11_readsBread Tm_14 (2 : Int32)) (fun r16 Tm_17 => if r16 = 0 then (some ((0 : Int32), Tm_17))
  else (bd2 (fX11_readsBread Tm_17 (3 : Int32)) (fun r19 Tm_20 => if r19 = 0 then (some ((0 : Int32), Tm_20))
  else (bd2 (fX11_reads Tm_20 (4 : Int32) (0 : Int32) (20 : Int32)) (fun r22 Tm_23 => if r22 = 0 then (some ((0 : Int32), Tm_23))
  else (some ((1 : Int32), Tm_23))))))))))))
  else (if x1 = (2 : Int32) then (bd2 (fX11_reads Tm (0 : Int32) (0 : Int32) ((Tm 0 16) - (1 : Int32))) (fun r31 Tm_32 => if r31 = 0 then (some ((0 : Int32), Tm_32))
  else (bd2 (fX11_reads Tm_32 (1 : Int32) (0 : Int32) (3 : Int32)) (fun r34 Tm_35 => if r34 = 0 then (some ((0 : Int32), Tm_35))
  else (some ((1 : Int32), Tm_35))))))
  else (if x1 = (3 : Int32) then (bd2 (fX11_reads Tm (0 : Int32) (0 : Int32) (1 : Int32)) (fun r40 Tm_41 => if r40 = 0 then (some ((0 : Int32), Tm_41))
  else (bd2 (fX11_reads Tm_41 (1 : Int32) (0 : Int32) (1 : Int32)) (fun r43 Tm_44 => if r43 = 0 then (some ((0 : Int32), Tm_44))
  else (bd2 (fX11_reads Tm_44 (2 : Int32) (0 : Int32) ((Tm_44 0 16) - (1 : Int32))) (fun r46 Tm_47 => if r46 = 0 then (some ((0 : Int32), Tm_47))
  else (bd2 (fX11_reads Tm_47 (3 : Int32) (0 : Int32) ((Tm_47 0 17) - (1 : Int32))) (fun r49 Tm_50 => if r49 = 0 then (some ((0 : Int32), Tm_50))
  else (bd2 (fX11_readsWork Tm_50) (fun r52 Tm_53 => if r52 = 0 then (some ((0 : Int32), Tm_53))
  else (some ((1 : Int32), Tm_53))))))))))))
  else (if x1 = (4 : Int32) then (bd2 (fX11_reads Tm (0 : Int32) (0 : Int32) (20 : Int32)) (fun r61 Tm_62 => if vp_nar .boolean r61 = r61 then some (r61, Tm_62) else none))
  else (bd2 (fX11_reads Tm (0 : Int32) (0 : Int32) (99 : Int32)) (fun r65 Tm_66 => if vp_nar .boolean r65 = r65 then some (r65, Tm_66) else none))))))
noncomputable def fX11_readsLine_143 (Tm : Gp) : Option (Int32 × Gp) :=
  some ((1 : Int32), (u2 Tm 0 5 ((Tm 0 5) + (1 : Int32))))
noncomputable def fX11_readsLine_142 (Tm : Gp) (y1 : Int32) (y2 : Int32) : Option (Int32 × Gp) :=
  if ix y1 12 then ((fX11_readsLine_143 (u2 Tm 8 y1.toNatClampNeg (vp_nar .boolean y2)))) else none
noncomputable def fX11_readsLine_108 (Tm : Gp) (x2 : Int32) (y1 : Int32) (y2 : Int32) : Option (Int32 × Gp) :=
  if ix y1 12 then (if ix (x2 + (1 : Int32)) 60 then (if ix (x2 + (4 : Int32)) 60 then (if (Tm 4 (x2 + (4 : Int32)).toNatClampNeg) = (-1 : Int32) then ((fX11_readsLine_142 (u2 Tm 8 y1.toNatClampNeg (vp_nar .boolean y2)) (((2 : Int32) * (Tm 4 (x2 + (1 : Int32)).toNatClampNeg)) + (1 : Int32)) (0 : Int32)))
  else ((fX11_readsLine_142 (u2 Tm 8 y1.toNatClampNeg (vp_nar .boolean y2)) (((2 : Int32) * (Tm 4 (x2 + (1 : Int32)).toNatClampNeg)) + (1 : Int32)) (1 : Int32)))) else none) else none) else none
noncomputable def fX11_readsLine (Tm : Gp) : Option (Int32 × Gp) :=
  bd1 (fX11_wordOf Tm) (fun r1 => if r1 = (-1 : Int32) then (some ((0 : Int32), Tm))
  else (bd1 (fX11_token Tm) (fun Tm_3 => if ix ((6 : Int32) * (Tm_3 0 5)) 60 then (bd2 (fX11_readsRest (u2 Tm_3 4 ((6 : Int32) * (Tm_3 0 5)).toNatClampNeg r1) r1) (fun r6 Tm_7 => if r6 = 0 then (some ((0 : Int32), Tm_7))
  else (if r1 = 0 then (if ix (((6 : Int32) * (Tm_3 0 5)) + (1 : Int32)) 60 then (if ix (((6 : Int32) * (Tm_3 0 5)) + (2 : Int32)) 60 then ((fX11_readsLine_143 (u2 (u2 Tm_7 0 16 (Tm_7 4 (((6 : Int32) * (Tm_3 0 5)) + (1 : Int32)).toNatClampNeg)) 0 17 (Tm_7 4 (((6 : Int32) * (Tm_3 0 5)) + (2 : Int32)).toNatClampNeg)))) else none) else none)
  else (if r1 = (1 : Int32) then (if ix (((6 : Int32) * (Tm_3 0 5)) + (1 : Int32)) 60 then (if ix (((6 : Int32) * (Tm_3 0 5)) + (3 : Int32)) 60 then (if (Tm_7 4 (((6 : Int32) * (Tm_3 0 5)) + (3 : Int32)).toNatClampNeg) = (-1 : Int32) then ((fX11_readsLine_108 Tm_7 ((6 : Int32) * (Tm_3 0 5)) ((2 : Int32) * (Tm_7 4 (((6 : Int32) * (Tm_3 0 5)) + (1 : Int32)).toNatClampNeg)) (0 : Int32)))
  else ((fX11_readsLine_108 Tm_7 ((6 : Int32) * (Tm_3 0 5)) ((2 : Int32) * (Tm_7 4 (((6 : Int32) * (Tm_3 0 5)) + (1 : Int32)).toNatClampNeg)) (1 : Int32)))) else none) else none)
  else ((fX11_readsLine_143 Tm_7)))))) else none)))
noncomputable def fX11_fault_163 (rec111 : Gp → Option (Int32 × Gp)) (Tm : Gp) (y0 : Int32) : Option (Int32 × Gp) :=
  if y0 = 0 then (if y0 = 0 then (some ((Tm 0 14), Tm))
  else ((rec111 Tm)))
  else (bd1 (fX11_token Tm) (fun Tm_2 => bd2 (fX11_readsLine Tm_2) (fun r4 Tm_5 => if r4 = 0 then (some ((Tm_5 0 14), Tm_5))
  else ((rec111 Tm_5)))))
noncomputable def fX11_fault_162 (rec111 : Gp → Option (Int32 × Gp)) (Tm : Gp) : Option (Int32 × Gp) :=
  (fX11_fault_163 rec111 Tm (0 : Int32))
noncomputable def fX11_fault_111 (rec111 : Gp → Option (Int32 × Gp)) (Tm : Gp) : Option (Int32 × Gp) :=
  if (Tm 0 3) ≤ (Tm 0 14) then (some ((-1 : Int32), Tm))
  else (if ((Tm 0 15) - (Tm 0 14)) = (1 : Int32) then (if ix (Tm 0 14) 200 then (if (Tm 3 (Tm 0 14).toNatClampNeg) = (59 : Int32) then (if (10 : Int32) ≤ (Tm 0 5) then ((fX11_fault_162 rec111 Tm))
  else ((fX11_fault_163 rec111 Tm (1 : Int32))))
  else ((fX11_fault_162 rec111 Tm))) else none)
  else ((fX11_fault_162 rec111 Tm)))
noncomputable def lX11_fault_111  : Nat → Gp → Option (Int32 × Gp) :=
  lpf (fun _ => none) (fX11_fault_111)
noncomputable def fX11_fault_59 (rec28 : Gp → Int32 → Option (Int32 × Gp)) (Tm : Gp) (x1 : Int32) (y1 : Int32) (y2 : Int32) : Option (Int32 × Gp) :=
  if ix y1 12 then (if ix (((4 : Int32) * x1) + (2 : Int32)) 24 then (if (Tm 5 (((4 : Int32) * x1) + (2 : Int32)).toNatClampNeg) = (-1 : Int32) then (if ix (((2 : Int32) * x1) + (1 : Int32)) 12 then ((rec28 (u2 (u2 Tm 8 y1.toNatClampNeg (vp_nar .boolean y2)) 8 (((2 : Int32) * x1) + (1 : Int32)).toNatClampNeg (vp_nar .boolean (0 : Int32))) (x1 + (1 : Int32)))) else none)
  else (if ix (((2 : Int32) * x1) + (1 : Int32)) 12 then ((rec28 (u2 (u2 Tm 8 y1.toNatClampNeg (vp_nar .boolean y2)) 8 (((2 : Int32) * x1) + (1 : Int32)).toNatClampNeg (vp_nar .boolean (1 : Int32))) (x1 + (1 : Int32)))) else none)) else none) else none
noncomputable def fX11_fault_28 (rec28 : Gp → Int32 → Option (Int32 × Gp)) (Tm : Gp) (x1 : Int32) : Option (Int32 × Gp) :=
  if (5 : Int32) ≤ x1 then (bd1 (fX11_token Tm) (fun Tm_1 => bd2 (fX11_readsLine Tm_1) (fun r3 Tm_4 => if r3 = 0 then (some ((Tm_4 0 14), Tm_4))
  else ((lX11_fault_111 fu Tm_4)))))
  else (if ix (((4 : Int32) * x1) + (1 : Int32)) 24 then (if (Tm 5 (((4 : Int32) * x1) + (1 : Int32)).toNatClampNeg) = (-1 : Int32) then ((fX11_fault_59 rec28 Tm x1 ((2 : Int32) * x1) (0 : Int32)))
  else ((fX11_fault_59 rec28 Tm x1 ((2 : Int32) * x1) (1 : Int32)))) else none)
noncomputable def lX11_fault_28  : Nat → Gp → Int32 → Option (Int32 × Gp) :=
  lpf (fun _ _ => none) (fX11_fault_28)
noncomputable def fX11_fault (Tm : Gp) : Option (Int32 × Gp) :=
  (lX11_fault_28 fu (u2 (u2 (u2 (u2 Tm 0 13 (0 : Int32)) 0 5 (0 : Int32)) 0 16 (Tm 0 6)) 0 17 (Tm 0 7)) (0 : Int32))
noncomputable def fX11_meantAt (x0 : Int32) (x1 : Int32) (x2 : Int32) (x3 : Int32) : Option (Int32) :=
  some ((((((48 : Int32) * x0) + ((24 : Int32) * x1)) + ((4 : Int32) * x2)) + x3))
noncomputable def fX11_tell_122 (rec122 : Gp → Int32 → Int32 → Int32 → Option (Gp)) (Tm : Gp) (x1 : Int32) (x2 : Int32) (x4 : Int32) : Option (Gp) :=
  if (4 : Int32) ≤ x4 then (some (Tm))
  else (if ix ((x1 + (2 : Int32)) + x4) 60 then (if ix (((4 : Int32) * x2) + x4) 24 then ((rec122 (u2 Tm 5 (((4 : Int32) * x2) + x4).toNatClampNeg (Tm 4 ((x1 + (2 : Int32)) + x4).toNatClampNeg)) x1 x2 (x4 + (1 : Int32)))) else none) else none)
noncomputable def lX11_tell_122  : Nat → Gp → Int32 → Int32 → Int32 → Option (Gp) :=
  lpf (fun _ _ _ _ => none) (fX11_tell_122)
noncomputable def fX11_tell_97 (rec97 : Gp → Int32 → Option (Gp)) (Tm : Gp) (x4 : Int32) : Option (Gp) :=
  if (96 : Int32) ≤ x4 then (some (Tm))
  else (if ix x4 96 then ((rec97 (u2 Tm 7 x4.toNatClampNeg (5 : Int32)) (x4 + (1 : Int32)))) else none)
noncomputable def lX11_tell_97  : Nat → Gp → Int32 → Option (Gp) :=
  lpf (fun _ _ => none) (fX11_tell_97)
noncomputable def fX11_tell_73 (rec73 : Gp → Int32 → Option (Gp)) (Tm : Gp) (x4 : Int32) : Option (Gp) :=
  if (6 : Int32) ≤ x4 then ((lX11_tell_97 fu Tm (0 : Int32)))
  else (if ix x4 6 then ((rec73 (u2 Tm 6 x4.toNatClampNeg (0 : Int32)) (x4 + (1 : Int32)))) else none)
noncomputable def lX11_tell_73  : Nat → Gp → Int32 → Option (Gp) :=
  lpf (fun _ _ => none) (fX11_tell_73)
noncomputable def fX11_tell (Tm : Gp) (x1 : Int32) : Option (Gp) :=
  if ix (x1 + (1 : Int32)) 60 then (if ix (x1 + (2 : Int32)) 60 then (if ix x1 60 then (if (Tm 4 x1.toNatClampNeg) = (0 : Int32) then ((lX11_tell_73 fu (u2 (u2 Tm 0 6 (Tm 4 (x1 + (1 : Int32)).toNatClampNeg)) 0 7 (Tm 4 (x1 + (2 : Int32)).toNatClampNeg)) (0 : Int32)))
  else (if (Tm 4 x1.toNatClampNeg) = (1 : Int32) then ((lX11_tell_122 fu Tm x1 (Tm 4 (x1 + (1 : Int32)).toNatClampNeg) (0 : Int32)))
  else (if (Tm 4 x1.toNatClampNeg) = (2 : Int32) then (if ix (Tm 4 (x1 + (1 : Int32)).toNatClampNeg) 6 then (some ((u2 Tm 6 (Tm 4 (x1 + (1 : Int32)).toNatClampNeg).toNatClampNeg (Tm 4 (x1 + (2 : Int32)).toNatClampNeg)))) else none)
  else (if (Tm 4 x1.toNatClampNeg) = (3 : Int32) then (if ix (x1 + (3 : Int32)) 60 then (if ix (x1 + (4 : Int32)) 60 then (bd1 (fX11_meantAt (Tm 4 (x1 + (1 : Int32)).toNatClampNeg) (Tm 4 (x1 + (2 : Int32)).toNatClampNeg) (Tm 4 (x1 + (3 : Int32)).toNatClampNeg) (Tm 4 (x1 + (4 : Int32)).toNatClampNeg)) (fun r10 => if ix (x1 + (5 : Int32)) 60 then (if ix r10 96 then (some ((u2 Tm 7 r10.toNatClampNeg (Tm 4 (x1 + (5 : Int32)).toNatClampNeg)))) else none) else none)) else none) else none)
  else (if (Tm 4 x1.toNatClampNeg) = (4 : Int32) then (some ((u2 Tm 0 11 (Tm 4 (x1 + (1 : Int32)).toNatClampNeg))))
  else (some ((u2 Tm 0 12 (Tm 4 (x1 + (1 : Int32)).toNatClampNeg))))))))) else none) else none) else none
noncomputable def fX11_treaty_13 (rec13 : Gp → Int32 → Option (Int32 × Gp)) (Tm : Gp) (x1 : Int32) : Option (Int32 × Gp) :=
  if (Tm 0 5) ≤ x1 then (bd1 (fX11_begin Tm) (fun Tm_1 => some ((Tm_1 0 5), (u2 (u2 (u2 Tm_1 2 (0 : Int32).toNatClampNeg (vp_nar .boolean (0 : Int32))) 2 (1 : Int32).toNatClampNeg (vp_nar .boolean (0 : Int32))) 0 3 (0 : Int32)))))
  else (bd1 (fX11_tell Tm ((6 : Int32) * x1)) (fun Tm_3 => (rec13 Tm_3 (x1 + (1 : Int32)))))
noncomputable def lX11_treaty_13  : Nat → Gp → Int32 → Option (Int32 × Gp) :=
  lpf (fun _ _ => none) (fX11_treaty_13)
noncomputable def fX11_treaty (Tm : Gp) : Option (Int32 × Gp) :=
  bd2 (fX11_fault Tm) (fun r1 Tm_2 => if r1 = (-1 : Int32) then ((lX11_treaty_13 fu Tm_2 (0 : Int32)))
  else (some ((-4 : Int32), Tm_2)))
noncomputable def fX11_work (Tm : Gp) (x1 : Int32) (x2 : Int32) : Option (Int32) :=
  bd1 (fX11_in x1.toInt64 (0 : Int64) (5 : Int64)) (fun r1 => if r1 = 0 then (some ((-2 : Int32)))
  else (bd1 (fX11_in x2.toInt64 (0 : Int64) (3 : Int64)) (fun r3 => if r3 = 0 then (some ((-3 : Int32)))
  else (if ix (((4 : Int32) * x1) + x2) 24 then (some ((Tm 5 (((4 : Int32) * x1) + x2).toNatClampNeg))) else none))))
noncomputable def fX11_isValley (x0 : Int32) : Option (Int32) :=
  bd1 (fX11_in x0.toInt64 (0 : Int64) (1 : Int64)) (fun r1 => if vp_nar .boolean r1 = r1 then some (r1) else none)
noncomputable def fX11_isPair (Tm : Gp) (x1 : Int32) : Option (Int32) :=
  bd1 (fX11_in x1.toInt64 (0 : Int64) ((Tm 0 6) - (1 : Int32)).toInt64) (fun r1 => if vp_nar .boolean r1 = r1 then some (r1) else none)
noncomputable def fX11_isHour (Tm : Gp) (x1 : Int32) : Option (Int32) :=
  bd1 (fX11_in x1.toInt64 (0 : Int64) ((Tm 0 7) - (1 : Int32)).toInt64) (fun r1 => if vp_nar .boolean r1 = r1 then some (r1) else none)
noncomputable def fX11_meant (Tm : Gp) (x1 : Int32) (x2 : Int32) (x3 : Int32) (x4 : Int32) : Option (Int32) :=
  bd1 (fX11_isValley x2) (fun r1 => if r1 = 0 then (some ((-2 : Int32)))
  else (bd1 (fX11_isPair Tm x3) (fun r3 => if r3 = 0 then (some ((-2 : Int32)))
  else (bd1 (fX11_isHour Tm x4) (fun r5 => if r5 = 0 then (some ((-2 : Int32)))
  else (bd1 (fX11_in x1.toInt64 (0 : Int64) (1 : Int64)) (fun r7 => if r7 = 0 then (some ((-3 : Int32)))
  else (bd1 (fX11_meantAt x1 x2 x3 x4) (fun r9 => if ix r9 96 then (some ((Tm 7 r9.toNatClampNeg))) else none)))))))))
noncomputable def fX11_done (Tm : Gp) (x1 : Int32) (x2 : Int32) (x3 : Int32) (x4 : Int32) : Option (Int32 × Gp) :=
  bd1 (fX11_isValley x1) (fun r1 => if r1 = 0 then (some ((-2 : Int32), Tm))
  else (bd1 (fX11_isPair Tm x2) (fun r3 => if r3 = 0 then (some ((-2 : Int32), Tm))
  else (bd1 (fX11_isHour Tm x3) (fun r5 => if r5 = 0 then (some ((-2 : Int32), Tm))
  else (bd1 (fX11_in x4.toInt64 (0 : Int64) (5 : Int64)) (fun r7 => if r7 = 0 then (some ((-2 : Int32), Tm))
  else (if ix ((((4 : Int32) * x4) + (1 : Int32)) + x1) 24 then (if (Tm 5 ((((4 : Int32) * x4) + (1 : Int32)) + x1).toNatClampNeg) = (-1 : Int32) then (some ((-4 : Int32), Tm))
  else (if ix ((((39 : Int32) + ((24 : Int32) * x1)) + ((4 : Int32) * x2)) + x3) 261 then (some ((1 : Int32), (u2 Tm 1 ((((39 : Int32) + ((24 : Int32) * x1)) + ((4 : Int32) * x2)) + x3).toNatClampNeg x4))) else none)) else none))))))))
noncomputable def fX11_ill (Tm : Gp) (x1 : Int32) (x2 : Int32) (x3 : Int32) : Option (Int32 × Gp) :=
  bd1 (fX11_isValley x1) (fun r1 => if r1 = 0 then (some ((-2 : Int32), Tm))
  else (bd1 (fX11_isPair Tm x2) (fun r3 => if r3 = 0 then (some ((-2 : Int32), Tm))
  else (if ix (((27 : Int32) + ((6 : Int32) * x1)) + x2) 261 then (if x3 = 0 then (if ix (((27 : Int32) + ((6 : Int32) * x1)) + x2) 261 then (some ((Tm 1 (((27 : Int32) + ((6 : Int32) * x1)) + x2).toNatClampNeg), (u2 Tm 1 (((27 : Int32) + ((6 : Int32) * x1)) + x2).toNatClampNeg (0 : Int32)))) else none)
  else (if ix (((27 : Int32) + ((6 : Int32) * x1)) + x2) 261 then (some ((Tm 1 (((27 : Int32) + ((6 : Int32) * x1)) + x2).toNatClampNeg), (u2 Tm 1 (((27 : Int32) + ((6 : Int32) * x1)) + x2).toNatClampNeg (1 : Int32)))) else none)) else none))))
noncomputable def fX11_meansOf (Tm : Gp) (x1 : Int32) (x2 : Int32) (x3 : Int32) : Option (Int32) :=
  bd1 (fX11_meantAt (irm (Tm 1 (0 : Int32).toNatClampNeg) (2 : Int32)) x1 x2 x3) (fun r1 => if ix r1 96 then (some ((Tm 7 r1.toNatClampNeg))) else none)
noncomputable def fX11_may_63 (Tm : Gp) (x1 : Int32) (x4 : Int32) (x5 : Int32) (y0 : Int32) : Option (Int32) :=
  if x4 = (5 : Int32) then (some ((1 : Int32)))
  else (if ix ((((4 : Int32) * x4) + (1 : Int32)) + x1) 24 then (if (Tm 5 ((((4 : Int32) * x4) + (1 : Int32)) + x1).toNatClampNeg) = (-1 : Int32) then (some ((0 : Int32)))
  else (if x5 = 0 then (if y0 = 0 then (some ((1 : Int32)))
  else (some ((0 : Int32))))
  else (some ((0 : Int32))))) else none)
noncomputable def fX11_may_62 (Tm : Gp) (x1 : Int32) (x4 : Int32) (x5 : Int32) : Option (Int32) :=
  (fX11_may_63 Tm x1 x4 x5 (0 : Int32))
noncomputable def fX11_may_28 (Tm : Gp) (x1 : Int32) (x2 : Int32) (x3 : Int32) (x4 : Int32) (y0 : Int32) : Option (Int32) :=
  if ix x2 6 then (if (Tm 6 x2.toNatClampNeg) = (2 : Int32) then (if (Tm 0 7) ≤ (1 : Int32) then ((fX11_may_62 Tm x1 x4 y0))
  else (if x3 = ((Tm 0 7) - (1 : Int32)) then ((fX11_may_63 Tm x1 x4 y0 (1 : Int32)))
  else ((fX11_may_62 Tm x1 x4 y0))))
  else ((fX11_may_62 Tm x1 x4 y0))) else none
noncomputable def fX11_may_27 (Tm : Gp) (x1 : Int32) (x2 : Int32) (x3 : Int32) (x4 : Int32) : Option (Int32) :=
  (fX11_may_28 Tm x1 x2 x3 x4 (0 : Int32))
noncomputable def fX11_may (Tm : Gp) (x1 : Int32) (x2 : Int32) (x3 : Int32) (x4 : Int32) : Option (Int32) :=
  if ix x2 6 then (if (Tm 6 x2.toNatClampNeg) = (1 : Int32) then (if ix ((4 : Int32) * x4) 24 then (if (Tm 5 ((4 : Int32) * x4).toNatClampNeg) = (3 : Int32) then ((fX11_may_28 Tm x1 x2 x3 x4 (1 : Int32)))
  else ((fX11_may_27 Tm x1 x2 x3 x4))) else none)
  else ((fX11_may_27 Tm x1 x2 x3 x4))) else none
noncomputable def fX11_does_38 (Tm : Gp) (x1 : Int32) (x2 : Int32) (x3 : Int32) (y0 : Int32) : Option (Int32) :=
  if ix (((27 : Int32) + ((6 : Int32) * x1)) + x2) 261 then (if (Tm 1 (((27 : Int32) + ((6 : Int32) * x1)) + x2).toNatClampNeg) = 0 then (bd1 (fX11_may Tm x1 x2 x3 y0) (fun r2 => if r2 = 0 then (some ((5 : Int32)))
  else (some (y0))))
  else (some ((5 : Int32)))) else none
noncomputable def fX11_does (Tm : Gp) (x1 : Int32) (x2 : Int32) (x3 : Int32) : Option (Int32) :=
  if ix ((((39 : Int32) + ((24 : Int32) * x1)) + ((4 : Int32) * x2)) + x3) 261 then (if (Tm 1 ((((39 : Int32) + ((24 : Int32) * x1)) + ((4 : Int32) * x2)) + x3).toNatClampNeg) = (-1 : Int32) then (bd1 (fX11_meansOf Tm x1 x2 x3) (fun r2 => (fX11_does_38 Tm x1 x2 x3 r2)))
  else ((fX11_does_38 Tm x1 x2 x3 (Tm 1 ((((39 : Int32) + ((24 : Int32) * x1)) + ((4 : Int32) * x2)) + x3).toNatClampNeg)))) else none
noncomputable def fX11_isBreach_74 (Tm : Gp) (y0 : Int32) : Option (Int32) :=
  if (irm (Tm 1 (0 : Int32).toNatClampNeg) (2 : Int32)) = (1 : Int32) then (if y0 = (1 : Int32) then (some ((1 : Int32)))
  else (some ((0 : Int32))))
  else (if y0 = (0 : Int32) then (some ((1 : Int32)))
  else (some ((0 : Int32))))
noncomputable def fX11_isBreach (Tm : Gp) (x1 : Int32) (x2 : Int32) : Option (Int32) :=
  if ix x1 6 then (if (Tm 6 x1.toNatClampNeg) = (3 : Int32) then (some ((0 : Int32)))
  else (if ix ((27 : Int32) + x1) 261 then (if (Tm 1 ((27 : Int32) + x1).toNatClampNeg) = (1 : Int32) then (some ((0 : Int32)))
  else (if ix ((33 : Int32) + x1) 261 then (if (Tm 1 ((33 : Int32) + x1).toNatClampNeg) = (1 : Int32) then (some ((0 : Int32)))
  else (bd1 (fX11_does Tm (0 : Int32) x1 x2) (fun r4 => if ix ((4 : Int32) * r4) 24 then (bd1 (fX11_does Tm (1 : Int32) x1 x2) (fun r7 => if ix ((4 : Int32) * r7) 24 then (if (Tm 5 ((4 : Int32) * r4).toNatClampNeg) = (Tm 5 ((4 : Int32) * r7).toNatClampNeg) then ((fX11_isBreach_74 Tm (1 : Int32)))
  else ((fX11_isBreach_74 Tm (0 : Int32)))) else none)) else none))) else none)) else none)) else none
noncomputable def fX11_strays (Tm : Gp) (x1 : Int32) (x2 : Int32) (x3 : Int32) : Option (Int32) :=
  if ix ((((39 : Int32) + ((24 : Int32) * x1)) + ((4 : Int32) * x2)) + x3) 261 then (if (Tm 1 ((((39 : Int32) + ((24 : Int32) * x1)) + ((4 : Int32) * x2)) + x3).toNatClampNeg) = (-1 : Int32) then (some ((0 : Int32)))
  else (bd1 (fX11_meansOf Tm x1 x2 x3) (fun r2 => if (Tm 1 ((((39 : Int32) + ((24 : Int32) * x1)) + ((4 : Int32) * x2)) + x3).toNatClampNeg) = r2 then (some ((0 : Int32)))
  else (some ((1 : Int32)))))) else none
noncomputable def fX11_charge (Tm : Gp) (x1 : Int32) (x2 : Int32) : Option (Gp) :=
  if ix (((3 : Int32) + ((6 : Int32) * x1)) + x2) 261 then (if ix (((3 : Int32) + ((6 : Int32) * x1)) + x2) 261 then (if ix (((15 : Int32) + ((6 : Int32) * x1)) + x2) 261 then (if ix (((15 : Int32) + ((6 : Int32) * x1)) + x2) 261 then (some ((u2 (u2 Tm 1 (((3 : Int32) + ((6 : Int32) * x1)) + x2).toNatClampNeg ((Tm 1 (((3 : Int32) + ((6 : Int32) * x1)) + x2).toNatClampNeg) + (1 : Int32))) 1 (((15 : Int32) + ((6 : Int32) * x1)) + x2).toNatClampNeg (((u2 Tm 1 (((3 : Int32) + ((6 : Int32) * x1)) + x2).toNatClampNeg ((Tm 1 (((3 : Int32) + ((6 : Int32) * x1)) + x2).toNatClampNeg) + (1 : Int32))) 1 (((15 : Int32) + ((6 : Int32) * x1)) + x2).toNatClampNeg) + (Tm 0 12))))) else none) else none) else none) else none
noncomputable def fX11_day_190 (rec190 : Gp → Int32 → Option (Gp)) (Tm : Gp) (x1 : Int32) : Option (Gp) :=
  if (87 : Int32) ≤ x1 then (some (Tm))
  else (if ix x1 261 then ((rec190 (u2 Tm 1 x1.toNatClampNeg (-1 : Int32)) (x1 + (1 : Int32)))) else none)
noncomputable def lX11_day_190  : Nat → Gp → Int32 → Option (Gp) :=
  lpf (fun _ _ => none) (fX11_day_190)
noncomputable def fX11_day_78 (rec2 : Gp → Int32 → Option (Gp)) (rec12 : Gp → Int32 → Int32 → Option (Gp)) (rec78 : Gp → Int32 → Int32 → Int32 → Option (Gp)) (Tm : Gp) (x1 : Int32) (x2 : Int32) (x3 : Int32) : Option (Gp) :=
  if (2 : Int32) ≤ x3 then ((rec12 Tm x1 (x2 + (1 : Int32))))
  else (bd1 (fX11_does Tm x3 x1 x2) (fun r1 => if ix ((((4 : Int32) * r1) + (1 : Int32)) + x3) 24 then (if ix ((1 : Int32) + x3) 261 then (if ix x1 6 then (if (Tm 6 x1.toNatClampNeg) = (2 : Int32) then (if ix ((1 : Int32) + x3) 261 then ((rec78 (u2 Tm 1 ((1 : Int32) + x3).toNatClampNeg ((Tm 1 ((1 : Int32) + x3).toNatClampNeg) + ((Tm 5 ((((4 : Int32) * r1) + (1 : Int32)) + x3).toNatClampNeg) / (2 : Int32)))) x1 x2 (x3 + (1 : Int32)))) else none)
  else (if ix ((1 : Int32) + x3) 261 then ((rec78 (u2 Tm 1 ((1 : Int32) + x3).toNatClampNeg ((Tm 1 ((1 : Int32) + x3).toNatClampNeg) + (Tm 5 ((((4 : Int32) * r1) + (1 : Int32)) + x3).toNatClampNeg))) x1 x2 (x3 + (1 : Int32)))) else none)) else none) else none) else none))
noncomputable def lX11_day_78 (rec2 : Gp → Int32 → Option (Gp)) (rec12 : Gp → Int32 → Int32 → Option (Gp)) : Nat → Gp → Int32 → Int32 → Int32 → Option (Gp) :=
  lpf (fun _ _ _ _ => none) (fX11_day_78 rec2 rec12)
noncomputable def fX11_day_70 (rec2 : Gp → Int32 → Option (Gp)) (rec12 : Gp → Int32 → Int32 → Option (Gp)) (Tm : Gp) (x1 : Int32) (x2 : Int32) : Option (Gp) :=
  bd1 (fX11_charge Tm (1 : Int32) x1) (fun Tm_1 => (lX11_day_78 rec2 rec12 fu Tm_1 x1 x2 (0 : Int32)))
noncomputable def fX11_day_61 (rec2 : Gp → Int32 → Option (Gp)) (rec12 : Gp → Int32 → Int32 → Option (Gp)) (Tm : Gp) (x1 : Int32) (x2 : Int32) (x3 : Int32) (x4 : Int32) : Option (Gp) :=
  if x4 = 0 then (if x3 = 0 then ((fX11_day_70 rec2 rec12 Tm x1 x2))
  else ((lX11_day_78 rec2 rec12 fu Tm x1 x2 (0 : Int32))))
  else ((fX11_day_70 rec2 rec12 Tm x1 x2))
noncomputable def fX11_day_55 (rec2 : Gp → Int32 → Option (Gp)) (rec12 : Gp → Int32 → Int32 → Option (Gp)) (Tm : Gp) (x1 : Int32) (x2 : Int32) (x3 : Int32) (x4 : Int32) : Option (Gp) :=
  bd1 (fX11_charge Tm (0 : Int32) x1) (fun Tm_1 => (fX11_day_61 rec2 rec12 Tm_1 x1 x2 x3 x4))
noncomputable def fX11_day_12 (rec2 : Gp → Int32 → Option (Gp)) (rec12 : Gp → Int32 → Int32 → Option (Gp)) (Tm : Gp) (x1 : Int32) (x2 : Int32) : Option (Gp) :=
  if (Tm 0 7) ≤ x2 then ((rec2 (u2 (u2 Tm 1 (1 : Int32).toNatClampNeg ((Tm 1 (1 : Int32).toNatClampNeg) - (Tm 0 11))) 1 (2 : Int32).toNatClampNeg (((u2 Tm 1 (1 : Int32).toNatClampNeg ((Tm 1 (1 : Int32).toNatClampNeg) - (Tm 0 11))) 1 (2 : Int32).toNatClampNeg) - (Tm 0 11))) (x1 + (1 : Int32))))
  else (bd1 (fX11_isBreach Tm x1 x2) (fun r1 => if r1 = 0 then ((lX11_day_78 rec2 rec12 fu Tm x1 x2 (0 : Int32)))
  else (bd1 (fX11_strays Tm (0 : Int32) x1 x2) (fun r3 => bd1 (fX11_strays Tm (1 : Int32) x1 x2) (fun r5 => if r3 = 0 then (if r5 = 0 then ((fX11_day_55 rec2 rec12 Tm x1 x2 r3 r5))
  else ((fX11_day_61 rec2 rec12 Tm x1 x2 r3 r5)))
  else ((fX11_day_55 rec2 rec12 Tm x1 x2 r3 r5)))))))
noncomputable def lX11_day_12 (rec2 : Gp → Int32 → Option (Gp)) : Nat → Gp → Int32 → Int32 → Option (Gp) :=
  lpf (fun _ _ _ => none) (fX11_day_12 rec2)
noncomputable def fX11_day_2 (rec2 : Gp → Int32 → Option (Gp)) (Tm : Gp) (x1 : Int32) : Option (Gp) :=
  if (Tm 0 6) ≤ x1 then ((lX11_day_190 fu (u2 Tm 1 (0 : Int32).toNatClampNeg ((Tm 1 (0 : Int32).toNatClampNeg) + (1 : Int32))) (39 : Int32)))
  else ((lX11_day_12 rec2 fu Tm x1 (0 : Int32)))
noncomputable def lX11_day_2  : Nat → Gp → Int32 → Option (Gp) :=
  lpf (fun _ _ => none) (fX11_day_2)
noncomputable def fX11_day (Tm : Gp) : Option (Gp) :=
  (lX11_day_2 fu Tm (0 : Int32))
noncomputable def fX11_days_17 (rec17 : Gp → Int32 → Int32 → Option (Int32 × Gp)) (Tm : Gp) (x1 : Int32) (x2 : Int32) : Option (Int32 × Gp) :=
  if x1 ≤ x2 then (some ((Tm 1 (0 : Int32).toNatClampNeg), Tm))
  else (bd1 (fX11_day Tm) (fun Tm_1 => (rec17 Tm_1 x1 (x2 + (1 : Int32)))))
noncomputable def lX11_days_17  : Nat → Gp → Int32 → Int32 → Option (Int32 × Gp) :=
  lpf (fun _ _ _ => none) (fX11_days_17)
noncomputable def fX11_days (Tm : Gp) (x1 : Int32) : Option (Int32 × Gp) :=
  bd1 (fX11_in x1.toInt64 (1 : Int64) (99 : Int64)) (fun r1 => if r1 = 0 then (some ((-3 : Int32), Tm))
  else ((lX11_days_17 fu Tm x1 (0 : Int32))))
noncomputable def fX11_person (Tm : Gp) (x1 : Int32) (x2 : Int32) (x3 : Int32) : Option (Int32) :=
  bd1 (fX11_isValley x1) (fun r1 => if r1 = 0 then (some ((-2 : Int32)))
  else (bd1 (fX11_isPair Tm x2) (fun r3 => if r3 = 0 then (some ((-2 : Int32)))
  else (if x3 = 0 then (if ix (((3 : Int32) + ((6 : Int32) * x1)) + x2) 261 then (some ((Tm 1 (((3 : Int32) + ((6 : Int32) * x1)) + x2).toNatClampNeg))) else none)
  else (if x3 = (1 : Int32) then (if ix (((15 : Int32) + ((6 : Int32) * x1)) + x2) 261 then (some ((Tm 1 (((15 : Int32) + ((6 : Int32) * x1)) + x2).toNatClampNeg))) else none)
  else (bd1 (fX11_in x3.toInt64 (10 : Int64) ((9 : Int32) + (Tm 0 7)).toInt64) (fun r5 => if r5 = 0 then (some ((-3 : Int32)))
  else (bd1 (fX11_does Tm x1 x2 (x3 - (10 : Int32))) (fun r7 => some (r7))))))))))
noncomputable def fX11_bread (Tm : Gp) (x1 : Int32) : Option (Int32) :=
  bd1 (fX11_isValley x1) (fun r1 => if r1 = 0 then (some ((-2 : Int32)))
  else (if ix ((1 : Int32) + x1) 261 then (some (((Tm 1 ((1 : Int32) + x1).toNatClampNeg) + (100000 : Int32)))) else none))
noncomputable def fX11_breaches_15 (Tm : Gp) (rec15 : Int32 → Int32 → Int32 → Option (Int32)) (x1 : Int32) (x2 : Int32) (x3 : Int32) : Option (Int32) :=
  if (Tm 0 7) ≤ x3 then (some (x2))
  else (bd1 (fX11_isBreach Tm x1 x3) (fun r1 => if r1 = 0 then ((rec15 x1 (x2 ||| (0 : Int32)) (x3 + (1 : Int32))))
  else ((rec15 x1 (x2 ||| ((1 : Int32) <<< (x3 &&& 31))) (x3 + (1 : Int32))))))
noncomputable def lX11_breaches_15 (Tm : Gp) : Nat → Int32 → Int32 → Int32 → Option (Int32) :=
  lpf (fun _ _ _ => none) (fX11_breaches_15 Tm)
noncomputable def fX11_breaches (Tm : Gp) (x1 : Int32) : Option (Int32) :=
  bd1 (fX11_isPair Tm x1) (fun r1 => if r1 = 0 then (some ((-2 : Int32)))
  else ((lX11_breaches_15 Tm fu x1 (0 : Int32) (0 : Int32))))
noncomputable def fX11_as_98 (Tm : Gp) (x1 : Int32) (y0 : Int32) : Option (Int32) :=
  if y0 = 0 then (some ((-4 : Int32)))
  else (if ix ((3 : Int32) + x1) 261 then (if ix ((9 : Int32) + x1) 261 then (some (((Tm 1 ((3 : Int32) + x1).toNatClampNeg) + (Tm 1 ((9 : Int32) + x1).toNatClampNeg)))) else none) else none)
noncomputable def fX11_as_93 (Tm : Gp) (x1 : Int32) : Option (Int32) :=
  (fX11_as_98 Tm x1 (1 : Int32))
noncomputable def fX11_as_97 (Tm : Gp) (x1 : Int32) : Option (Int32) :=
  (fX11_as_98 Tm x1 (0 : Int32))
noncomputable def fX11_as_83 (Tm : Gp) (x1 : Int32) (x2 : Int32) (x3 : Int32) : Option (Int32) :=
  if x2 = (5 : Int32) then (if x3 = (2 : Int32) then ((fX11_as_93 Tm x1))
  else ((fX11_as_97 Tm x1)))
  else ((fX11_as_97 Tm x1))
noncomputable def fX11_as_73 (Tm : Gp) (x1 : Int32) (x2 : Int32) (x3 : Int32) : Option (Int32) :=
  if x2 = (4 : Int32) then (if x3 = (1 : Int32) then ((fX11_as_93 Tm x1))
  else ((fX11_as_83 Tm x1 x2 x3)))
  else ((fX11_as_83 Tm x1 x2 x3))
noncomputable def fX11_as_63 (Tm : Gp) (x1 : Int32) (x2 : Int32) (x3 : Int32) : Option (Int32) :=
  if x2 = (3 : Int32) then (if x3 < (2 : Int32) then ((fX11_as_93 Tm x1))
  else ((fX11_as_73 Tm x1 x2 x3)))
  else ((fX11_as_73 Tm x1 x2 x3))
noncomputable def fX11_as_58 (Tm : Gp) (x1 : Int32) (x2 : Int32) (x3 : Int32) : Option (Int32) :=
  if x3 = (3 : Int32) then ((fX11_as_93 Tm x1))
  else ((fX11_as_63 Tm x1 x2 x3))
noncomputable def fX11_as_47 (Tm : Gp) (x1 : Int32) (x2 : Int32) (x3 : Int32) : Option (Int32) :=
  if x2 = (2 : Int32) then ((fX11_as_58 Tm x1 x2 x3))
  else (if x2 = (6 : Int32) then ((fX11_as_58 Tm x1 x2 x3))
  else ((fX11_as_63 Tm x1 x2 x3)))
noncomputable def fX11_as (Tm : Gp) (x1 : Int32) (x2 : Int32) : Option (Int32) :=
  bd1 (fX11_isPair Tm x1) (fun r1 => if r1 = 0 then (some ((-2 : Int32)))
  else (bd1 (fX11_in x2.toInt64 (0 : Int64) (6 : Int64)) (fun r3 => if r3 = 0 then (some ((-3 : Int32)))
  else (if ix x1 6 then (if x2 = 0 then ((fX11_as_93 Tm x1))
  else (if x2 = (1 : Int32) then (if (Tm 6 x1.toNatClampNeg) < (3 : Int32) then ((fX11_as_93 Tm x1))
  else ((fX11_as_47 Tm x1 x2 (Tm 6 x1.toNatClampNeg))))
  else ((fX11_as_47 Tm x1 x2 (Tm 6 x1.toNatClampNeg))))) else none))))
noncomputable def fX11_fits_41 (Tm : Gp) (x2 : Int32) (x3 : Int32) (x4 : Int32) (x5 : Int32) (x6 : Int32) (y0 : Int32) : Option (Int32) :=
  bd1 (fX11_may Tm (0 : Int32) x5 x6 x3) (fun r1 => if r1 = 0 then (some ((0 : Int32)))
  else (bd1 (fX11_may Tm (1 : Int32) x5 x6 x4) (fun r3 => if r3 = 0 then (some ((0 : Int32)))
  else (if ix x5 6 then (if (Tm 6 x5.toNatClampNeg) = (3 : Int32) then (some ((1 : Int32)))
  else (if x2 = 0 then (if y0 = (1 : Int32) then (some ((1 : Int32)))
  else (some ((0 : Int32))))
  else (if y0 = (0 : Int32) then (some ((1 : Int32)))
  else (some ((0 : Int32)))))) else none))))
noncomputable def fX11_fits (Tm : Gp) (x1 : Int32) (x2 : Int32) (x3 : Int32) (x4 : Int32) : Option (Int32) :=
  if ¬ (Tm 0 7) = 0 then (if ¬ (Tm 0 7) = 0 then (if ix ((4 : Int32) * x3) 24 then (if ix ((4 : Int32) * x4) 24 then (if (Tm 5 ((4 : Int32) * x3).toNatClampNeg) = (Tm 5 ((4 : Int32) * x4).toNatClampNeg) then ((fX11_fits_41 Tm x2 x3 x4 (x1 / (Tm 0 7)) (irm x1 (Tm 0 7)) (1 : Int32)))
  else ((fX11_fits_41 Tm x2 x3 x4 (x1 / (Tm 0 7)) (irm x1 (Tm 0 7)) (0 : Int32)))) else none) else none) else none) else none
noncomputable def fX11_breadOf (Tm : Gp) (x1 : Int32) (x2 : Int32) (x3 : Int32) : Option (Int32) :=
  if ix (((4 : Int32) * x2) + (1 : Int32)) 24 then (if ix (((4 : Int32) * x3) + (2 : Int32)) 24 then (if ¬ (Tm 0 7) = 0 then (if ix (x1 / (Tm 0 7)) 6 then (if (Tm 6 (x1 / (Tm 0 7)).toNatClampNeg) = (2 : Int32) then (some ((((Tm 5 (((4 : Int32) * x2) + (1 : Int32)).toNatClampNeg) / (2 : Int32)) + ((Tm 5 (((4 : Int32) * x3) + (2 : Int32)).toNatClampNeg) / (2 : Int32)))))
  else (some (((Tm 5 (((4 : Int32) * x2) + (1 : Int32)).toNatClampNeg) + (Tm 5 (((4 : Int32) * x3) + (2 : Int32)).toNatClampNeg))))) else none) else none) else none) else none
noncomputable def fX11_worthBy_50 (Tm : Gp) (x4 : Int32) (x5 : Int32) (y1 : Int32) (y2 : Int32) : Option (Int32) :=
  if ix (y1 + y2) 5025 then (if (Tm 9 (y1 + y2).toNatClampNeg) = (-1 : Int32) then (some ((-1 : Int32)))
  else (if ix (((4 : Int32) * x4) + (3 : Int32)) 24 then (if ix (((4 : Int32) * x5) + (3 : Int32)) 24 then (some ((((Tm 9 (y1 + y2).toNatClampNeg) + (Tm 5 (((4 : Int32) * x4) + (3 : Int32)).toNatClampNeg)) + (Tm 5 (((4 : Int32) * x5) + (3 : Int32)).toNatClampNeg)))) else none) else none)) else none
noncomputable def fX11_worthBy (Tm : Gp) (x1 : Int32) (x2 : Int32) (x3 : Int32) (x4 : Int32) (x5 : Int32) : Option (Int32) :=
  bd1 (fX11_fits Tm x1 x2 x4 x5) (fun r1 => if r1 = 0 then (some ((-1 : Int32)))
  else (bd1 (fX11_breadOf Tm x1 x4 x5) (fun r3 => if (x3 - r3) ≤ 0 then ((fX11_worthBy_50 Tm x4 x5 ((201 : Int32) * (x1 + (1 : Int32))) (0 : Int32)))
  else ((fX11_worthBy_50 Tm x4 x5 ((201 : Int32) * (x1 + (1 : Int32))) (x3 - r3))))))
noncomputable def fX11_layWorths_73 (rec53 : Gp → Int32 → Int32 → Int32 → Option (Gp)) (rec61 : Gp → Int32 → Int32 → Int32 → Int32 → Option (Gp)) (rec73 : Gp → Int32 → Int32 → Int32 → Int32 → Int32 → Int32 → Option (Gp)) (Tm : Gp) (x1 : Int32) (x2 : Int32) (x4 : Int32) (x5 : Int32) (x6 : Int32) (x7 : Int32) : Option (Gp) :=
  if (36 : Int32) ≤ x7 then (if ix (((201 : Int32) * x4) + x5) 5025 then ((rec61 (u2 Tm 9 (((201 : Int32) * x4) + x5).toNatClampNeg x6) x1 x2 x4 (x5 + (1 : Int32)))) else none)
  else (bd1 (fX11_worthBy Tm x4 x1 x5 (x7 / (6 : Int32)) (irm x7 (6 : Int32))) (fun r2 => if r2 ≤ x6 then ((rec73 Tm x1 x2 x4 x5 x6 (x7 + (1 : Int32))))
  else ((rec73 Tm x1 x2 x4 x5 r2 (x7 + (1 : Int32))))))
noncomputable def lX11_layWorths_73 (rec53 : Gp → Int32 → Int32 → Int32 → Option (Gp)) (rec61 : Gp → Int32 → Int32 → Int32 → Int32 → Option (Gp)) : Nat → Gp → Int32 → Int32 → Int32 → Int32 → Int32 → Int32 → Option (Gp) :=
  lpf (fun _ _ _ _ _ _ _ => none) (fX11_layWorths_73 rec53 rec61)
noncomputable def fX11_layWorths_61 (rec53 : Gp → Int32 → Int32 → Int32 → Option (Gp)) (rec61 : Gp → Int32 → Int32 → Int32 → Int32 → Option (Gp)) (Tm : Gp) (x1 : Int32) (x2 : Int32) (x4 : Int32) (x5 : Int32) : Option (Gp) :=
  if x2 < x5 then ((rec53 Tm x1 x2 (x4 + (-1 : Int32))))
  else ((lX11_layWorths_73 rec53 rec61 fu Tm x1 x2 x4 x5 (-1 : Int32) (0 : Int32)))
noncomputable def lX11_layWorths_61 (rec53 : Gp → Int32 → Int32 → Int32 → Option (Gp)) : Nat → Gp → Int32 → Int32 → Int32 → Int32 → Option (Gp) :=
  lpf (fun _ _ _ _ _ => none) (fX11_layWorths_61 rec53)
noncomputable def fX11_layWorths_53 (rec53 : Gp → Int32 → Int32 → Int32 → Option (Gp)) (Tm : Gp) (x1 : Int32) (x2 : Int32) (x4 : Int32) : Option (Gp) :=
  if x4 < 0 then (some (Tm))
  else ((lX11_layWorths_61 rec53 fu Tm x1 x2 x4 (0 : Int32)))
noncomputable def lX11_layWorths_53  : Nat → Gp → Int32 → Int32 → Int32 → Option (Gp) :=
  lpf (fun _ _ _ _ => none) (fX11_layWorths_53)
noncomputable def fX11_layWorths_13 (rec13 : Gp → Int32 → Int32 → Int32 → Int32 → Option (Gp)) (Tm : Gp) (x1 : Int32) (x2 : Int32) (x3 : Int32) (x4 : Int32) : Option (Gp) :=
  if x2 < x4 then ((lX11_layWorths_53 fu Tm x1 x2 (x3 - (1 : Int32))))
  else (if x4 = 0 then (if ix (((201 : Int32) * x3) + x4) 5025 then ((rec13 (u2 Tm 9 (((201 : Int32) * x3) + x4).toNatClampNeg (0 : Int32)) x1 x2 x3 (x4 + (1 : Int32)))) else none)
  else (if ix (((201 : Int32) * x3) + x4) 5025 then ((rec13 (u2 Tm 9 (((201 : Int32) * x3) + x4).toNatClampNeg (-1 : Int32)) x1 x2 x3 (x4 + (1 : Int32)))) else none))
noncomputable def lX11_layWorths_13  : Nat → Gp → Int32 → Int32 → Int32 → Int32 → Option (Gp) :=
  lpf (fun _ _ _ _ _ => none) (fX11_layWorths_13)
noncomputable def fX11_layWorths (Tm : Gp) (x1 : Int32) (x2 : Int32) : Option (Gp) :=
  (lX11_layWorths_13 fu Tm x1 x2 ((Tm 0 6) * (Tm 0 7)) (0 : Int32))
noncomputable def fX11_choose_45 (rec28 : Gp → Int32 → Int32 → Int32 → Option (Int32 × Gp)) (rec45 : Gp → Int32 → Int32 → Int32 → Int32 → Option (Int32 × Gp)) (Tm : Gp) (x1 : Int32) (x3 : Int32) (x4 : Int32) (x5 : Int32) : Option (Int32 × Gp) :=
  bd1 (fX11_worthBy Tm x4 x1 x3 (x5 / (6 : Int32)) (irm x5 (6 : Int32))) (fun r1 => if ix (((201 : Int32) * x4) + x3) 5025 then (if r1 = (Tm 9 (((201 : Int32) * x4) + x3).toNatClampNeg) then (if ix ((2 : Int32) * x4) 48 then (if ix (((2 : Int32) * x4) + (1 : Int32)) 48 then (bd1 (fX11_breadOf (u2 (u2 Tm 10 ((2 : Int32) * x4).toNatClampNeg (x5 / (6 : Int32))) 10 (((2 : Int32) * x4) + (1 : Int32)).toNatClampNeg (irm x5 (6 : Int32))) x4 (x5 / (6 : Int32)) (irm x5 (6 : Int32))) (fun r6 => if x3 ≤ r6 then ((rec28 (u2 (u2 (u2 Tm 10 ((2 : Int32) * x4).toNatClampNeg (x5 / (6 : Int32))) 10 (((2 : Int32) * x4) + (1 : Int32)).toNatClampNeg (irm x5 (6 : Int32))) 0 21 ((Tm 0 21) + r6)) x1 (0 : Int32) (x4 + (1 : Int32))))
  else ((rec28 (u2 (u2 (u2 Tm 10 ((2 : Int32) * x4).toNatClampNeg (x5 / (6 : Int32))) 10 (((2 : Int32) * x4) + (1 : Int32)).toNatClampNeg (irm x5 (6 : Int32))) 0 21 ((Tm 0 21) + r6)) x1 (x3 - r6) (x4 + (1 : Int32)))))) else none) else none)
  else ((rec45 Tm x1 x3 x4 (x5 + (1 : Int32))))) else none)
noncomputable def lX11_choose_45 (rec28 : Gp → Int32 → Int32 → Int32 → Option (Int32 × Gp)) : Nat → Gp → Int32 → Int32 → Int32 → Int32 → Option (Int32 × Gp) :=
  lpf (fun _ _ _ _ _ => none) (fX11_choose_45 rec28)
noncomputable def fX11_choose_28 (rec28 : Gp → Int32 → Int32 → Int32 → Option (Int32 × Gp)) (Tm : Gp) (x1 : Int32) (x3 : Int32) (x4 : Int32) : Option (Int32 × Gp) :=
  if ((Tm 0 6) * (Tm 0 7)) ≤ x4 then (some ((1 : Int32), Tm))
  else ((lX11_choose_45 rec28 fu Tm x1 x3 x4 (0 : Int32)))
noncomputable def lX11_choose_28  : Nat → Gp → Int32 → Int32 → Int32 → Option (Int32 × Gp) :=
  lpf (fun _ _ _ _ => none) (fX11_choose_28)
noncomputable def fX11_choose (Tm : Gp) (x1 : Int32) (x2 : Int32) : Option (Int32 × Gp) :=
  bd1 (fX11_layWorths Tm x1 x2) (fun Tm_1 => if ix x2 5025 then (if (Tm_1 9 x2.toNatClampNeg) = (-1 : Int32) then (some ((0 : Int32), Tm_1))
  else ((lX11_choose_28 fu (u2 Tm_1 0 21 (0 : Int32)) x1 x2 (0 : Int32)))) else none)
noncomputable def fX11_isPlan (x0 : Int32) (x1 : Int32) : Option (Int32) :=
  bd1 (fX11_in x0.toInt64 (0 : Int64) (1 : Int64)) (fun r1 => if r1 = 0 then (some ((0 : Int32)))
  else (bd1 (fX11_in x1.toInt64 (0 : Int64) (200 : Int64)) (fun r3 => if r3 = 0 then (some ((0 : Int32)))
  else (some ((1 : Int32))))))
noncomputable def fX11_plan (Tm : Gp) (x1 : Int32) (x2 : Int32) (x3 : Int32) : Option (Int32 × Gp) :=
  bd1 (fX11_isPlan x1 x2) (fun r1 => if r1 = 0 then (some ((-3 : Int32), Tm))
  else (bd1 (fX11_in x3.toInt64 (0 : Int64) (1 : Int64)) (fun r3 => if r3 = 0 then (some ((-3 : Int32), Tm))
  else (bd2 (fX11_choose Tm x1 x2) (fun r5 Tm_6 => if r5 = 0 then (some ((-1 : Int32), Tm_6))
  else (if x3 = 0 then (if ix x2 5025 then (some ((Tm_6 9 x2.toNatClampNeg), Tm_6)) else none)
  else (some ((Tm_6 0 21), Tm_6))))))))
noncomputable def fX11_planned (Tm : Gp) (x1 : Int32) (x2 : Int32) (x3 : Int32) (x4 : Int32) (x5 : Int32) : Option (Int32 × Gp) :=
  bd1 (fX11_isValley x3) (fun r1 => if r1 = 0 then (some ((-2 : Int32), Tm))
  else (bd1 (fX11_isPair Tm x4) (fun r3 => if r3 = 0 then (some ((-2 : Int32), Tm))
  else (bd1 (fX11_isHour Tm x5) (fun r5 => if r5 = 0 then (some ((-2 : Int32), Tm))
  else (bd1 (fX11_isPlan x1 x2) (fun r7 => if r7 = 0 then (some ((-3 : Int32), Tm))
  else (bd2 (fX11_choose Tm x1 x2) (fun r9 Tm_10 => if r9 = 0 then (some ((-1 : Int32), Tm_10))
  else (if ix (((2 : Int32) * (((Tm_10 0 7) * x4) + x5)) + x3) 48 then (some ((Tm_10 10 (((2 : Int32) * (((Tm_10 0 7) * x4) + x5)) + x3).toNatClampNeg), Tm_10)) else none))))))))))
noncomputable def fX11_classAt (x0 : Int32) (x1 : Int32) : Option (Int32) :=
  some (((x0 >>> (((2 : Int32) * x1) &&& 31)) &&& (3 : Int32)))
noncomputable def fX11_news_253 (rec253 : Gp → Int32 → Int32 → Option (Int32 × Gp)) (Tm : Gp) (x5 : Int32) (x6 : Int32) : Option (Int32 × Gp) :=
  if (4 : Int32) ≤ x6 then (if x5 < (268435456 : Int32) then (some (x5, Tm))
  else (some ((-1 : Int32), Tm)))
  else (if ix x6 4 then (if x5 ≤ (Tm 11 x6.toNatClampNeg) then ((rec253 Tm x5 (x6 + (1 : Int32))))
  else (if ix x6 4 then ((rec253 Tm (Tm 11 x6.toNatClampNeg) (x6 + (1 : Int32)))) else none)) else none)
noncomputable def lX11_news_253  : Nat → Gp → Int32 → Int32 → Option (Int32 × Gp) :=
  lpf (fun _ _ _ => none) (fX11_news_253)
noncomputable def fX11_news_214 (rec63 : Gp → Int32 → Int32 → Int32 → Int32 → Int32 → Option (Int32 × Gp)) (rec214 : Gp → Int32 → Int32 → Int32 → Int32 → Int32 → Int32 → Option (Int32 × Gp)) (Tm : Gp) (x1 : Int32) (x2 : Int32) (x3 : Int32) (x4 : Int32) (x5 : Int32) (x6 : Int32) : Option (Int32 × Gp) :=
  if (4 : Int32) ≤ x6 then ((rec63 Tm x1 x2 x3 x4 (x5 + (1 : Int32))))
  else (if ix x6 4 then (if ix x6 4 then ((rec214 (u2 Tm 11 x6.toNatClampNeg (Tm 12 x6.toNatClampNeg)) x1 x2 x3 x4 x5 (x6 + (1 : Int32)))) else none) else none)
noncomputable def lX11_news_214 (rec63 : Gp → Int32 → Int32 → Int32 → Int32 → Int32 → Option (Int32 × Gp)) : Nat → Gp → Int32 → Int32 → Int32 → Int32 → Int32 → Int32 → Option (Int32 × Gp) :=
  lpf (fun _ _ _ _ _ _ _ => none) (fX11_news_214 rec63)
noncomputable def fX11_news_191 (rec63 : Gp → Int32 → Int32 → Int32 → Int32 → Int32 → Option (Int32 × Gp)) (rec72 : Gp → Int32 → Int32 → Int32 → Int32 → Int32 → Int32 → Option (Int32 × Gp)) (rec90 : Gp → Int32 → Int32 → Int32 → Int32 → Int32 → Int32 → Int32 → Option (Int32 × Gp)) (Tm : Gp) (x1 : Int32) (x2 : Int32) (x3 : Int32) (x4 : Int32) (x5 : Int32) (x6 : Int32) (x7 : Int32) (y1 : Int32) : Option (Int32 × Gp) :=
  if ix x6 4 then (if ix y1 4 then ((rec90 (u2 Tm 12 y1.toNatClampNeg (Tm 12 x6.toNatClampNeg)) x1 x2 x3 x4 x5 x6 (x7 + (1 : Int32)))) else none) else none
noncomputable def fX11_news_161 (rec63 : Gp → Int32 → Int32 → Int32 → Int32 → Int32 → Option (Int32 × Gp)) (rec72 : Gp → Int32 → Int32 → Int32 → Int32 → Int32 → Int32 → Option (Int32 × Gp)) (rec90 : Gp → Int32 → Int32 → Int32 → Int32 → Int32 → Int32 → Int32 → Option (Int32 × Gp)) (Tm : Gp) (x1 : Int32) (x2 : Int32) (x3 : Int32) (x4 : Int32) (x5 : Int32) (x6 : Int32) (x7 : Int32) (x8 : Int32) (y0 : Int32) : Option (Int32 × Gp) :=
  if y0 = 0 then ((fX11_news_191 rec63 rec72 rec90 Tm x1 x2 x3 x4 x5 x6 x7 x6))
  else (if ix x6 4 then (if (Tm 12 x6.toNatClampNeg) ≤ x8 then ((fX11_news_191 rec63 rec72 rec90 Tm x1 x2 x3 x4 x5 x6 x7 x6))
  else (if ix x6 4 then ((rec90 (u2 Tm 12 x6.toNatClampNeg x8) x1 x2 x3 x4 x5 x6 (x7 + (1 : Int32)))) else none)) else none)
noncomputable def fX11_news_151 (rec63 : Gp → Int32 → Int32 → Int32 → Int32 → Int32 → Option (Int32 × Gp)) (rec72 : Gp → Int32 → Int32 → Int32 → Int32 → Int32 → Int32 → Option (Int32 × Gp)) (rec90 : Gp → Int32 → Int32 → Int32 → Int32 → Int32 → Int32 → Int32 → Option (Int32 × Gp)) (Tm : Gp) (x1 : Int32) (x2 : Int32) (x3 : Int32) (x4 : Int32) (x5 : Int32) (x6 : Int32) (x7 : Int32) (x8 : Int32) (y0 : Int32) : Option (Int32 × Gp) :=
  if y0 = x4 then ((fX11_news_161 rec63 rec72 rec90 Tm x1 x2 x3 x4 x5 x6 x7 x8 (1 : Int32)))
  else ((fX11_news_161 rec63 rec72 rec90 Tm x1 x2 x3 x4 x5 x6 x7 x8 (0 : Int32)))
noncomputable def fX11_news_133 (rec63 : Gp → Int32 → Int32 → Int32 → Int32 → Int32 → Option (Int32 × Gp)) (rec72 : Gp → Int32 → Int32 → Int32 → Int32 → Int32 → Int32 → Option (Int32 × Gp)) (rec90 : Gp → Int32 → Int32 → Int32 → Int32 → Int32 → Int32 → Int32 → Option (Int32 × Gp)) (Tm : Gp) (x1 : Int32) (x2 : Int32) (x3 : Int32) (x4 : Int32) (x5 : Int32) (x6 : Int32) (x7 : Int32) (y0 : Int32) : Option (Int32 × Gp) :=
  bd1 (fX11_classAt x1 x5) (fun r1 => if r1 = x6 then ((fX11_news_151 rec63 rec72 rec90 Tm x1 x2 x3 x4 x5 x6 x7 y0 (1 : Int32)))
  else ((fX11_news_151 rec63 rec72 rec90 Tm x1 x2 x3 x4 x5 x6 x7 y0 (0 : Int32))))
noncomputable def fX11_news_90 (rec63 : Gp → Int32 → Int32 → Int32 → Int32 → Int32 → Option (Int32 × Gp)) (rec72 : Gp → Int32 → Int32 → Int32 → Int32 → Int32 → Int32 → Option (Int32 × Gp)) (rec90 : Gp → Int32 → Int32 → Int32 → Int32 → Int32 → Int32 → Int32 → Option (Int32 × Gp)) (Tm : Gp) (x1 : Int32) (x2 : Int32) (x3 : Int32) (x4 : Int32) (x5 : Int32) (x6 : Int32) (x7 : Int32) : Option (Int32 × Gp) :=
  if (4 : Int32) ≤ x7 then ((rec72 Tm x1 x2 x3 x4 x5 (x6 + (1 : Int32))))
  else (if x6 = x7 then (if ix x7 4 then ((fX11_news_133 rec63 rec72 rec90 Tm x1 x2 x3 x4 x5 x6 x7 (Tm 11 x7.toNatClampNeg))) else none)
  else (if x5 < x3 then ((fX11_news_133 rec63 rec72 rec90 Tm x1 x2 x3 x4 x5 x6 x7 (268435456 : Int32)))
  else (if ix x7 4 then ((fX11_news_133 rec63 rec72 rec90 Tm x1 x2 x3 x4 x5 x6 x7 ((Tm 11 x7.toNatClampNeg) + (1 : Int32)))) else none)))
noncomputable def lX11_news_90 (rec63 : Gp → Int32 → Int32 → Int32 → Int32 → Int32 → Option (Int32 × Gp)) (rec72 : Gp → Int32 → Int32 → Int32 → Int32 → Int32 → Int32 → Option (Int32 × Gp)) : Nat → Gp → Int32 → Int32 → Int32 → Int32 → Int32 → Int32 → Int32 → Option (Int32 × Gp) :=
  lpf (fun _ _ _ _ _ _ _ _ => none) (fX11_news_90 rec63 rec72)
noncomputable def fX11_news_72 (rec63 : Gp → Int32 → Int32 → Int32 → Int32 → Int32 → Option (Int32 × Gp)) (rec72 : Gp → Int32 → Int32 → Int32 → Int32 → Int32 → Int32 → Option (Int32 × Gp)) (Tm : Gp) (x1 : Int32) (x2 : Int32) (x3 : Int32) (x4 : Int32) (x5 : Int32) (x6 : Int32) : Option (Int32 × Gp) :=
  if (4 : Int32) ≤ x6 then ((lX11_news_214 rec63 fu Tm x1 x2 x3 x4 x5 (0 : Int32)))
  else (if ix x6 4 then ((lX11_news_90 rec63 rec72 fu (u2 Tm 12 x6.toNatClampNeg (268435456 : Int32)) x1 x2 x3 x4 x5 x6 (0 : Int32))) else none)
noncomputable def lX11_news_72 (rec63 : Gp → Int32 → Int32 → Int32 → Int32 → Int32 → Option (Int32 × Gp)) : Nat → Gp → Int32 → Int32 → Int32 → Int32 → Int32 → Int32 → Option (Int32 × Gp) :=
  lpf (fun _ _ _ _ _ _ _ => none) (fX11_news_72 rec63)
noncomputable def fX11_news_63 (rec63 : Gp → Int32 → Int32 → Int32 → Int32 → Int32 → Option (Int32 × Gp)) (Tm : Gp) (x1 : Int32) (x2 : Int32) (x3 : Int32) (x4 : Int32) (x5 : Int32) : Option (Int32 × Gp) :=
  if x2 ≤ x5 then ((lX11_news_253 fu Tm (268435456 : Int32) (0 : Int32)))
  else ((lX11_news_72 rec63 fu Tm x1 x2 x3 x4 x5 (0 : Int32)))
noncomputable def lX11_news_63  : Nat → Gp → Int32 → Int32 → Int32 → Int32 → Int32 → Option (Int32 × Gp) :=
  lpf (fun _ _ _ _ _ _ => none) (fX11_news_63)
noncomputable def fX11_news_30 (rec30 : Gp → Int32 → Int32 → Int32 → Int32 → Int32 → Option (Int32 × Gp)) (Tm : Gp) (x1 : Int32) (x2 : Int32) (x3 : Int32) (x4 : Int32) (x5 : Int32) : Option (Int32 × Gp) :=
  if (4 : Int32) ≤ x5 then ((lX11_news_63 fu Tm x1 x2 x3 x4 (0 : Int32)))
  else (if x5 = 0 then (if ix x5 4 then ((rec30 (u2 Tm 11 x5.toNatClampNeg (0 : Int32)) x1 x2 x3 x4 (x5 + (1 : Int32)))) else none)
  else (if ix x5 4 then ((rec30 (u2 Tm 11 x5.toNatClampNeg (268435456 : Int32)) x1 x2 x3 x4 (x5 + (1 : Int32)))) else none))
noncomputable def lX11_news_30  : Nat → Gp → Int32 → Int32 → Int32 → Int32 → Int32 → Option (Int32 × Gp) :=
  lpf (fun _ _ _ _ _ _ => none) (fX11_news_30)
noncomputable def fX11_news (Tm : Gp) (x1 : Int32) (x2 : Int32) (x3 : Int32) (x4 : Int32) : Option (Int32 × Gp) :=
  bd1 (fX11_in x2.toInt64 (1 : Int64) (12 : Int64)) (fun r1 => if r1 = 0 then (some ((-3 : Int32), Tm))
  else (bd1 (fX11_in x3.toInt64 (0 : Int64) (9 : Int64)) (fun r3 => if r3 = 0 then (some ((-3 : Int32), Tm))
  else ((lX11_news_30 fu Tm x1 x2 x3 x4 (0 : Int32))))))
noncomputable def fX11_harm (Tm : Gp) (x1 : Int32) (x2 : Int32) (x3 : Int32) : Option (Int32 × Gp) :=
  bd1 (fX11_isPair Tm x1) (fun r1 => if r1 = 0 then (some ((-2 : Int32), Tm))
  else (bd1 (fX11_isPair Tm x2) (fun r3 => if r3 = 0 then (some ((-2 : Int32), Tm))
  else (bd1 (fX11_in x3.toInt64 (0 : Int64) (99 : Int64)) (fun r5 => if r5 = 0 then (some ((-3 : Int32), Tm))
  else (if ix (((6 : Int32) * x1) + x2) 36 then (if ix (((6 : Int32) * x1) + x2) 36 then (some ((Tm 13 (((6 : Int32) * x1) + x2).toNatClampNeg), (u2 Tm 13 (((6 : Int32) * x1) + x2).toNatClampNeg x3))) else none) else none))))))
noncomputable def fX11_bits_4 (rec4 : Int32 → Int32 → Int32 → Option (Int32)) (x0 : Int32) (x1 : Int32) (x2 : Int32) : Option (Int32) :=
  if (6 : Int32) ≤ x2 then (some (x1))
  else ((rec4 x0 (x1 + ((x0 >>> (x2 &&& 31)) &&& (1 : Int32))) (x2 + (1 : Int32))))
noncomputable def lX11_bits_4  : Nat → Int32 → Int32 → Int32 → Option (Int32) :=
  lpf (fun _ _ _ => none) (fX11_bits_4)
noncomputable def fX11_bits (x0 : Int32) : Option (Int32) :=
  (lX11_bits_4 fu x0 (0 : Int32) (0 : Int32))
noncomputable def fX11_harmBy_49 (Tm : Gp) (x1 : Int32) (x2 : Int32) (x5 : Int32) (y0 : Int32) : Option (Int32) :=
  if y0 = 0 then (some ((268435456 : Int32)))
  else (if ix (((6 : Int32) * x5) + x2) 36 then (if ix (x1 ||| ((1 : Int32) <<< (x2 &&& 31))) 64 then (some (((Tm 13 (((6 : Int32) * x5) + x2).toNatClampNeg) + (Tm 14 (x1 ||| ((1 : Int32) <<< (x2 &&& 31))).toNatClampNeg)))) else none) else none)
noncomputable def fX11_harmBy_48 (Tm : Gp) (x1 : Int32) (x2 : Int32) (x5 : Int32) : Option (Int32) :=
  (fX11_harmBy_49 Tm x1 x2 x5 (0 : Int32))
noncomputable def fX11_harmBy_44 (Tm : Gp) (x1 : Int32) (x2 : Int32) (x5 : Int32) : Option (Int32) :=
  (fX11_harmBy_49 Tm x1 x2 x5 (1 : Int32))
noncomputable def fX11_harmBy_41 (Tm : Gp) (x1 : Int32) (x2 : Int32) (x5 : Int32) (y0 : Int32) (y1 : Int32) : Option (Int32) :=
  if y0 = y1 then ((fX11_harmBy_44 Tm x1 x2 x5))
  else ((fX11_harmBy_48 Tm x1 x2 x5))
noncomputable def fX11_harmBy_30 (Tm : Gp) (x1 : Int32) (x2 : Int32) (x4 : Int32) (x5 : Int32) (y0 : Int32) : Option (Int32) :=
  if x2 = x4 then ((fX11_harmBy_41 Tm x1 x2 x5 y0 (1 : Int32)))
  else ((fX11_harmBy_41 Tm x1 x2 x5 y0 (0 : Int32)))
noncomputable def fX11_harmBy (Tm : Gp) (x1 : Int32) (x2 : Int32) (x3 : Int32) (x4 : Int32) : Option (Int32) :=
  bd1 (fX11_bits x1) (fun r1 => if ((x1 >>> (x2 &&& 31)) &&& (1 : Int32)) = 0 then (if x3 = (-1 : Int32) then ((fX11_harmBy_44 Tm x1 x2 r1))
  else (if r1 = x3 then ((fX11_harmBy_30 Tm x1 x2 x4 r1 (1 : Int32)))
  else ((fX11_harmBy_30 Tm x1 x2 x4 r1 (0 : Int32)))))
  else ((fX11_harmBy_48 Tm x1 x2 r1)))
noncomputable def fX11_layRests_69 (rec9 : Gp → Int32 → Int32 → Int32 → Option (Int32 × Gp)) (rec35 : Gp → Int32 → Int32 → Int32 → Int32 → Int32 → Option (Int32 × Gp)) (Tm : Gp) (x1 : Int32) (x2 : Int32) (x3 : Int32) (x4 : Int32) (x5 : Int32) (y0 : Int32) : Option (Int32 × Gp) :=
  if x4 ≤ y0 then ((rec35 Tm x1 x2 x3 x4 (x5 + (1 : Int32))))
  else ((rec35 Tm x1 x2 x3 y0 (x5 + (1 : Int32))))
noncomputable def fX11_layRests_35 (rec9 : Gp → Int32 → Int32 → Int32 → Option (Int32 × Gp)) (rec35 : Gp → Int32 → Int32 → Int32 → Int32 → Int32 → Option (Int32 × Gp)) (Tm : Gp) (x1 : Int32) (x2 : Int32) (x3 : Int32) (x4 : Int32) (x5 : Int32) : Option (Int32 × Gp) :=
  if (Tm 0 6) ≤ x5 then (if ix x3 64 then ((rec9 (u2 Tm 14 x3.toNatClampNeg x4) x1 x2 (x3 + (-1 : Int32)))) else none)
  else (bd1 (fX11_bits x3) (fun r2 => if (Tm 0 6) ≤ r2 then ((fX11_layRests_69 rec9 rec35 Tm x1 x2 x3 x4 x5 (268435456 : Int32)))
  else (bd1 (fX11_harmBy Tm x3 x5 x1 x2) (fun r4 => (fX11_layRests_69 rec9 rec35 Tm x1 x2 x3 x4 x5 r4)))))
noncomputable def lX11_layRests_35 (rec9 : Gp → Int32 → Int32 → Int32 → Option (Int32 × Gp)) : Nat → Gp → Int32 → Int32 → Int32 → Int32 → Int32 → Option (Int32 × Gp) :=
  lpf (fun _ _ _ _ _ _ => none) (fX11_layRests_35 rec9)
noncomputable def fX11_layRests_9 (rec9 : Gp → Int32 → Int32 → Int32 → Option (Int32 × Gp)) (Tm : Gp) (x1 : Int32) (x2 : Int32) (x3 : Int32) : Option (Int32 × Gp) :=
  if x3 < 0 then (some ((Tm 14 (0 : Int32).toNatClampNeg), Tm))
  else (bd1 (fX11_bits x3) (fun r1 => if r1 = (Tm 0 6) then ((lX11_layRests_35 rec9 fu Tm x1 x2 x3 (0 : Int32) (0 : Int32)))
  else ((lX11_layRests_35 rec9 fu Tm x1 x2 x3 (268435456 : Int32) (0 : Int32)))))
noncomputable def lX11_layRests_9  : Nat → Gp → Int32 → Int32 → Int32 → Option (Int32 × Gp) :=
  lpf (fun _ _ _ _ => none) (fX11_layRests_9)
noncomputable def fX11_layRests (Tm : Gp) (x1 : Int32) (x2 : Int32) : Option (Int32 × Gp) :=
  (lX11_layRests_9 fu Tm x1 x2 (((1 : Int32) <<< ((Tm 0 6) &&& 31)) - (1 : Int32)))
noncomputable def fX11_anew_40 (rec31 : Gp → Int32 → Int32 → Int32 → Int32 → Int32 → Option (Int32 × Gp)) (rec40 : Gp → Int32 → Int32 → Int32 → Int32 → Int32 → Option (Int32 × Gp)) (Tm : Gp) (x1 : Int32) (x2 : Int32) (x3 : Int32) (x4 : Int32) (x5 : Int32) : Option (Int32 × Gp) :=
  bd1 (fX11_harmBy Tm x3 x4 (-1 : Int32) (-1 : Int32)) (fun r1 => if ix x3 64 then (if r1 = (Tm 14 x3.toNatClampNeg) then ((rec31 Tm x1 x2 (x3 ||| ((1 : Int32) <<< (x4 &&& 31))) x4 (x5 + (1 : Int32))))
  else ((rec40 Tm x1 x2 x3 (x4 + (1 : Int32)) x5))) else none)
noncomputable def lX11_anew_40 (rec31 : Gp → Int32 → Int32 → Int32 → Int32 → Int32 → Option (Int32 × Gp)) : Nat → Gp → Int32 → Int32 → Int32 → Int32 → Int32 → Option (Int32 × Gp) :=
  lpf (fun _ _ _ _ _ _ => none) (fX11_anew_40 rec31)
noncomputable def fX11_anew_31 (rec31 : Gp → Int32 → Int32 → Int32 → Int32 → Int32 → Option (Int32 × Gp)) (Tm : Gp) (x1 : Int32) (x2 : Int32) (x3 : Int32) (x4 : Int32) (x5 : Int32) : Option (Int32 × Gp) :=
  if x1 < x5 then (if x1 = (-1 : Int32) then (some (x2, Tm))
  else (some (x4, Tm)))
  else ((lX11_anew_40 rec31 fu Tm x1 x2 x3 (0 : Int32) x5))
noncomputable def lX11_anew_31  : Nat → Gp → Int32 → Int32 → Int32 → Int32 → Int32 → Option (Int32 × Gp) :=
  lpf (fun _ _ _ _ _ _ => none) (fX11_anew_31)
noncomputable def fX11_anew_16 (Tm : Gp) (x1 : Int32) : Option (Int32 × Gp) :=
  bd2 (fX11_layRests Tm (-1 : Int32) (-1 : Int32)) (fun r1 Tm_2 => (lX11_anew_31 fu Tm_2 x1 r1 (0 : Int32) (-1 : Int32) (0 : Int32)))
noncomputable def fX11_anew (Tm : Gp) (x1 : Int32) : Option (Int32 × Gp) :=
  if x1 = (-1 : Int32) then ((fX11_anew_16 Tm x1))
  else (bd1 (fX11_isPair Tm x1) (fun r1 => if r1 = 0 then (some ((-2 : Int32), Tm))
  else ((fX11_anew_16 Tm x1))))
noncomputable def fX11_forced (Tm : Gp) (x1 : Int32) (x2 : Int32) : Option (Int32 × Gp) :=
  bd1 (fX11_isPair Tm x1) (fun r1 => if r1 = 0 then (some ((-2 : Int32), Tm))
  else (bd1 (fX11_isPair Tm x2) (fun r3 => if r3 = 0 then (some ((-2 : Int32), Tm))
  else (bd2 (fX11_layRests Tm x1 x2) (fun r5 Tm_6 => some (r5, Tm_6))))))
noncomputable def fX11_like (Tm : Gp) (x1 : Int32) (x2 : Int32) (x3 : Int32) (x4 : Int32) : Option (Int32 × Gp) :=
  bd1 (fX11_isValley x1) (fun r1 => if r1 = 0 then (some ((-2 : Int32), Tm))
  else (bd1 (fX11_isPair Tm x2) (fun r3 => if r3 = 0 then (some ((-2 : Int32), Tm))
  else (bd1 (fX11_isPair Tm x3) (fun r5 => if r5 = 0 then (some ((-2 : Int32), Tm))
  else (if x2 = x3 then (some ((-3 : Int32), Tm))
  else (bd1 (fX11_in x4.toInt64 (0 : Int64) (99 : Int64)) (fun r7 => if r7 = 0 then (some ((-3 : Int32), Tm))
  else (if ix ((((36 : Int32) * x1) + ((6 : Int32) * x2)) + x3) 72 then (if ix ((((36 : Int32) * x1) + ((6 : Int32) * x2)) + x3) 72 then (if ix ((((36 : Int32) * x1) + ((6 : Int32) * x3)) + x2) 72 then (some ((Tm 15 ((((36 : Int32) * x1) + ((6 : Int32) * x2)) + x3).toNatClampNeg), (u2 (u2 Tm 15 ((((36 : Int32) * x1) + ((6 : Int32) * x2)) + x3).toNatClampNeg x4) 15 ((((36 : Int32) * x1) + ((6 : Int32) * x3)) + x2).toNatClampNeg x4))) else none) else none) else none)))))))))
noncomputable def fX11_fours_164 (rec15 : Gp → Int32 → Int32 → Option (Int32 × Gp)) (rec30 : Gp → Int32 → Int32 → Int32 → Int32 → Option (Int32 × Gp)) (Tm : Gp) (x1 : Int32) (x2 : Int32) (x3 : Int32) (x4 : Int32) (y0 : Int32) : Option (Int32 × Gp) :=
  if y0 ≤ x3 then ((rec30 Tm x1 x2 x3 (x4 + (1 : Int32))))
  else ((rec30 Tm x1 x2 y0 (x4 + (1 : Int32))))
noncomputable def fX11_fours_125 (rec15 : Gp → Int32 → Int32 → Option (Int32 × Gp)) (rec30 : Gp → Int32 → Int32 → Int32 → Int32 → Option (Int32 × Gp)) (Tm : Gp) (x1 : Int32) (x2 : Int32) (x3 : Int32) (x4 : Int32) (x5 : Int32) (x6 : Int32) (x7 : Int32) (y0 : Int32) : Option (Int32 × Gp) :=
  if x7 = 0 then ((fX11_fours_164 rec15 rec30 Tm x1 x2 x3 x4 (0 : Int32)))
  else (if ix ((x2 &&& (((1 : Int32) <<< (x5 &&& 31)) ^^^ (-1 : Int32))) &&& (((1 : Int32) <<< (x6 &&& 31)) ^^^ (-1 : Int32))) 64 then ((fX11_fours_164 rec15 rec30 Tm x1 x2 x3 x4 (((Tm 16 ((x2 &&& (((1 : Int32) <<< (x5 &&& 31)) ^^^ (-1 : Int32))) &&& (((1 : Int32) <<< (x6 &&& 31)) ^^^ (-1 : Int32))).toNatClampNeg) + ((100 : Int32) * y0)) + (1 : Int32)))) else none)
noncomputable def fX11_fours_83 (rec15 : Gp → Int32 → Int32 → Option (Int32 × Gp)) (rec30 : Gp → Int32 → Int32 → Int32 → Int32 → Option (Int32 × Gp)) (Tm : Gp) (x1 : Int32) (x2 : Int32) (x3 : Int32) (x4 : Int32) (x5 : Int32) (x6 : Int32) (y0 : Int32) : Option (Int32 × Gp) :=
  if ix x4 72 then (if ix ((36 : Int32) + x4) 72 then (if (Tm 15 ((36 : Int32) + x4).toNatClampNeg) ≤ (Tm 15 x4.toNatClampNeg) then (if ix ((36 : Int32) + x4) 72 then ((fX11_fours_125 rec15 rec30 Tm x1 x2 x3 x4 x5 x6 y0 (Tm 15 ((36 : Int32) + x4).toNatClampNeg))) else none)
  else (if ix x4 72 then ((fX11_fours_125 rec15 rec30 Tm x1 x2 x3 x4 x5 x6 y0 (Tm 15 x4.toNatClampNeg))) else none)) else none) else none
noncomputable def fX11_fours_82 (rec15 : Gp → Int32 → Int32 → Option (Int32 × Gp)) (rec30 : Gp → Int32 → Int32 → Int32 → Int32 → Option (Int32 × Gp)) (Tm : Gp) (x1 : Int32) (x2 : Int32) (x3 : Int32) (x4 : Int32) (x5 : Int32) (x6 : Int32) : Option (Int32 × Gp) :=
  (fX11_fours_83 rec15 rec30 Tm x1 x2 x3 x4 x5 x6 (0 : Int32))
noncomputable def fX11_fours_30 (rec15 : Gp → Int32 → Int32 → Option (Int32 × Gp)) (rec30 : Gp → Int32 → Int32 → Int32 → Int32 → Option (Int32 × Gp)) (Tm : Gp) (x1 : Int32) (x2 : Int32) (x3 : Int32) (x4 : Int32) : Option (Int32 × Gp) :=
  if (36 : Int32) ≤ x4 then (if ix x2 64 then ((rec15 (u2 Tm 16 x2.toNatClampNeg x3) x1 (x2 + (1 : Int32)))) else none)
  else (if (irm x4 (6 : Int32)) ≤ (x4 / (6 : Int32)) then ((fX11_fours_82 rec15 rec30 Tm x1 x2 x3 x4 (x4 / (6 : Int32)) (irm x4 (6 : Int32))))
  else (if ((x2 >>> ((x4 / (6 : Int32)) &&& 31)) &&& (1 : Int32)) = (1 : Int32) then (if ((x2 >>> ((irm x4 (6 : Int32)) &&& 31)) &&& (1 : Int32)) = (1 : Int32) then ((fX11_fours_83 rec15 rec30 Tm x1 x2 x3 x4 (x4 / (6 : Int32)) (irm x4 (6 : Int32)) (1 : Int32)))
  else ((fX11_fours_82 rec15 rec30 Tm x1 x2 x3 x4 (x4 / (6 : Int32)) (irm x4 (6 : Int32)))))
  else ((fX11_fours_82 rec15 rec30 Tm x1 x2 x3 x4 (x4 / (6 : Int32)) (irm x4 (6 : Int32))))))
noncomputable def lX11_fours_30 (rec15 : Gp → Int32 → Int32 → Option (Int32 × Gp)) : Nat → Gp → Int32 → Int32 → Int32 → Int32 → Option (Int32 × Gp) :=
  lpf (fun _ _ _ _ _ => none) (fX11_fours_30 rec15)
noncomputable def fX11_fours_15 (rec15 : Gp → Int32 → Int32 → Option (Int32 × Gp)) (Tm : Gp) (x1 : Int32) (x2 : Int32) : Option (Int32 × Gp) :=
  if ((1 : Int32) <<< ((Tm 0 6) &&& 31)) ≤ x2 then (if ix (((1 : Int32) <<< ((Tm 0 6) &&& 31)) - (1 : Int32)) 64 then (if x1 = 0 then (some (((Tm 16 (((1 : Int32) <<< ((Tm 0 6) &&& 31)) - (1 : Int32)).toNatClampNeg) / (100 : Int32)), Tm))
  else (some ((irm (Tm 16 (((1 : Int32) <<< ((Tm 0 6) &&& 31)) - (1 : Int32)).toNatClampNeg) (100 : Int32)), Tm))) else none)
  else ((lX11_fours_30 rec15 fu Tm x1 x2 (0 : Int32) (0 : Int32)))
noncomputable def lX11_fours_15  : Nat → Gp → Int32 → Int32 → Option (Int32 × Gp) :=
  lpf (fun _ _ _ => none) (fX11_fours_15)
noncomputable def fX11_fours (Tm : Gp) (x1 : Int32) : Option (Int32 × Gp) :=
  bd1 (fX11_in x1.toInt64 (0 : Int64) (1 : Int64)) (fun r1 => if r1 = 0 then (some ((-3 : Int32), Tm))
  else ((lX11_fours_15 fu Tm x1 (0 : Int32))))
noncomputable def fX11_record_29 (Tm : Gp) (y1 : Int32) (y2 : Int32) : Option (Int32 × Gp) :=
  if ix y1 40 then (some (((Tm 0 29) + (1 : Int32)), (u2 (u2 Tm 17 y1.toNatClampNeg y2) 0 29 ((Tm 0 29) + (1 : Int32))))) else none
noncomputable def fX11_record (Tm : Gp) (x1 : Int32) : Option (Int32 × Gp) :=
  if (Tm 0 29) = (40 : Int32) then (some ((-5 : Int32), Tm))
  else (if x1 = 0 then ((fX11_record_29 Tm (Tm 0 29) (0 : Int32)))
  else ((fX11_record_29 Tm (Tm 0 29) (1 : Int32))))
noncomputable def fX11_burn (Tm : Gp) : Option (Int32 × Gp) :=
  some ((Tm 0 29), (u2 Tm 0 29 (0 : Int32)))
noncomputable def fX11_stays_44 (Tm : Gp) (x3 : Int32) (y0 : Int32) (y1 : Int32) (y2 : Int32) : Option (Int32) :=
  if y1 = y2 then (some ((y0 + (0 : Int32))))
  else (some ((y0 + ((100 : Int32) * x3))))
noncomputable def fX11_stays_13 (Tm : Gp) (x1 : Int32) (x2 : Int32) (x3 : Int32) (y0 : Int32) : Option (Int32) :=
  if ix ((((2 : Int32) * x1) + (2 : Int32)) + x2) 82 then (if ix x1 40 then (if (Tm 17 x1.toNatClampNeg) = (1 : Int32) then ((fX11_stays_44 Tm x3 (Tm 18 ((((2 : Int32) * x1) + (2 : Int32)) + x2).toNatClampNeg) y0 (1 : Int32)))
  else ((fX11_stays_44 Tm x3 (Tm 18 ((((2 : Int32) * x1) + (2 : Int32)) + x2).toNatClampNeg) y0 (0 : Int32)))) else none) else none
noncomputable def fX11_stays (Tm : Gp) (x1 : Int32) (x2 : Int32) (x3 : Int32) : Option (Int32) :=
  if (irm (x1 + x2) (2 : Int32)) = 0 then ((fX11_stays_13 Tm x1 x2 x3 (1 : Int32)))
  else ((fX11_stays_13 Tm x1 x2 x3 (0 : Int32)))
noncomputable def fX11_slipped (Tm : Gp) (x1 : Int32) (x2 : Int32) (x3 : Int32) (x4 : Int32) : Option (Int32) :=
  if x1 = 0 then (some ((268435456 : Int32)))
  else (bd1 (fX11_stays Tm x1 ((1 : Int32) - x2) x4) (fun r1 => some (((r1 + ((100 : Int32) * x3)) + (1 : Int32)))))
noncomputable def fX11_slips_182 (rec182 : Gp → Int32 → Int32 → Option (Int32 × Gp)) (Tm : Gp) (x2 : Int32) (x4 : Int32) : Option (Int32 × Gp) :=
  if (Tm 0 29) ≤ x4 then (some ((-1 : Int32), Tm))
  else (bd1 (fX11_stays Tm x4 (0 : Int32) x2) (fun r1 => if ix ((2 : Int32) * x4) 82 then (if r1 = (Tm 18 ((2 : Int32) * x4).toNatClampNeg) then ((rec182 Tm x2 (x4 + (1 : Int32))))
  else (some (x4, Tm))) else none))
noncomputable def lX11_slips_182  : Nat → Gp → Int32 → Int32 → Option (Int32 × Gp) :=
  lpf (fun _ _ _ => none) (fX11_slips_182)
noncomputable def fX11_slips_81 (rec73 : Gp → Int32 → Int32 → Int32 → Int32 → Option (Int32 × Gp)) (rec81 : Gp → Int32 → Int32 → Int32 → Int32 → Int32 → Option (Int32 × Gp)) (Tm : Gp) (x1 : Int32) (x2 : Int32) (x3 : Int32) (x4 : Int32) (x5 : Int32) : Option (Int32 × Gp) :=
  if (2 : Int32) ≤ x5 then ((rec73 Tm x1 x2 x3 (x4 + (-1 : Int32))))
  else (bd1 (fX11_stays Tm x4 x5 x2) (fun r1 => bd1 (fX11_slipped Tm x4 x5 x1 x2) (fun r3 => if r1 ≤ r3 then (if ix (((2 : Int32) * x4) + x5) 82 then ((rec81 (u2 Tm 18 (((2 : Int32) * x4) + x5).toNatClampNeg r1) x1 x2 x3 x4 (x5 + (1 : Int32)))) else none)
  else (if ix (((2 : Int32) * x4) + x5) 82 then ((rec81 (u2 Tm 18 (((2 : Int32) * x4) + x5).toNatClampNeg r3) x1 x2 x3 x4 (x5 + (1 : Int32)))) else none))))
noncomputable def lX11_slips_81 (rec73 : Gp → Int32 → Int32 → Int32 → Int32 → Option (Int32 × Gp)) : Nat → Gp → Int32 → Int32 → Int32 → Int32 → Int32 → Option (Int32 × Gp) :=
  lpf (fun _ _ _ _ _ _ => none) (fX11_slips_81 rec73)
noncomputable def fX11_slips_73 (rec73 : Gp → Int32 → Int32 → Int32 → Int32 → Option (Int32 × Gp)) (Tm : Gp) (x1 : Int32) (x2 : Int32) (x3 : Int32) (x4 : Int32) : Option (Int32 × Gp) :=
  if x4 < 0 then (if (2 : Int32) ≤ x3 then ((lX11_slips_182 fu Tm x2 (0 : Int32)))
  else (if x3 = 0 then (some (((Tm 18 (0 : Int32).toNatClampNeg) / (100 : Int32)), Tm))
  else (some ((irm (Tm 18 (0 : Int32).toNatClampNeg) (100 : Int32)), Tm))))
  else ((lX11_slips_81 rec73 fu Tm x1 x2 x3 x4 (0 : Int32)))
noncomputable def lX11_slips_73  : Nat → Gp → Int32 → Int32 → Int32 → Int32 → Option (Int32 × Gp) :=
  lpf (fun _ _ _ _ _ => none) (fX11_slips_73)
noncomputable def fX11_slips (Tm : Gp) (x1 : Int32) (x2 : Int32) (x3 : Int32) : Option (Int32 × Gp) :=
  bd1 (fX11_in x1.toInt64 (1 : Int64) (9 : Int64)) (fun r1 => if r1 = 0 then (some ((-3 : Int32), Tm))
  else (bd1 (fX11_in x2.toInt64 (1 : Int64) (9 : Int64)) (fun r3 => if r3 = 0 then (some ((-3 : Int32), Tm))
  else (bd1 (fX11_in x3.toInt64 (0 : Int64) (2 : Int64)) (fun r5 => if r5 = 0 then (some ((-3 : Int32), Tm))
  else (if ix ((2 : Int32) * (Tm 0 29)) 82 then (if ix (((2 : Int32) * (Tm 0 29)) + (1 : Int32)) 82 then ((lX11_slips_73 fu (u2 (u2 Tm 18 ((2 : Int32) * (Tm 0 29)).toNatClampNeg (0 : Int32)) 18 (((2 : Int32) * (Tm 0 29)) + (1 : Int32)).toNatClampNeg (0 : Int32)) x1 x2 x3 ((Tm 0 29) - (1 : Int32)))) else none) else none))))))
noncomputable def fX11_copy_2 (rec2 : Gp → Int32 → Int32 → Int32 → Option (Gp)) (Tm : Gp) (x1 : Int32) (x2 : Int32) (x3 : Int32) : Option (Gp) :=
  if (87 : Int32) ≤ x3 then (some (Tm))
  else (if ix (((87 : Int32) * x1) + x3) 261 then (if ix (((87 : Int32) * x2) + x3) 261 then ((rec2 (u2 Tm 1 (((87 : Int32) * x2) + x3).toNatClampNeg (Tm 1 (((87 : Int32) * x1) + x3).toNatClampNeg)) x1 x2 (x3 + (1 : Int32)))) else none) else none)
noncomputable def lX11_copy_2  : Nat → Gp → Int32 → Int32 → Int32 → Option (Gp) :=
  lpf (fun _ _ _ _ => none) (fX11_copy_2)
noncomputable def fX11_copy (Tm : Gp) (x1 : Int32) (x2 : Int32) : Option (Gp) :=
  (lX11_copy_2 fu Tm x1 x2 (0 : Int32))
noncomputable def fX11_keep (Tm : Gp) (x1 : Int32) : Option (Int32 × Gp) :=
  bd1 (fX11_in x1.toInt64 (0 : Int64) (1 : Int64)) (fun r1 => if r1 = 0 then (some ((-2 : Int32), Tm))
  else (bd1 (fX11_copy Tm (0 : Int32) ((1 : Int32) + x1)) (fun Tm_3 => if ix x1 2 then (some ((Tm_3 1 (0 : Int32).toNatClampNeg), (u2 Tm_3 2 x1.toNatClampNeg (vp_nar .boolean (1 : Int32))))) else none)))
noncomputable def fX11_back (Tm : Gp) (x1 : Int32) : Option (Int32 × Gp) :=
  bd1 (fX11_in x1.toInt64 (0 : Int64) (1 : Int64)) (fun r1 => if r1 = 0 then (some ((-2 : Int32), Tm))
  else (if ix x1 2 then (if (Tm 2 x1.toNatClampNeg) = 0 then (some ((-4 : Int32), Tm))
  else (bd1 (fX11_copy Tm ((1 : Int32) + x1) (0 : Int32)) (fun Tm_4 => some ((Tm_4 1 (0 : Int32).toNatClampNeg), Tm_4)))) else none))
noncomputable def fX11_count (Tm : Gp) (x1 : Int32) : Option (Int32) :=
  if x1 = (0 : Int32) then (some ((Tm 0 6)))
  else (if x1 = (1 : Int32) then (some ((Tm 0 7)))
  else (if x1 = (2 : Int32) then (some ((Tm 0 11)))
  else (if x1 = (3 : Int32) then (some ((Tm 0 12)))
  else (if x1 = (4 : Int32) then (some ((Tm 1 (0 : Int32).toNatClampNeg)))
  else (if x1 = (5 : Int32) then (some ((Tm 0 29)))
  else (if x1 = (6 : Int32) then (some ((Tm 0 3)))
  else (bd1 (fX11_in x1.toInt64 (7 : Int64) (12 : Int64)) (fun r8 => if r8 = 0 then (some ((-3 : Int32)))
  else (bd1 (fX11_isPair Tm (x1 - (7 : Int32))) (fun r10 => if r10 = 0 then (some ((-1 : Int32)))
  else (if ix (x1 - (7 : Int32)) 6 then (some ((Tm 6 (x1 - (7 : Int32)).toNatClampNeg))) else none)))))))))))
