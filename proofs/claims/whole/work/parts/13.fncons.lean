noncomputable def sX9_init : Gp := (fun _ _ => 0 : Gp)
noncomputable def fX9_init : Option Gp :=
  bd1 (fX9_settle (u2 sX9_init 0 3 (1 : Int32)) (2 : Int32) (2 : Int32)) (fun Tt_1 => some (Tt_1))
noncomputable def sX0_init : Gp := (fun _ _ => 0 : Gp)
noncomputable def fX0_init : Option Gp :=
  bd1 (fX0_beginAnew sX0_init) (fun Td_1 => some (Td_1))
noncomputable def sX7_init : Gp := (fun _ _ => 0 : Gp)
noncomputable def fX7_init : Option Gp :=
  some (sX7_init)
noncomputable def sX8_init : Gp := (fun _ _ => 0 : Gp)
noncomputable def fX8_init : Option Gp :=
  some (sX8_init)
noncomputable def sX5_init : Gp := (fun _ _ => 0 : Gp)
noncomputable def fX5_init : Option Gp :=
  some (sX5_init)
noncomputable def sX3_init : Gp := (fun _ _ => 0 : Gp)
noncomputable def fX3_init : Option Gp :=
  some (sX3_init)
noncomputable def sX4_init : Gp := (fun _ _ => 0 : Gp)
noncomputable def fX4_init : Option Gp :=
  some (sX4_init)
noncomputable def sX2_init : Gp := (fun _ _ => 0 : Gp)
noncomputable def fX2_init : Option Gp :=
  some (sX2_init)
noncomputable def sX6_init : Gp := (fun _ _ => 0 : Gp)
noncomputable def fX6_init : Option Gp :=
  some (sX6_init)
noncomputable def sX11_init : Gp := (u2 (u2 (u2 (fun _ _ => 0 : Gp) 0 6 (2 : Int32)) 0 7 (2 : Int32)) 0 12 (1 : Int32))
noncomputable def fX11_init_173 (rec173 : Gp → Int32 → Option (Gp)) (Tm : Gp) (x1 : Int32) : Option (Gp) :=
  if (96 : Int32) ≤ x1 then (bd1 (fX11_begin Tm) (fun Tm_1 => some (Tm_1)))
  else (if ix x1 96 then ((rec173 (u2 Tm 7 x1.toNatClampNeg (5 : Int32)) (x1 + (1 : Int32)))) else none)
noncomputable def lX11_init_173  : Nat → Gp → Int32 → Option (Gp) :=
  lpf (fun _ _ => none) (fX11_init_173)
noncomputable def fX11_init : Option Gp :=
  (lX11_init_173 fu (u2 sX11_init 5 (20 : Int32).toNatClampNeg (4 : Int32)) (0 : Int32))
