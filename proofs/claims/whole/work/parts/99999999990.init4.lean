/-! ===== constructors: the class, the reference (written by program) ===== -/
def y12R (t : List (Nat × Nat × Option Nat)) : List (Nat × Nat × Option Nat) := (230, 69, some 269) :: (230, 65, some 268) :: (230, 64, some 267) :: (230, 63, some 266) :: (230, 62, some 265) :: (230, 61, some 264) :: (230, 60, some 263) :: (230, 59, some 262) :: (230, 56, some 261) :: (230, 55, some 260) :: (230, 54, some 259) :: (230, 52, some 258) :: (230, 51, some 257) :: (230, 50, some 256) :: (230, 44, some 255) :: (230, 43, some 254) :: (230, 42, some 253) :: (230, 41, some 252) :: (230, 40, some 251) :: (230, 39, some 250) :: (230, 37, some 249) :: (230, 36, some 248) :: (230, 35, some 247) :: (230, 31, some 246) :: (230, 30, some 245) :: (230, 28, some 244) :: (230, 27, some 243) :: (230, 17, some 242) :: (230, 16, some 241) :: (230, 15, some 240) :: (230, 14, some 239) :: (230, 13, some 238) :: (230, 12, some 237) :: (230, 11, some 236) :: (230, 10, some 235) :: (230, 9, some 234) :: (230, 5, some 233) :: (230, 4, some 232) :: (230, 3, some 231) :: t
def y12I (t : List (Nat × Nat × Int32)) : List (Nat × Nat × Int32) := (230, 8, -1) :: (230, 7, -1) :: t
section INIT4
variable {pl L : Nat} {tR : List (Nat × Nat × Option Nat)} {tI : List (Nat × Nat × Int32)} {B M : Mem} {P : Unit → Mem → Prop}
/-- the rows of the reference -/
theorem y_i12h {i1 i2 : Int32} (h : St pl L 231 tR tI B M) (K : ∀ M', St pl L 270 (y12R tR) (y12I tI) B M' → FQ (if (2 : Int32) ≤ i1 then (if i1 ≤ (4 : Int32) then f_X12_init_361 (some 230) i2 (some 230) i1 M' else f_X12_init_361 (some 230) i2 (some 230) (4 : Int32) M') else f_X12_init_361 (some 230) i2 (some 230) (2 : Int32) M') P) : FQ (f_X12_init (some 230) i1 i2 M) P := by
  unfold f_X12_init
  refine i_cN ?_
  refine i_nA (n := 240) h rfl (by decide) (by decide) rfl (by decide) fun M1 h1 => ?_
  refine i_pR h1 rfl (by decide) (by decide) fun M2 h2 => ?_
  refine i_nA (n := 240) h2 rfl (by decide) (by decide) rfl (by decide) fun M3 h3 => ?_
  refine i_pR h3 rfl (by decide) (by decide) fun M4 h4 => ?_
  refine i_nA (n := 300) h4 rfl (by decide) (by decide) rfl (by decide) fun M5 h5 => ?_
  refine i_pR h5 rfl (by decide) (by decide) fun M6 h6 => ?_
  refine i_pI h6 rfl (by decide) (by decide) fun M7 h7 => ?_
  refine i_pI h7 rfl (by decide) (by decide) fun M8 h8 => ?_
  refine i_nA (n := 6) h8 rfl (by decide) (by decide) rfl (by decide) fun M9 h9 => ?_
  refine i_pR h9 rfl (by decide) (by decide) fun M10 h10 => ?_
  refine i_nA (n := 120) h10 rfl (by decide) (by decide) rfl (by decide) fun M11 h11 => ?_
  refine i_pR h11 rfl (by decide) (by decide) fun M12 h12 => ?_
  refine i_nA (n := 120) h12 rfl (by decide) (by decide) rfl (by decide) fun M13 h13 => ?_
  refine i_pR h13 rfl (by decide) (by decide) fun M14 h14 => ?_
  refine i_nA (n := 120) h14 rfl (by decide) (by decide) rfl (by decide) fun M15 h15 => ?_
  refine i_pR h15 rfl (by decide) (by decide) fun M16 h16 => ?_
  refine i_nA (n := 120) h16 rfl (by decide) (by decide) rfl (by decide) fun M17 h17 => ?_
  refine i_pR h17 rfl (by decide) (by decide) fun M18 h18 => ?_
  refine i_nA (n := 120) h18 rfl (by decide) (by decide) rfl (by decide) fun M19 h19 => ?_
  refine i_pR h19 rfl (by decide) (by decide) fun M20 h20 => ?_
  refine i_nA (n := 120) h20 rfl (by decide) (by decide) rfl (by decide) fun M21 h21 => ?_
  refine i_pR h21 rfl (by decide) (by decide) fun M22 h22 => ?_
  refine i_nA (n := 2400) h22 rfl (by decide) (by decide) rfl (by decide) fun M23 h23 => ?_
  refine i_pR h23 rfl (by decide) (by decide) fun M24 h24 => ?_
  refine i_nA (n := 2400) h24 rfl (by decide) (by decide) rfl (by decide) fun M25 h25 => ?_
  refine i_pR h25 rfl (by decide) (by decide) fun M26 h26 => ?_
  refine i_nA (n := 40) h26 rfl (by decide) (by decide) rfl (by decide) fun M27 h27 => ?_
  refine i_pR h27 rfl (by decide) (by decide) fun M28 h28 => ?_
  refine i_nA (n := 41) h28 rfl (by decide) (by decide) rfl (by decide) fun M29 h29 => ?_
  refine i_pR h29 rfl (by decide) (by decide) fun M30 h30 => ?_
  refine i_nA (n := 80) h30 rfl (by decide) (by decide) rfl (by decide) fun M31 h31 => ?_
  refine i_pR h31 rfl (by decide) (by decide) fun M32 h32 => ?_
  refine i_nA (n := 80) h32 rfl (by decide) (by decide) rfl (by decide) fun M33 h33 => ?_
  refine i_pR h33 rfl (by decide) (by decide) fun M34 h34 => ?_
  refine i_nA (n := 20) h34 rfl (by decide) (by decide) rfl (by decide) fun M35 h35 => ?_
  refine i_pR h35 rfl (by decide) (by decide) fun M36 h36 => ?_
  refine i_nA (n := 20) h36 rfl (by decide) (by decide) rfl (by decide) fun M37 h37 => ?_
  refine i_pR h37 rfl (by decide) (by decide) fun M38 h38 => ?_
  refine i_nA (n := 80) h38 rfl (by decide) (by decide) rfl (by decide) fun M39 h39 => ?_
  refine i_pR h39 rfl (by decide) (by decide) fun M40 h40 => ?_
  refine i_nA (n := 400) h40 rfl (by decide) (by decide) rfl (by decide) fun M41 h41 => ?_
  refine i_pR h41 rfl (by decide) (by decide) fun M42 h42 => ?_
  refine i_nA (n := 400) h42 rfl (by decide) (by decide) rfl (by decide) fun M43 h43 => ?_
  refine i_pR h43 rfl (by decide) (by decide) fun M44 h44 => ?_
  refine i_nA (n := 7) h44 rfl (by decide) (by decide) rfl (by decide) fun M45 h45 => ?_
  refine i_pR h45 rfl (by decide) (by decide) fun M46 h46 => ?_
  refine i_nA (n := 200) h46 rfl (by decide) (by decide) rfl (by decide) fun M47 h47 => ?_
  refine i_pR h47 rfl (by decide) (by decide) fun M48 h48 => ?_
  refine i_nA (n := 12) h48 rfl (by decide) (by decide) rfl (by decide) fun M49 h49 => ?_
  refine i_pR h49 rfl (by decide) (by decide) fun M50 h50 => ?_
  refine i_nA (n := 8) h50 rfl (by decide) (by decide) rfl (by decide) fun M51 h51 => ?_
  refine i_pR h51 rfl (by decide) (by decide) fun M52 h52 => ?_
  refine i_nA (n := 8) h52 rfl (by decide) (by decide) rfl (by decide) fun M53 h53 => ?_
  refine i_pR h53 rfl (by decide) (by decide) fun M54 h54 => ?_
  refine i_nA (n := 8) h54 rfl (by decide) (by decide) rfl (by decide) fun M55 h55 => ?_
  refine i_pR h55 rfl (by decide) (by decide) fun M56 h56 => ?_
  refine i_nA (n := 8) h56 rfl (by decide) (by decide) rfl (by decide) fun M57 h57 => ?_
  refine i_pR h57 rfl (by decide) (by decide) fun M58 h58 => ?_
  refine i_nA (n := 8) h58 rfl (by decide) (by decide) rfl (by decide) fun M59 h59 => ?_
  refine i_pR h59 rfl (by decide) (by decide) fun M60 h60 => ?_
  refine i_nA (n := 41) h60 rfl (by decide) (by decide) rfl (by decide) fun M61 h61 => ?_
  refine i_pR h61 rfl (by decide) (by decide) fun M62 h62 => ?_
  refine i_nA (n := 41) h62 rfl (by decide) (by decide) rfl (by decide) fun M63 h63 => ?_
  refine i_pR h63 rfl (by decide) (by decide) fun M64 h64 => ?_
  refine i_nA (n := 2000) h64 rfl (by decide) (by decide) rfl (by decide) fun M65 h65 => ?_
  refine i_pR h65 rfl (by decide) (by decide) fun M66 h66 => ?_
  refine i_nA (n := 2000) h66 rfl (by decide) (by decide) rfl (by decide) fun M67 h67 => ?_
  refine i_pR h67 rfl (by decide) (by decide) fun M68 h68 => ?_
  refine i_nA (n := 128000) h68 rfl (by decide) (by decide) rfl (by decide) fun M69 h69 => ?_
  refine i_pR h69 rfl (by decide) (by decide) fun M70 h70 => ?_
  refine i_nA (n := 2000) h70 rfl (by decide) (by decide) rfl (by decide) fun M71 h71 => ?_
  refine i_pR h71 rfl (by decide) (by decide) fun M72 h72 => ?_
  refine i_nA (n := 2000) h72 rfl (by decide) (by decide) rfl (by decide) fun M73 h73 => ?_
  refine i_pR h73 rfl (by decide) (by decide) fun M74 h74 => ?_
  refine i_nA (n := 8192) h74 rfl (by decide) (by decide) rfl (by decide) fun M75 h75 => ?_
  refine i_pR h75 rfl (by decide) (by decide) fun M76 h76 => ?_
  refine i_nA (n := 2000) h76 rfl (by decide) (by decide) rfl (by decide) fun M77 h77 => ?_
  refine i_pR h77 rfl (by decide) (by decide) fun M78 h78 => ?_
  refine i_nA (n := 2000) h78 rfl (by decide) (by decide) rfl (by decide) fun M79 h79 => ?_
  refine i_pR h79 rfl (by decide) (by decide) fun M80 h80 => ?_
  exact K _ h80
end INIT4
