/-! walked by program (wip/gen): X5_isLetter J0_isLatin1_aae02 J0_coder_7d493 J0_length_8abf5 J1_canEncode_9a6ad J1_indexOfChar_4cfef J1_indexOf_4cfef J0_indexOf_7cf53 J0_indexOf_0f7a4 X5_sign J3_checkIndex_8e157 J0_checkIndex_df160 J1_charAt_3b067 J0_charAt_5068e X5_word -/
def L_X5_isLetter : List (Option (Instr × Nat)) := [some (.iload_n 0, 1), some (.bipush 97, 2), none, some (.if_icmp .lt 9, 3), none, none, some (.iload_n 0, 1), some (.bipush 122, 2), none, some (.if_icmp .le 15, 3), none, none, some (.iload_n 0, 1), some (.bipush 65, 2), none, some (.if_icmp .lt 13, 3), none, none, some (.iload_n 0, 1), some (.bipush 90, 2), none, some (.if_icmp .gt 7, 3), none, none, some (.iconst 1, 1), some (.goto 4, 3), none, none, some (.iconst 0, 1), some (.ireturn, 1)]
def Y_X5_isLetter : YM := (⟨RX5, "isLetter", "(I)Z"⟩, prog_7_method_15_code, L_X5_isLetter, 1, some .boolean)
def f_X5_isLetter (i0 : Int32) (M : Mem) : Option (Int32 × Mem) :=
(if i0 < (97 : Int32) then
(if i0 < (65 : Int32) then
tv (0 : Int32) (some ((0 : Int32), M))
else
(if (90 : Int32) < i0 then
tv (0 : Int32) (some ((0 : Int32), M))
else
tv (1 : Int32) (some ((1 : Int32), M))))
else
(if i0 ≤ (122 : Int32) then
tv (1 : Int32) (some ((1 : Int32), M))
else
(if i0 < (65 : Int32) then
tv (0 : Int32) (some ((0 : Int32), M))
else
(if (90 : Int32) < i0 then
tv (0 : Int32) (some ((0 : Int32), M))
else
tv (1 : Int32) (some ((1 : Int32), M))))))
def L_J0_isLatin1_aae02 : List (Option (Instr × Nat)) := [some (.getstatic 38, 3), none, none, some (.ifCond .eq 14, 3), none, none, some (.aload_n 0, 1), some (.getfield 15, 3), none, none, some (.ifCond .ne 7, 3), none, none, some (.iconst 1, 1), some (.goto 4, 3), none, none, some (.iconst 0, 1), some (.ireturn, 1)]
def Y_J0_isLatin1_aae02 : YM := (⟨"java/lang/String", "isLatin1", "()Z"⟩, prog_18_method_154_code, L_J0_isLatin1_aae02, 1, some .boolean)
def f_J0_isLatin1_aae02 (r0 : Option Nat) (M : Mem) : Option (Int32 × Mem) :=
(if (1 : Int32) = 0 then
tv (0 : Int32) (some ((0 : Int32), M))
else
gSc M r0 fun v1 =>
(if v1 = 0 then
tv (1 : Int32) (some ((1 : Int32), M))
else
tv (0 : Int32) (some ((0 : Int32), M))))
def L_J0_coder_7d493 : List (Option (Instr × Nat)) := [some (.getstatic 38, 3), none, none, some (.ifCond .eq 10, 3), none, none, some (.aload_n 0, 1), some (.getfield 15, 3), none, none, some (.goto 4, 3), none, none, some (.iconst 1, 1), some (.ireturn, 1)]
def Y_J0_coder_7d493 : YM := (⟨"java/lang/String", "coder", "()B"⟩, prog_18_method_152_code, L_J0_coder_7d493, 1, some .byte)
def f_J0_coder_7d493 (r0 : Option Nat) (M : Mem) : Option (Int32 × Mem) :=
(if (1 : Int32) = 0 then
bv (1 : Int32) (some ((1 : Int32), M))
else
gSc M r0 fun v1 =>
bv v1 (some (v1, M)))
def L_J0_length_8abf5 : List (Option (Instr × Nat)) := [some (.aload_n 0, 1), some (.getfield 9, 3), none, none, some (.arraylength, 1), some (.aload_n 0, 1), some (.invokevirtual 335, 3), none, none, some (.ishr, 1), some (.ireturn, 1)]
def Y_J0_length_8abf5 : YM := (⟨"java/lang/String", "length", "()I"⟩, prog_18_method_54_code, L_J0_length_8abf5, 1, some .int)
def f_J0_length_8abf5 (r0 : Option Nat) (M : Mem) : Option (Int32 × Mem) :=
gS M r0 fun v1 =>
aN M v1 fun v2 =>
cS M r0 (cA (f_J0_coder_7d493 r0 M) fun v3 M1 =>
some ((v2 >>> (v3 &&& 31)), M1))
def L_J1_canEncode_9a6ad : List (Option (Instr × Nat)) := [some (.iload_n 0, 1), some (.ifCond .lt 14, 3), none, none, some (.iload_n 0, 1), some (.sipush 255, 3), none, none, some (.if_icmp .gt 7, 3), none, none, some (.iconst 1, 1), some (.goto 4, 3), none, none, some (.iconst 0, 1), some (.ireturn, 1)]
def Y_J1_canEncode_9a6ad : YM := (⟨"java/lang/StringLatin1", "canEncode", "(I)Z"⟩, prog_19_method_4_code, L_J1_canEncode_9a6ad, 1, some .boolean)
def f_J1_canEncode_9a6ad (i0 : Int32) (M : Mem) : Option (Int32 × Mem) :=
(if i0 < 0 then
tv (0 : Int32) (some ((0 : Int32), M))
else
(if (255 : Int32) < i0 then
tv (0 : Int32) (some ((0 : Int32), M))
else
tv (1 : Int32) (some ((1 : Int32), M))))
def L_J1_indexOfChar_4cfef : List (Option (Instr × Nat)) := [some (.iload_n 1, 1), some (.i2b, 1), some (.istore 4, 2), none, some (.iload_n 2, 1), some (.istore 5, 2), none, some (.iload 5, 2), none, some (.iload_n 3, 1), some (.if_icmp .ge 21, 3), none, none, some (.aload_n 0, 1), some (.iload 5, 2), none, some (.baload, 1), some (.iload 4, 2), none, some (.if_icmp .ne 6, 3), none, none, some (.iload 5, 2), none, some (.ireturn, 1), some (.iinc 5 1, 3), none, none, some (.goto (-21), 3), none, none, some (.iconst (-1), 1), some (.ireturn, 1)]
def Y_J1_indexOfChar_4cfef : YM := (⟨"java/lang/StringLatin1", "indexOfChar", "([BIII)I"⟩, prog_19_method_23_code, L_J1_indexOfChar_4cfef, 6, some .int)
def b_J1_indexOfChar_4cfef_7 (q7 : Option Nat → Int32 → Int32 → Int32 → Mem → Option (Int32 × Mem)) (r0 : Option Nat) (i3 : Int32) (i4 : Int32) (i5 : Int32) (M : Mem) : Option (Int32 × Mem) :=
(if i3 ≤ i5 then
some ((-1 : Int32), M)
else
aI M r0 10 i5 fun v1 =>
(if v1 = i4 then
some (i5, M)
else
q7 r0 i3 i4 (i5 + (1 : Int32)) M))
def f_J1_indexOfChar_4cfef_7 (n : Nat) : Option Nat → Int32 → Int32 → Int32 → Mem → Option (Int32 × Mem) := lpN (fun _ _ _ _ _ => none) (b_J1_indexOfChar_4cfef_7 ) n
def f_J1_indexOfChar_4cfef (r0 : Option Nat) (i1 : Int32) (i2 : Int32) (i3 : Int32) (M : Mem) : Option (Int32 × Mem) :=
f_J1_indexOfChar_4cfef_7 FU r0 i3 i1.toInt8.toInt32 i2 M
def L_J1_indexOf_4cfef : List (Option (Instr × Nat)) := [some (.iload_n 1, 1), some (.invokestatic 88, 3), none, none, some (.ifCond .ne 5, 3), none, none, some (.iconst (-1), 1), some (.ireturn, 1), some (.iload_n 2, 1), some (.iconst 0, 1), some (.invokestatic 92, 3), none, none, some (.istore_n 2, 1), some (.iload_n 3, 1), some (.aload_n 0, 1), some (.arraylength, 1), some (.invokestatic 38, 3), none, none, some (.istore_n 3, 1), some (.iload_n 2, 1), some (.iload_n 3, 1), some (.if_icmp .lt 5, 3), none, none, some (.iconst (-1), 1), some (.ireturn, 1), some (.aload_n 0, 1), some (.iload_n 1, 1), some (.iload_n 2, 1), some (.iload_n 3, 1), some (.invokestatic 95, 3), none, none, some (.ireturn, 1)]
def Y_J1_indexOf_4cfef : YM := (⟨"java/lang/StringLatin1", "indexOf", "([BIII)I"⟩, prog_19_method_22_code, L_J1_indexOf_4cfef, 4, some .int)
def f_J1_indexOf_4cfef (r0 : Option Nat) (i1 : Int32) (i2 : Int32) (i3 : Int32) (M : Mem) : Option (Int32 × Mem) :=
cA (f_J1_canEncode_9a6ad i1 M) fun v1 M1 =>
(if v1 = 0 then
some ((-1 : Int32), M1)
else
aN M1 r0 fun v2 =>
(if (if i2 < (0 : Int32) then (0 : Int32) else i2) < (if v2 < i3 then v2 else i3) then
cA (f_J1_indexOfChar_4cfef r0 i1 (if i2 < (0 : Int32) then (0 : Int32) else i2) (if v2 < i3 then v2 else i3) M1) fun v3 M2 =>
some (v3, M2)
else
some ((-1 : Int32), M1)))
def L_J0_indexOf_7cf53 : List (Option (Instr × Nat)) := [some (.aload_n 0, 1), some (.invokevirtual 492, 3), none, none, some (.ifCond .eq 19, 3), none, none, some (.aload_n 0, 1), some (.getfield 9, 3), none, none, some (.iload_n 1, 1), some (.iload_n 2, 1), some (.aload_n 0, 1), some (.invokevirtual 505, 3), none, none, some (.invokestatic 637, 3), none, none, some (.goto 16, 3), none, none, some (.aload_n 0, 1), some (.getfield 9, 3), none, none, some (.iload_n 1, 1), some (.iload_n 2, 1), some (.aload_n 0, 1), some (.invokevirtual 505, 3), none, none, some (.invokestatic 640, 3), none, none, some (.ireturn, 1)]
def Y_J0_indexOf_7cf53 : YM := (⟨"java/lang/String", "indexOf", "(II)I"⟩, prog_18_method_80_code, L_J0_indexOf_7cf53, 3, some .int)
def f_J0_indexOf_7cf53 (r0 : Option Nat) (i1 : Int32) (i2 : Int32) (M : Mem) : Option (Int32 × Mem) :=
cS M r0 (cA (f_J0_isLatin1_aae02 r0 M) fun v1 M1 =>
(if v1 = 0 then
gS M1 r0 fun v2 =>
cS M1 r0 (cA (f_J0_length_8abf5 r0 M1) fun v3 M2 =>
none)
else
gS M1 r0 fun v4 =>
cS M1 r0 (cA (f_J0_length_8abf5 r0 M1) fun v5 M3 =>
cA (f_J1_indexOf_4cfef v4 i1 i2 v5 M3) fun v6 M4 =>
some (v6, M4))))
def L_J0_indexOf_0f7a4 : List (Option (Instr × Nat)) := [some (.aload_n 0, 1), some (.iload_n 1, 1), some (.iconst 0, 1), some (.invokevirtual 633, 3), none, none, some (.ireturn, 1)]
def Y_J0_indexOf_0f7a4 : YM := (⟨"java/lang/String", "indexOf", "(I)I"⟩, prog_18_method_79_code, L_J0_indexOf_0f7a4, 2, some .int)
def f_J0_indexOf_0f7a4 (r0 : Option Nat) (i1 : Int32) (M : Mem) : Option (Int32 × Mem) :=
cS M r0 (cA (f_J0_indexOf_7cf53 r0 i1 (0 : Int32) M) fun v1 M1 =>
some (v1, M1))
def L_X5_sign : List (Option (Instr × Nat)) := [some (.aload_n 0, 1), some (.getfield 9, 3), none, none, some (.aload_n 0, 1), some (.getfield 34, 3), none, none, some (.iaload, 1), some (.istore_n 1, 1), some (.aload_n 0, 1), some (.dup, 1), some (.getfield 34, 3), none, none, some (.iconst 1, 1), some (.iadd, 1), some (.putfield 34, 3), none, none, some (.iload_n 1, 1), some (.bipush 60, 2), none, some (.if_icmp .eq 9, 3), none, none, some (.iload_n 1, 1), some (.bipush 62, 2), none, some (.if_icmp .ne 52, 3), none, none, some (.aload_n 0, 1), some (.getfield 34, 3), none, none, some (.aload_n 0, 1), some (.getfield 15, 3), none, none, some (.if_icmp .ge 41, 3), none, none, some (.aload_n 0, 1), some (.getfield 9, 3), none, none, some (.aload_n 0, 1), some (.getfield 34, 3), none, none, some (.iaload, 1), some (.bipush 61, 2), none, some (.if_icmp .ne 27, 3), none, none, some (.aload_n 0, 1), some (.dup, 1), some (.getfield 34, 3), none, none, some (.iconst 1, 1), some (.iadd, 1), some (.putfield 34, 3), none, none, some (.iload_n 1, 1), some (.bipush 60, 2), none, some (.if_icmp .ne 8, 3), none, none, some (.bipush 22, 2), none, some (.goto 5, 3), none, none, some (.bipush 24, 2), none, some (.ireturn, 1), some (.ldc 148, 2), none, some (.iload_n 1, 1), some (.i2c, 1), some (.invokevirtual 150, 3), none, none, some (.istore_n 2, 1), some (.iload_n 2, 1), some (.ifCond .lt 19, 3), none, none, some (.iload_n 2, 1), some (.getstatic 153, 3), none, none, some (.arraylength, 1), some (.if_icmp .ge 11, 3), none, none, some (.getstatic 153, 3), none, none, some (.iload_n 2, 1), some (.iaload, 1), some (.goto 5, 3), none, none, some (.bipush 36, 2), none, some (.ireturn, 1)]
def Y_X5_sign : YM := (⟨RX5, "sign", "()I"⟩, prog_7_method_18_code, L_X5_sign, 3, some .int)
def f_X5_sign_81  (i1 : Int32) (M : Mem) : Option (Int32 × Mem) :=
cS M (some 3) (cA (f_J0_indexOf_0f7a4 (some 3) (i1.toUInt32 % 65536).toInt32 M) fun v1 M1 =>
(if v1 < 0 then
some ((36 : Int32), M1)
else
aN M1 (some 1) fun v2 =>
(if v2 ≤ v1 then
some ((36 : Int32), M1)
else
aI M1 (some 1) 8 v1 fun v3 =>
some (v3, M1))))
def f_X5_sign_32  (r0 : Option Nat) (i1 : Int32) (M : Mem) : Option (Int32 × Mem) :=
gI M r0 5 5 fun v1 =>
gI M r0 5 1 fun v2 =>
(if v2 ≤ v1 then
f_X5_sign_81 i1 M
else
gR M r0 5 0 fun v3 =>
gI M r0 5 5 fun v4 =>
aI M v3 2 v4 fun v5 =>
(if v5 = (61 : Int32) then
gI M r0 5 5 fun v6 =>
pI M r0 5 5 (v6 + (1 : Int32)) fun M1 =>
(if i1 = (60 : Int32) then
some ((22 : Int32), M1)
else
some ((24 : Int32), M1))
else
f_X5_sign_81 i1 M))
def f_X5_sign (r0 : Option Nat) (M : Mem) : Option (Int32 × Mem) :=
gR M r0 5 0 fun v1 =>
gI M r0 5 5 fun v2 =>
aI M v1 2 v2 fun v3 =>
gI M r0 5 5 fun v4 =>
pI M r0 5 5 (v4 + (1 : Int32)) fun M1 =>
(if v3 = (60 : Int32) then
f_X5_sign_32 r0 v3 M1
else
(if v3 = (62 : Int32) then
f_X5_sign_32 r0 v3 M1
else
f_X5_sign_81 v3 M1))
def L_J3_checkIndex_8e157 : List (Option (Instr × Nat)) := [some (.iload_n 0, 1), some (.ifCond .lt 8, 3), none, none, some (.iload_n 0, 1), some (.iload_n 1, 1), some (.if_icmp .lt 10, 3), none, none, some (.aload_n 2, 1), some (.iload_n 0, 1), some (.iload_n 1, 1), some (.invokestatic 95, 3), none, none, some (.athrow, 1), some (.iload_n 0, 1), some (.ireturn, 1)]
def Y_J3_checkIndex_8e157 : YM := (⟨"jdk/internal/util/Preconditions", "checkIndex", "(IILjava/util/function/BiFunction;)I"⟩, prog_23_method_11_code, L_J3_checkIndex_8e157, 3, some .int)
def f_J3_checkIndex_8e157 (i0 : Int32) (i1 : Int32) (r2 : Option Nat) (M : Mem) : Option (Int32 × Mem) :=
(if i0 < 0 then
none
else
(if i0 < i1 then
some (i0, M)
else
none))
def L_J0_checkIndex_df160 : List (Option (Instr × Nat)) := [some (.iload_n 0, 1), some (.iload_n 1, 1), some (.getstatic 1053, 3), none, none, some (.invokestatic 1059, 3), none, none, some (.pop, 1), some (.return_, 1)]
def Y_J0_checkIndex_df160 : YM := (⟨"java/lang/String", "checkIndex", "(II)V"⟩, prog_18_method_155_code, L_J0_checkIndex_df160, 2, none)
def f_J0_checkIndex_df160 (i0 : Int32) (i1 : Int32) (M : Mem) : Option (Unit × Mem) :=
gF M fun v1 =>
cA (f_J3_checkIndex_8e157 i0 i1 v1 M) fun v2 M1 =>
some ((), M1)
def L_J1_charAt_3b067 : List (Option (Instr × Nat)) := [some (.iload_n 1, 1), some (.aload_n 0, 1), some (.arraylength, 1), some (.invokestatic 9, 3), none, none, some (.aload_n 0, 1), some (.iload_n 1, 1), some (.baload, 1), some (.sipush 255, 3), none, none, some (.iand, 1), some (.i2c, 1), some (.ireturn, 1)]
def Y_J1_charAt_3b067 : YM := (⟨"java/lang/StringLatin1", "charAt", "([BI)C"⟩, prog_19_method_2_code, L_J1_charAt_3b067, 2, some .char)
def f_J1_charAt_3b067 (r0 : Option Nat) (i1 : Int32) (M : Mem) : Option (Int32 × Mem) :=
aN M r0 fun v1 =>
cA (f_J0_checkIndex_df160 i1 v1 M) fun _ M1 =>
aI M1 r0 10 i1 fun v2 =>
cv ((v2 &&& (255 : Int32)).toUInt32 % 65536).toInt32 (some (((v2 &&& (255 : Int32)).toUInt32 % 65536).toInt32, M1))
def L_J0_charAt_5068e : List (Option (Instr × Nat)) := [some (.aload_n 0, 1), some (.invokevirtual 492, 3), none, none, some (.ifCond .eq 12, 3), none, none, some (.aload_n 0, 1), some (.getfield 9, 3), none, none, some (.iload_n 1, 1), some (.invokestatic 495, 3), none, none, some (.ireturn, 1), some (.aload_n 0, 1), some (.getfield 9, 3), none, none, some (.iload_n 1, 1), some (.invokestatic 498, 3), none, none, some (.ireturn, 1)]
def Y_J0_charAt_5068e : YM := (⟨"java/lang/String", "charAt", "(I)C"⟩, prog_18_method_56_code, L_J0_charAt_5068e, 2, some .char)
def f_J0_charAt_5068e (r0 : Option Nat) (i1 : Int32) (M : Mem) : Option (Int32 × Mem) :=
cS M r0 (cA (f_J0_isLatin1_aae02 r0 M) fun v1 M1 =>
(if v1 = 0 then
gS M1 r0 fun v2 =>
none
else
gS M1 r0 fun v3 =>
cA (f_J1_charAt_3b067 v3 i1 M1) fun v4 M2 =>
cv v4 (some (v4, M2))))
def L_X5_word : List (Option (Instr × Nat)) := [some (.iconst 0, 1), some (.istore_n 1, 1), some (.aload_n 0, 1), some (.getfield 49, 3), none, none, some (.istore_n 2, 1), some (.iconst 1, 1), some (.istore_n 3, 1), some (.iconst 0, 1), some (.istore 4, 2), none, some (.iload 4, 2), none, some (.ldc 138, 2), none, some (.invokevirtual 140, 3), none, none, some (.if_icmp .ge 84, 3), none, none, some (.ldc 138, 2), none, some (.iload 4, 2), none, some (.invokevirtual 144, 3), none, none, some (.istore 5, 2), none, some (.iload 5, 2), none, some (.bipush 32, 2), none, some (.if_icmp .eq 38, 3), none, none, some (.iload_n 3, 1), some (.ifCond .eq 26, 3), none, none, some (.iload_n 2, 1), some (.aload_n 0, 1), some (.getfield 34, 3), none, none, some (.if_icmp .ge 18, 3), none, none, some (.aload_n 0, 1), some (.getfield 9, 3), none, none, some (.iload_n 2, 1), some (.iaload, 1), some (.iload 5, 2), none, some (.if_icmp .ne 7, 3), none, none, some (.iconst 1, 1), some (.goto 4, 3), none, none, some (.iconst 0, 1), some (.istore_n 3, 1), some (.iinc 2 1, 3), none, none, some (.goto 27, 3), none, none, some (.iload_n 3, 1), some (.ifCond .eq 13, 3), none, none, some (.iload_n 2, 1), some (.aload_n 0, 1), some (.getfield 34, 3), none, none, some (.if_icmp .ne 5, 3), none, none, some (.iload_n 1, 1), some (.ireturn, 1), some (.iinc 1 1, 3), none, none, some (.aload_n 0, 1), some (.getfield 49, 3), none, none, some (.istore_n 2, 1), some (.iconst 1, 1), some (.istore_n 3, 1), some (.iinc 4 1, 3), none, none, some (.goto (-88), 3), none, none, some (.bipush 36, 2), none, some (.ireturn, 1)]
def Y_X5_word : YM := (⟨RX5, "word", "()I"⟩, prog_7_method_17_code, L_X5_word, 6, some .int)
def b_X5_word_12 (q12 : Option Nat → Int32 → Int32 → Int32 → Int32 → Mem → Option (Int32 × Mem)) (r0 : Option Nat) (i1 : Int32) (i2 : Int32) (i3 : Int32) (i4 : Int32) (M : Mem) : Option (Int32 × Mem) :=
cS M (some 2) (cA (f_J0_length_8abf5 (some 2) M) fun v1 M1 =>
(if v1 ≤ i4 then
some ((36 : Int32), M1)
else
cS M1 (some 2) (cA (f_J0_charAt_5068e (some 2) i4 M1) fun v2 M2 =>
(if v2 = (32 : Int32) then
(if i3 = 0 then
gI M2 r0 5 7 fun v3 =>
q12 r0 (i1 + (1 : Int32)) v3 (1 : Int32) (i4 + (1 : Int32)) M2
else
gI M2 r0 5 5 fun v4 =>
(if i2 = v4 then
some (i1, M2)
else
gI M2 r0 5 7 fun v5 =>
q12 r0 (i1 + (1 : Int32)) v5 (1 : Int32) (i4 + (1 : Int32)) M2))
else
(if i3 = 0 then
q12 r0 i1 (i2 + (1 : Int32)) (0 : Int32) (i4 + (1 : Int32)) M2
else
gI M2 r0 5 5 fun v6 =>
(if v6 ≤ i2 then
q12 r0 i1 (i2 + (1 : Int32)) (0 : Int32) (i4 + (1 : Int32)) M2
else
gR M2 r0 5 0 fun v7 =>
aI M2 v7 2 i2 fun v8 =>
(if v8 = v2 then
q12 r0 i1 (i2 + (1 : Int32)) (1 : Int32) (i4 + (1 : Int32)) M2
else
q12 r0 i1 (i2 + (1 : Int32)) (0 : Int32) (i4 + (1 : Int32)) M2)))))))
def f_X5_word_12 (n : Nat) : Option Nat → Int32 → Int32 → Int32 → Int32 → Mem → Option (Int32 × Mem) := lpN (fun _ _ _ _ _ _ => none) (b_X5_word_12 ) n
def f_X5_word (r0 : Option Nat) (M : Mem) : Option (Int32 × Mem) :=
gI M r0 5 7 fun v1 =>
f_X5_word_12 FU r0 (0 : Int32) v1 (1 : Int32) (0 : Int32) M
theorem fs_RJ0_38 : Jvm.Cond.fieldLink "java/lang/String" 38 "java/lang/String" "COMPACT_STRINGS" "Z" ∈ gw := gw_in 522 (by decide +kernel) (by decide +kernel)
theorem fs_RJ0_15 : Jvm.Cond.fieldLink "java/lang/String" 15 "java/lang/String" "coder" "B" ∈ gw := gw_in 1799 (by decide +kernel) (by decide +kernel)
theorem fs_RJ0_9 : Jvm.Cond.fieldLink "java/lang/String" 9 "java/lang/String" "value" "[B" ∈ gw := gw_in 1798 (by decide +kernel) (by decide +kernel)
set_option maxRecDepth 30000 in
theorem ok_J0_coder_7d493 : okY Y_J0_coder_7d493 := ⟨(gw_in 521 rfl rfl), (gw_in 15 (by decide +kernel) (by decide +kernel)), by decide +kernel, by decide +kernel⟩
theorem ml_RJ0_335 : MLv "java/lang/String" 335 Y_J0_coder_7d493 0 := ⟨(gw_in 518 (by decide +kernel) (by decide +kernel)), (gw_in 519 (by decide +kernel) (by decide +kernel)), (gw_in 520 (by decide +kernel) (by decide +kernel)), ok_J0_coder_7d493, by decide +kernel⟩
set_option maxRecDepth 30000 in
theorem ok_J1_canEncode_9a6ad : okY Y_J1_canEncode_9a6ad := ⟨(gw_in 585 rfl rfl), (gw_in 16 (by decide +kernel) (by decide +kernel)), by decide +kernel, by decide +kernel⟩
theorem ml_RJ1_88 : MLs "java/lang/StringLatin1" 88 Y_J1_canEncode_9a6ad 1 := ⟨(gw_in 583 (by decide +kernel) (by decide +kernel)), (gw_in 584 (by decide +kernel) (by decide +kernel)), ok_J1_canEncode_9a6ad, by decide +kernel⟩
theorem mk_RJ1_92 : Jvm.Cond.methodLink "java/lang/StringLatin1" 92 Lib.Math.max.name ∈ gw := gw_in 586 (by decide +kernel) (by decide +kernel)
theorem mk_RJ1_38 : Jvm.Cond.methodLink "java/lang/StringLatin1" 38 Lib.Math.min.name ∈ gw := gw_in 587 (by decide +kernel) (by decide +kernel)
set_option maxRecDepth 30000 in
theorem ok_J1_indexOfChar_4cfef : okY Y_J1_indexOfChar_4cfef := ⟨(gw_in 590 rfl rfl), (gw_in 16 (by decide +kernel) (by decide +kernel)), by decide +kernel, by decide +kernel⟩
theorem ml_RJ1_95 : MLs "java/lang/StringLatin1" 95 Y_J1_indexOfChar_4cfef 4 := ⟨(gw_in 588 (by decide +kernel) (by decide +kernel)), (gw_in 589 (by decide +kernel) (by decide +kernel)), ok_J1_indexOfChar_4cfef, by decide +kernel⟩
set_option maxRecDepth 30000 in
theorem ok_J0_isLatin1_aae02 : okY Y_J0_isLatin1_aae02 := ⟨(gw_in 531 rfl rfl), (gw_in 15 (by decide +kernel) (by decide +kernel)), by decide +kernel, by decide +kernel⟩
theorem ml_RJ0_492 : MLv "java/lang/String" 492 Y_J0_isLatin1_aae02 0 := ⟨(gw_in 528 (by decide +kernel) (by decide +kernel)), (gw_in 529 (by decide +kernel) (by decide +kernel)), (gw_in 530 (by decide +kernel) (by decide +kernel)), ok_J0_isLatin1_aae02, by decide +kernel⟩
set_option maxRecDepth 30000 in
theorem ok_J0_length_8abf5 : okY Y_J0_length_8abf5 := ⟨(gw_in 517 rfl rfl), (gw_in 15 (by decide +kernel) (by decide +kernel)), by decide +kernel, by decide +kernel⟩
theorem ml_RJ0_505 : MLv "java/lang/String" 505 Y_J0_length_8abf5 0 := ⟨(gw_in 579 (by decide +kernel) (by decide +kernel)), (gw_in 515 (by decide +kernel) (by decide +kernel)), (gw_in 516 (by decide +kernel) (by decide +kernel)), ok_J0_length_8abf5, by decide +kernel⟩
set_option maxRecDepth 30000 in
theorem ok_J1_indexOf_4cfef : okY Y_J1_indexOf_4cfef := ⟨(gw_in 582 rfl rfl), (gw_in 16 (by decide +kernel) (by decide +kernel)), by decide +kernel, by decide +kernel⟩
theorem ml_RJ0_637 : MLs "java/lang/String" 637 Y_J1_indexOf_4cfef 4 := ⟨(gw_in 580 (by decide +kernel) (by decide +kernel)), (gw_in 581 (by decide +kernel) (by decide +kernel)), ok_J1_indexOf_4cfef, by decide +kernel⟩
set_option maxRecDepth 30000 in
theorem ok_J0_indexOf_7cf53 : okY Y_J0_indexOf_7cf53 := ⟨(gw_in 578 rfl rfl), (gw_in 15 (by decide +kernel) (by decide +kernel)), by decide +kernel, by decide +kernel⟩
theorem ml_RJ0_633 : MLv "java/lang/String" 633 Y_J0_indexOf_7cf53 2 := ⟨(gw_in 575 (by decide +kernel) (by decide +kernel)), (gw_in 576 (by decide +kernel) (by decide +kernel)), (gw_in 577 (by decide +kernel) (by decide +kernel)), ok_J0_indexOf_7cf53, by decide +kernel⟩
set_option maxRecDepth 30000 in
theorem ok_J0_indexOf_0f7a4 : okY Y_J0_indexOf_0f7a4 := ⟨(gw_in 574 rfl rfl), (gw_in 15 (by decide +kernel) (by decide +kernel)), by decide +kernel, by decide +kernel⟩
theorem ml_5_150 : MLv RX5 150 Y_J0_indexOf_0f7a4 1 := ⟨(gw_in 571 (by decide +kernel) (by decide +kernel)), (gw_in 572 (by decide +kernel) (by decide +kernel)), (gw_in 573 (by decide +kernel) (by decide +kernel)), ok_J0_indexOf_0f7a4, by decide +kernel⟩
theorem fs_RX5_153 : Jvm.Cond.fieldLink RX5 153 RX5 "SIGN_TOKENS" "[I" ∈ gw := gw_in 626 (by decide +kernel) (by decide +kernel)
theorem fl_5_34 : FLk RX5 34 5 5 false := ⟨_, rfl, by decide, (gw_in 178 (by decide +kernel) (by decide +kernel)), rfl⟩
theorem fs_RJ0_1053 : Jvm.Cond.fieldLink "java/lang/String" 1053 "jdk/internal/util/Preconditions" "SIOOBE_FORMATTER" "Ljava/util/function/BiFunction;" ∈ gw := gw_in 538 (by decide +kernel) (by decide +kernel)
set_option maxRecDepth 30000 in
theorem ok_J3_checkIndex_8e157 : okY Y_J3_checkIndex_8e157 := ⟨(gw_in 542 rfl rfl), (gw_in 17 (by decide +kernel) (by decide +kernel)), by decide +kernel, by decide +kernel⟩
theorem ml_RJ0_1059 : MLs "java/lang/String" 1059 Y_J3_checkIndex_8e157 3 := ⟨(gw_in 540 (by decide +kernel) (by decide +kernel)), (gw_in 541 (by decide +kernel) (by decide +kernel)), ok_J3_checkIndex_8e157, by decide +kernel⟩
set_option maxRecDepth 30000 in
theorem ok_J0_checkIndex_df160 : okY Y_J0_checkIndex_df160 := ⟨(gw_in 537 rfl rfl), (gw_in 15 (by decide +kernel) (by decide +kernel)), by decide +kernel, by decide +kernel⟩
theorem ml_RJ1_9 : MLs "java/lang/StringLatin1" 9 Y_J0_checkIndex_df160 2 := ⟨(gw_in 535 (by decide +kernel) (by decide +kernel)), (gw_in 536 (by decide +kernel) (by decide +kernel)), ok_J0_checkIndex_df160, by decide +kernel⟩
set_option maxRecDepth 30000 in
theorem ok_J1_charAt_3b067 : okY Y_J1_charAt_3b067 := ⟨(gw_in 534 rfl rfl), (gw_in 16 (by decide +kernel) (by decide +kernel)), by decide +kernel, by decide +kernel⟩
theorem ml_RJ0_495 : MLs "java/lang/String" 495 Y_J1_charAt_3b067 2 := ⟨(gw_in 532 (by decide +kernel) (by decide +kernel)), (gw_in 533 (by decide +kernel) (by decide +kernel)), ok_J1_charAt_3b067, by decide +kernel⟩
theorem ml_5_140 : MLv RX5 140 Y_J0_length_8abf5 0 := ⟨(gw_in 514 (by decide +kernel) (by decide +kernel)), (gw_in 515 (by decide +kernel) (by decide +kernel)), (gw_in 516 (by decide +kernel) (by decide +kernel)), ok_J0_length_8abf5, by decide +kernel⟩
set_option maxRecDepth 30000 in
theorem ok_J0_charAt_5068e : okY Y_J0_charAt_5068e := ⟨(gw_in 527 rfl rfl), (gw_in 15 (by decide +kernel) (by decide +kernel)), by decide +kernel, by decide +kernel⟩
theorem ml_5_144 : MLv RX5 144 Y_J0_charAt_5068e 1 := ⟨(gw_in 524 (by decide +kernel) (by decide +kernel)), (gw_in 525 (by decide +kernel) (by decide +kernel)), (gw_in 526 (by decide +kernel) (by decide +kernel)), ok_J0_charAt_5068e, by decide +kernel⟩
theorem fl_5_49 : FLk RX5 49 5 7 false := ⟨_, rfl, by decide, (gw_in 180 (by decide +kernel) (by decide +kernel)), rfl⟩
set_option maxRecDepth 20000 in
theorem dk_X5_isLetter : ∀ pc i, L_X5_isLetter[pc]? = some (some i) → decode prog_7_method_15_code pc = .ok i := dk_of (by decide +kernel)
theorem s_X5_isLetter {d : Nat} {P : Int32 → Mem → Prop} {i0 : Int32} {M : Mem} (h : FQ (f_X5_isLetter i0 M) P) : Con Y_X5_isLetter d 0 0 [.int i0] M (QI P) := by
  refine Con.of [some (.int i0)] (by decide +kernel) dk_X5_isLetter (by simp [Y_X5_isLetter, cat_rf, cat_i, cat_l]) (by simp [loE, Y_X5_isLetter, cat_rf, cat_i, cat_l, List.replicate]) ?_
  unfold f_X5_isLetter at h
  refine r_iload_n rfl rfl ?_
  refine r_bipush (v := 97) rfl (by decide) ?_
  refine r_ic_lt 12 rfl (by decide) h (fun h => ?_) (fun h => ?_)
  · refine r_iload_n rfl rfl ?_
    refine r_bipush (v := 65) rfl (by decide) ?_
    refine r_ic_lt 28 rfl (by decide) h (fun h => ?_) (fun h => ?_)
    · refine r_iconst (v := 0) rfl (by decide) ?_
      exact r_zret rfl rfl ⟨Nat.le_of_ble_eq_true rfl, Nat.le_of_ble_eq_true rfl⟩ h
    · refine r_iload_n rfl rfl ?_
      refine r_bipush (v := 90) rfl (by decide) ?_
      refine r_ic_gt 28 rfl (by decide) h (fun h => ?_) (fun h => ?_)
      · refine r_iconst (v := 0) rfl (by decide) ?_
        exact r_zret rfl rfl ⟨Nat.le_of_ble_eq_true rfl, Nat.le_of_ble_eq_true rfl⟩ h
      · refine r_iconst (v := 1) rfl (by decide) ?_
        refine r_goto 29 rfl (by decide) ?_
        exact r_zret rfl rfl ⟨Nat.le_of_ble_eq_true rfl, Nat.le_of_ble_eq_true rfl⟩ h
  · refine r_iload_n rfl rfl ?_
    refine r_bipush (v := 122) rfl (by decide) ?_
    refine r_ic_le 24 rfl (by decide) h (fun h => ?_) (fun h => ?_)
    · refine r_iconst (v := 1) rfl (by decide) ?_
      refine r_goto 29 rfl (by decide) ?_
      exact r_zret rfl rfl ⟨Nat.le_of_ble_eq_true rfl, Nat.le_of_ble_eq_true rfl⟩ h
    · refine r_iload_n rfl rfl ?_
      refine r_bipush (v := 65) rfl (by decide) ?_
      refine r_ic_lt 28 rfl (by decide) h (fun h => ?_) (fun h => ?_)
      · refine r_iconst (v := 0) rfl (by decide) ?_
        exact r_zret rfl rfl ⟨Nat.le_of_ble_eq_true rfl, Nat.le_of_ble_eq_true rfl⟩ h
      · refine r_iload_n rfl rfl ?_
        refine r_bipush (v := 90) rfl (by decide) ?_
        refine r_ic_gt 28 rfl (by decide) h (fun h => ?_) (fun h => ?_)
        · refine r_iconst (v := 0) rfl (by decide) ?_
          exact r_zret rfl rfl ⟨Nat.le_of_ble_eq_true rfl, Nat.le_of_ble_eq_true rfl⟩ h
        · refine r_iconst (v := 1) rfl (by decide) ?_
          refine r_goto 29 rfl (by decide) ?_
          exact r_zret rfl rfl ⟨Nat.le_of_ble_eq_true rfl, Nat.le_of_ble_eq_true rfl⟩ h
set_option maxRecDepth 20000 in
theorem dk_J0_isLatin1_aae02 : ∀ pc i, L_J0_isLatin1_aae02[pc]? = some (some i) → decode prog_18_method_154_code pc = .ok i := dk_of (by decide +kernel)
theorem s_J0_isLatin1_aae02 {d : Nat} {P : Int32 → Mem → Prop} {r0 : Option Nat} {M : Mem} (h : FQ (f_J0_isLatin1_aae02 r0 M) P) : Con Y_J0_isLatin1_aae02 d 0 0 [va_rf r0] M (QI P) := by
  refine Con.of [some (va_rf r0)] (by decide +kernel) dk_J0_isLatin1_aae02 (by simp [Y_J0_isLatin1_aae02, cat_rf, cat_i, cat_l]) (by simp [loE, Y_J0_isLatin1_aae02, cat_rf, cat_i, cat_l, List.replicate]) ?_
  unfold f_J0_isLatin1_aae02 at h
  refine r_getsC rfl fs_RJ0_38 ?_
  refine r_if_eq 17 rfl (by decide) h (fun h => ?_) (fun h => ?_)
  · refine r_iconst (v := 0) rfl (by decide) ?_
    exact r_zret rfl rfl ⟨Nat.le_of_ble_eq_true rfl, Nat.le_of_ble_eq_true rfl⟩ h
  · refine r_aload_n rfl rfl ?_
    refine r_gSc rfl fs_RJ0_15 h (fun v1 h => ?_)
    refine r_if_ne 17 rfl (by decide) h (fun h => ?_) (fun h => ?_)
    · refine r_iconst (v := 1) rfl (by decide) ?_
      refine r_goto 18 rfl (by decide) ?_
      exact r_zret rfl rfl ⟨Nat.le_of_ble_eq_true rfl, Nat.le_of_ble_eq_true rfl⟩ h
    · refine r_iconst (v := 0) rfl (by decide) ?_
      exact r_zret rfl rfl ⟨Nat.le_of_ble_eq_true rfl, Nat.le_of_ble_eq_true rfl⟩ h
set_option maxRecDepth 20000 in
theorem dk_J0_coder_7d493 : ∀ pc i, L_J0_coder_7d493[pc]? = some (some i) → decode prog_18_method_152_code pc = .ok i := dk_of (by decide +kernel)
theorem s_J0_coder_7d493 {d : Nat} {P : Int32 → Mem → Prop} {r0 : Option Nat} {M : Mem} (h : FQ (f_J0_coder_7d493 r0 M) P) : Con Y_J0_coder_7d493 d 0 0 [va_rf r0] M (QI P) := by
  refine Con.of [some (va_rf r0)] (by decide +kernel) dk_J0_coder_7d493 (by simp [Y_J0_coder_7d493, cat_rf, cat_i, cat_l]) (by simp [loE, Y_J0_coder_7d493, cat_rf, cat_i, cat_l, List.replicate]) ?_
  unfold f_J0_coder_7d493 at h
  refine r_getsC rfl fs_RJ0_38 ?_
  refine r_if_eq 13 rfl (by decide) h (fun h => ?_) (fun h => ?_)
  · refine r_iconst (v := 1) rfl (by decide) ?_
    exact r_bret rfl rfl ⟨Nat.le_of_ble_eq_true rfl, Nat.le_of_ble_eq_true rfl⟩ h
  · refine r_aload_n rfl rfl ?_
    refine r_gSc rfl fs_RJ0_15 h (fun v1 h => ?_)
    refine r_goto 14 rfl (by decide) ?_
    exact r_bret rfl rfl ⟨Nat.le_of_ble_eq_true rfl, Nat.le_of_ble_eq_true rfl⟩ h
set_option maxRecDepth 20000 in
theorem dk_J0_length_8abf5 : ∀ pc i, L_J0_length_8abf5[pc]? = some (some i) → decode prog_18_method_54_code pc = .ok i := dk_of (by decide +kernel)
theorem s_J0_length_8abf5 {d : Nat} {P : Int32 → Mem → Prop} {r0 : Option Nat} {M : Mem} (h : FQ (f_J0_length_8abf5 r0 M) P) : Con Y_J0_length_8abf5 (d + 1) 0 0 [va_rf r0] M (QI P) := by
  refine Con.of [some (va_rf r0)] (by decide +kernel) dk_J0_length_8abf5 (by simp [Y_J0_length_8abf5, cat_rf, cat_i, cat_l]) (by simp [loE, Y_J0_length_8abf5, cat_rf, cat_i, cat_l, List.replicate]) ?_
  unfold f_J0_length_8abf5 at h
  refine r_aload_n rfl rfl ?_
  refine r_gS rfl fs_RJ0_9 h (fun v1 h => ?_)
  refine r_alen rfl h (fun v2 h => ?_)
  refine r_aload_n rfl rfl ?_
  refine r_cS_i (vs := []) rfl ml_RJ0_335 rfl (rOk.of rfl) ⟨Nat.zero_le _, Nat.zero_le _⟩ rfl rfl rfl h s_J0_coder_7d493 (fun v3 M1 h => ?_)
  refine r_ishr rfl ?_
  exact r_iret rfl rfl ⟨Nat.le_of_ble_eq_true rfl, Nat.le_of_ble_eq_true rfl⟩ h
set_option maxRecDepth 20000 in
theorem dk_J1_canEncode_9a6ad : ∀ pc i, L_J1_canEncode_9a6ad[pc]? = some (some i) → decode prog_19_method_4_code pc = .ok i := dk_of (by decide +kernel)
theorem s_J1_canEncode_9a6ad {d : Nat} {P : Int32 → Mem → Prop} {i0 : Int32} {M : Mem} (h : FQ (f_J1_canEncode_9a6ad i0 M) P) : Con Y_J1_canEncode_9a6ad d 0 0 [.int i0] M (QI P) := by
  refine Con.of [some (.int i0)] (by decide +kernel) dk_J1_canEncode_9a6ad (by simp [Y_J1_canEncode_9a6ad, cat_rf, cat_i, cat_l]) (by simp [loE, Y_J1_canEncode_9a6ad, cat_rf, cat_i, cat_l, List.replicate]) ?_
  unfold f_J1_canEncode_9a6ad at h
  refine r_iload_n rfl rfl ?_
  refine r_if_lt 15 rfl (by decide) h (fun h => ?_) (fun h => ?_)
  · refine r_iconst (v := 0) rfl (by decide) ?_
    exact r_zret rfl rfl ⟨Nat.le_of_ble_eq_true rfl, Nat.le_of_ble_eq_true rfl⟩ h
  · refine r_iload_n rfl rfl ?_
    refine r_sipush (v := 255) rfl (by decide) ?_
    refine r_ic_gt 15 rfl (by decide) h (fun h => ?_) (fun h => ?_)
    · refine r_iconst (v := 0) rfl (by decide) ?_
      exact r_zret rfl rfl ⟨Nat.le_of_ble_eq_true rfl, Nat.le_of_ble_eq_true rfl⟩ h
    · refine r_iconst (v := 1) rfl (by decide) ?_
      refine r_goto 16 rfl (by decide) ?_
      exact r_zret rfl rfl ⟨Nat.le_of_ble_eq_true rfl, Nat.le_of_ble_eq_true rfl⟩ h
set_option maxRecDepth 20000 in
theorem dk_J1_indexOfChar_4cfef : ∀ pc i, L_J1_indexOfChar_4cfef[pc]? = some (some i) → decode prog_19_method_23_code pc = .ok i := dk_of (by decide +kernel)
theorem sb_J1_indexOfChar_4cfef_7 {d : Nat} {P : Int32 → Mem → Prop} {q7 : Option Nat → Int32 → Int32 → Int32 → Mem → Option (Int32 × Mem)} (hq7 : ∀ (r0 : Option Nat) (i3 : Int32) (i4 : Int32) (i5 : Int32) (M : Mem), FQ (q7 r0 i3 i4 i5 M) P → wp Y_J1_indexOfChar_4cfef (rmD d 0 0) (FM (QI P) 0 0) 0 0 7 [some (va_rf r0), none, none, some (.int i3), some (.int i4), some (.int i5)] [] M) (r0 : Option Nat) (i3 : Int32) (i4 : Int32) (i5 : Int32) (M : Mem) (h : FQ (b_J1_indexOfChar_4cfef_7 q7 r0 i3 i4 i5 M) P) : wp Y_J1_indexOfChar_4cfef (rmD d 0 0) (FM (QI P) 0 0) 0 0 7 [some (va_rf r0), none, none, some (.int i3), some (.int i4), some (.int i5)] [] M := by
  unfold b_J1_indexOfChar_4cfef_7 at h
  refine r_iload rfl rfl ?_
  refine r_iload_n rfl rfl ?_
  refine r_ic_ge 31 rfl (by decide) h (fun h => ?_) (fun h => ?_)
  · refine r_iconst (v := -1) rfl (by decide) ?_
    exact r_iret rfl rfl ⟨Nat.le_of_ble_eq_true rfl, Nat.le_of_ble_eq_true rfl⟩ h
  · refine r_aload_n rfl rfl ?_
    refine r_iload rfl rfl ?_
    refine r_bald10 rfl h (fun v1 h => ?_)
    refine r_iload rfl rfl ?_
    refine r_ic_ne 25 rfl (by decide) h (fun h => ?_) (fun h => ?_)
    · refine r_iload rfl rfl ?_
      exact r_iret rfl rfl ⟨Nat.le_of_ble_eq_true rfl, Nat.le_of_ble_eq_true rfl⟩ h
    · refine r_iinc (v := 1) (lo' := [some (va_rf r0), none, none, some (.int i3), some (.int i4), some (.int (i5 + (1 : Int32)))]) rfl rfl rfl (by decide) rfl rfl ?_
      refine r_goto 7 rfl (by decide) ?_
      exact hq7 _ _ _ _ _ h
theorem s_J1_indexOfChar_4cfef_7 {d : Nat} {P : Int32 → Mem → Prop}   : ∀ (k : Nat) (r0 : Option Nat) (i3 : Int32) (i4 : Int32) (i5 : Int32) (M : Mem), FQ (f_J1_indexOfChar_4cfef_7  k r0 i3 i4 i5 M) P → wp Y_J1_indexOfChar_4cfef (rmD d 0 0) (FM (QI P) 0 0) 0 0 7 [some (va_rf r0), none, none, some (.int i3), some (.int i4), some (.int i5)] [] M
  | 0, _, _, _, _, _, h => h.no
  | k + 1, r0, i3, i4, i5, M, h => sb_J1_indexOfChar_4cfef_7  (s_J1_indexOfChar_4cfef_7  k) r0 i3 i4 i5 M h
theorem s_J1_indexOfChar_4cfef {d : Nat} {P : Int32 → Mem → Prop} {r0 : Option Nat} {i1 : Int32} {i2 : Int32} {i3 : Int32} {M : Mem} (h : FQ (f_J1_indexOfChar_4cfef r0 i1 i2 i3 M) P) : Con Y_J1_indexOfChar_4cfef d 0 0 [va_rf r0, .int i1, .int i2, .int i3] M (QI P) := by
  refine Con.of [some (va_rf r0), some (.int i1), some (.int i2), some (.int i3), none, none] (by decide +kernel) dk_J1_indexOfChar_4cfef (by simp [Y_J1_indexOfChar_4cfef, cat_rf, cat_i, cat_l]) (by simp [loE, Y_J1_indexOfChar_4cfef, cat_rf, cat_i, cat_l, List.replicate]) ?_
  unfold f_J1_indexOfChar_4cfef at h
  refine r_iload_n rfl rfl ?_
  refine r_i2b rfl ?_
  refine r_istore (lo' := [some (va_rf r0), some (.int i1), some (.int i2), some (.int i3), some (.int i1.toInt8.toInt32), none]) rfl rfl rfl rfl ?_
  refine r_iload_n rfl rfl ?_
  refine r_istore (lo' := [some (va_rf r0), some (.int i1), some (.int i2), some (.int i3), some (.int i1.toInt8.toInt32), some (.int i2)]) rfl rfl rfl rfl ?_
  refine r_msk [true, false, false, true, true, true] rfl ?_
  exact s_J1_indexOfChar_4cfef_7 FU _ _ _ _ _ h
set_option maxRecDepth 20000 in
theorem dk_J1_indexOf_4cfef : ∀ pc i, L_J1_indexOf_4cfef[pc]? = some (some i) → decode prog_19_method_22_code pc = .ok i := dk_of (by decide +kernel)
theorem s_J1_indexOf_4cfef {d : Nat} {P : Int32 → Mem → Prop} {r0 : Option Nat} {i1 : Int32} {i2 : Int32} {i3 : Int32} {M : Mem} (h : FQ (f_J1_indexOf_4cfef r0 i1 i2 i3 M) P) : Con Y_J1_indexOf_4cfef (d + 1) 0 0 [va_rf r0, .int i1, .int i2, .int i3] M (QI P) := by
  refine Con.of [some (va_rf r0), some (.int i1), some (.int i2), some (.int i3)] (by decide +kernel) dk_J1_indexOf_4cfef (by simp [Y_J1_indexOf_4cfef, cat_rf, cat_i, cat_l]) (by simp [loE, Y_J1_indexOf_4cfef, cat_rf, cat_i, cat_l, List.replicate]) ?_
  unfold f_J1_indexOf_4cfef at h
  refine r_iload_n rfl rfl ?_
  refine r_cs_i (vs := [.int i1]) rfl ml_RJ1_88 (rOk.of rfl) ⟨Nat.zero_le _, Nat.zero_le _⟩ rfl rfl rfl h s_J1_canEncode_9a6ad (fun v1 M1 h => ?_)
  refine r_if_ne 9 rfl (by decide) h (fun h => ?_) (fun h => ?_)
  · refine r_iconst (v := -1) rfl (by decide) ?_
    exact r_iret rfl rfl ⟨Nat.le_of_ble_eq_true rfl, Nat.le_of_ble_eq_true rfl⟩ h
  · refine r_iload_n rfl rfl ?_
    refine r_iconst (v := 0) rfl (by decide) ?_
    refine r_mmax rfl mk_RJ1_92 ⟨by show 1 ≤ _ + 1; omega, by show 40 ≤ 64 * (_ + 1); omega⟩ ⟨Nat.le_of_ble_eq_true rfl, Nat.le_of_ble_eq_true rfl⟩ rfl ?_
    refine r_istore_n (lo' := [some (va_rf r0), some (.int i1), some (.int (if i2 < (0 : Int32) then (0 : Int32) else i2)), some (.int i3)]) rfl rfl rfl rfl ?_
    refine r_iload_n rfl rfl ?_
    refine r_aload_n rfl rfl ?_
    refine r_alen rfl h (fun v2 h => ?_)
    refine r_mmin rfl mk_RJ1_38 ⟨by show 1 ≤ _ + 1; omega, by show 40 ≤ 64 * (_ + 1); omega⟩ ⟨Nat.le_of_ble_eq_true rfl, Nat.le_of_ble_eq_true rfl⟩ rfl ?_
    refine r_istore_n (lo' := [some (va_rf r0), some (.int i1), some (.int (if i2 < (0 : Int32) then (0 : Int32) else i2)), some (.int (if v2 < i3 then v2 else i3))]) rfl rfl rfl rfl ?_
    refine r_iload_n rfl rfl ?_
    refine r_iload_n rfl rfl ?_
    refine r_ic_lt 29 rfl (by decide) h (fun h => ?_) (fun h => ?_)
    · refine r_aload_n rfl rfl ?_
      refine r_iload_n rfl rfl ?_
      refine r_iload_n rfl rfl ?_
      refine r_iload_n rfl rfl ?_
      refine r_cs_i (vs := [va_rf r0, .int i1, .int (if i2 < (0 : Int32) then (0 : Int32) else i2), .int (if v2 < i3 then v2 else i3)]) rfl ml_RJ1_95 (rOk.of rfl) ⟨Nat.zero_le _, Nat.zero_le _⟩ rfl rfl rfl h s_J1_indexOfChar_4cfef (fun v3 M2 h => ?_)
      exact r_iret rfl rfl ⟨Nat.le_of_ble_eq_true rfl, Nat.le_of_ble_eq_true rfl⟩ h
    · refine r_iconst (v := -1) rfl (by decide) ?_
      exact r_iret rfl rfl ⟨Nat.le_of_ble_eq_true rfl, Nat.le_of_ble_eq_true rfl⟩ h
set_option maxRecDepth 20000 in
theorem dk_J0_indexOf_7cf53 : ∀ pc i, L_J0_indexOf_7cf53[pc]? = some (some i) → decode prog_18_method_80_code pc = .ok i := dk_of (by decide +kernel)
theorem s_J0_indexOf_7cf53 {d : Nat} {P : Int32 → Mem → Prop} {r0 : Option Nat} {i1 : Int32} {i2 : Int32} {M : Mem} (h : FQ (f_J0_indexOf_7cf53 r0 i1 i2 M) P) : Con Y_J0_indexOf_7cf53 (d + 5) 0 0 [va_rf r0, .int i1, .int i2] M (QI P) := by
  refine Con.of [some (va_rf r0), some (.int i1), some (.int i2)] (by decide +kernel) dk_J0_indexOf_7cf53 (by simp [Y_J0_indexOf_7cf53, cat_rf, cat_i, cat_l]) (by simp [loE, Y_J0_indexOf_7cf53, cat_rf, cat_i, cat_l, List.replicate]) ?_
  unfold f_J0_indexOf_7cf53 at h
  refine r_aload_n rfl rfl ?_
  refine r_cS_i (vs := []) rfl ml_RJ0_492 rfl (rOk.of rfl) ⟨Nat.zero_le _, Nat.zero_le _⟩ rfl rfl rfl h s_J0_isLatin1_aae02 (fun v1 M1 h => ?_)
  refine r_if_eq 23 rfl (by decide) h (fun h => ?_) (fun h => ?_)
  · refine r_aload_n rfl rfl ?_
    refine r_gS rfl fs_RJ0_9 h (fun v2 h => ?_)
    refine r_iload_n rfl rfl ?_
    refine r_iload_n rfl rfl ?_
    refine r_aload_n rfl rfl ?_
    refine r_cS_i (vs := []) rfl ml_RJ0_505 rfl (rOk.of rfl) ⟨Nat.zero_le _, Nat.zero_le _⟩ rfl rfl rfl h s_J0_length_8abf5 (fun v3 M2 h => ?_)
    exact h.no
  · refine r_aload_n rfl rfl ?_
    refine r_gS rfl fs_RJ0_9 h (fun v4 h => ?_)
    refine r_iload_n rfl rfl ?_
    refine r_iload_n rfl rfl ?_
    refine r_aload_n rfl rfl ?_
    refine r_cS_i (vs := []) rfl ml_RJ0_505 rfl (rOk.of rfl) ⟨Nat.zero_le _, Nat.zero_le _⟩ rfl rfl rfl h s_J0_length_8abf5 (fun v5 M3 h => ?_)
    refine r_cs_i (vs := [va_rf v4, .int i1, .int i2, .int v5]) rfl ml_RJ0_637 (rOk.of rfl) ⟨Nat.zero_le _, Nat.zero_le _⟩ rfl rfl rfl h s_J1_indexOf_4cfef (fun v6 M4 h => ?_)
    refine r_goto 36 rfl (by decide) ?_
    exact r_iret rfl rfl ⟨Nat.le_of_ble_eq_true rfl, Nat.le_of_ble_eq_true rfl⟩ h
set_option maxRecDepth 20000 in
theorem dk_J0_indexOf_0f7a4 : ∀ pc i, L_J0_indexOf_0f7a4[pc]? = some (some i) → decode prog_18_method_79_code pc = .ok i := dk_of (by decide +kernel)
theorem s_J0_indexOf_0f7a4 {d : Nat} {P : Int32 → Mem → Prop} {r0 : Option Nat} {i1 : Int32} {M : Mem} (h : FQ (f_J0_indexOf_0f7a4 r0 i1 M) P) : Con Y_J0_indexOf_0f7a4 (d + 6) 0 0 [va_rf r0, .int i1] M (QI P) := by
  refine Con.of [some (va_rf r0), some (.int i1)] (by decide +kernel) dk_J0_indexOf_0f7a4 (by simp [Y_J0_indexOf_0f7a4, cat_rf, cat_i, cat_l]) (by simp [loE, Y_J0_indexOf_0f7a4, cat_rf, cat_i, cat_l, List.replicate]) ?_
  unfold f_J0_indexOf_0f7a4 at h
  refine r_aload_n rfl rfl ?_
  refine r_iload_n rfl rfl ?_
  refine r_iconst (v := 0) rfl (by decide) ?_
  refine r_cS_i (vs := [.int i1, .int (0 : Int32)]) rfl ml_RJ0_633 rfl (rOk.of rfl) ⟨Nat.zero_le _, Nat.zero_le _⟩ rfl rfl rfl h s_J0_indexOf_7cf53 (fun v1 M1 h => ?_)
  exact r_iret rfl rfl ⟨Nat.le_of_ble_eq_true rfl, Nat.le_of_ble_eq_true rfl⟩ h
set_option maxRecDepth 20000 in
theorem dk_X5_sign : ∀ pc i, L_X5_sign[pc]? = some (some i) → decode prog_7_method_18_code pc = .ok i := dk_of (by decide +kernel)
theorem s_X5_sign_81 {d : Nat} {P : Int32 → Mem → Prop}   (i1 : Int32) (M : Mem) (h : FQ (f_X5_sign_81  i1 M) P) : wp Y_X5_sign (rmD (d + 7) 0 0) (FM (QI P) 0 0) 0 0 81 [none, some (.int i1), none] [] M := by
  unfold f_X5_sign_81 at h
  refine r_ldcS2 rfl rfl ?_
  refine r_iload_n rfl rfl ?_
  refine r_i2c rfl ?_
  refine r_cS_i (vs := [.int (i1.toUInt32 % 65536).toInt32]) rfl ml_5_150 rfl (rOk.of rfl) ⟨Nat.zero_le _, Nat.zero_le _⟩ rfl rfl rfl h s_J0_indexOf_0f7a4 (fun v1 M1 h => ?_)
  refine r_istore_n (lo' := [none, some (.int i1), some (.int v1)]) rfl rfl rfl rfl ?_
  refine r_iload_n rfl rfl ?_
  refine r_if_lt 109 rfl (by decide) h (fun h => ?_) (fun h => ?_)
  · refine r_bipush (v := 36) rfl (by decide) ?_
    exact r_iret rfl rfl ⟨Nat.le_of_ble_eq_true rfl, Nat.le_of_ble_eq_true rfl⟩ h
  · refine r_iload_n rfl rfl ?_
    refine r_getsT rfl fs_RX5_153 ?_
    refine r_alen rfl h (fun v2 h => ?_)
    refine r_ic_ge 109 rfl (by decide) h (fun h => ?_) (fun h => ?_)
    · refine r_bipush (v := 36) rfl (by decide) ?_
      exact r_iret rfl rfl ⟨Nat.le_of_ble_eq_true rfl, Nat.le_of_ble_eq_true rfl⟩ h
    · refine r_getsT rfl fs_RX5_153 ?_
      refine r_iload_n rfl rfl ?_
      refine r_iald8 rfl h (fun v3 h => ?_)
      refine r_goto 111 rfl (by decide) ?_
      exact r_iret rfl rfl ⟨Nat.le_of_ble_eq_true rfl, Nat.le_of_ble_eq_true rfl⟩ h
theorem s_X5_sign_32 {d : Nat} {P : Int32 → Mem → Prop}   (r0 : Option Nat) (i1 : Int32) (M : Mem) (h : FQ (f_X5_sign_32  r0 i1 M) P) : wp Y_X5_sign (rmD (d + 7) 0 0) (FM (QI P) 0 0) 0 0 32 [some (va_rf r0), some (.int i1), none] [] M := by
  unfold f_X5_sign_32 at h
  refine r_aload_n rfl rfl ?_
  refine r_getI rfl fl_5_34 rfl h (fun v1 h => ?_)
  refine r_aload_n rfl rfl ?_
  refine r_getI rfl fl_5_15 rfl h (fun v2 h => ?_)
  refine r_ic_ge 81 rfl (by decide) h (fun h => ?_) (fun h => ?_)
  · refine r_msk [false, true, true] rfl ?_
    exact s_X5_sign_81 _ _ h
  · refine r_aload_n rfl rfl ?_
    refine r_getR rfl fl_5_9 rfl h (fun v3 h => ?_)
    refine r_aload_n rfl rfl ?_
    refine r_getI rfl fl_5_34 rfl h (fun v4 h => ?_)
    refine r_iald rfl h (fun v5 h => ?_)
    refine r_bipush (v := 61) rfl (by decide) ?_
    refine r_ic_ne 81 rfl (by decide) h (fun h => ?_) (fun h => ?_)
    · refine r_aload_n rfl rfl ?_
      refine r_dup rfl (cat_rf _) ?_
      refine r_getI rfl fl_5_34 rfl h (fun v6 h => ?_)
      refine r_iconst (v := 1) rfl (by decide) ?_
      refine r_iadd rfl ?_
      refine r_putI rfl fl_5_34 (fun z => by cases z) rfl h (fun M1 h => ?_)
      refine r_iload_n rfl rfl ?_
      refine r_bipush (v := 60) rfl (by decide) ?_
      refine r_ic_ne 78 rfl (by decide) h (fun h => ?_) (fun h => ?_)
      · refine r_bipush (v := 22) rfl (by decide) ?_
        refine r_goto 80 rfl (by decide) ?_
        exact r_iret rfl rfl ⟨Nat.le_of_ble_eq_true rfl, Nat.le_of_ble_eq_true rfl⟩ h
      · refine r_bipush (v := 24) rfl (by decide) ?_
        exact r_iret rfl rfl ⟨Nat.le_of_ble_eq_true rfl, Nat.le_of_ble_eq_true rfl⟩ h
    · refine r_msk [false, true, true] rfl ?_
      exact s_X5_sign_81 _ _ h
theorem s_X5_sign {d : Nat} {P : Int32 → Mem → Prop} {r0 : Option Nat} {M : Mem} (h : FQ (f_X5_sign r0 M) P) : Con Y_X5_sign (d + 7) 0 0 [va_rf r0] M (QI P) := by
  refine Con.of [some (va_rf r0), none, none] (by decide +kernel) dk_X5_sign (by simp [Y_X5_sign, cat_rf, cat_i, cat_l]) (by simp [loE, Y_X5_sign, cat_rf, cat_i, cat_l, List.replicate]) ?_
  unfold f_X5_sign at h
  refine r_aload_n rfl rfl ?_
  refine r_getR rfl fl_5_9 rfl h (fun v1 h => ?_)
  refine r_aload_n rfl rfl ?_
  refine r_getI rfl fl_5_34 rfl h (fun v2 h => ?_)
  refine r_iald rfl h (fun v3 h => ?_)
  refine r_istore_n (lo' := [some (va_rf r0), some (.int v3), none]) rfl rfl (by simp [stOk, cat_rf]) rfl ?_
  refine r_aload_n rfl rfl ?_
  refine r_dup rfl (cat_rf _) ?_
  refine r_getI rfl fl_5_34 rfl h (fun v4 h => ?_)
  refine r_iconst (v := 1) rfl (by decide) ?_
  refine r_iadd rfl ?_
  refine r_putI rfl fl_5_34 (fun z => by cases z) rfl h (fun M1 h => ?_)
  refine r_iload_n rfl rfl ?_
  refine r_bipush (v := 60) rfl (by decide) ?_
  refine r_ic_eq 32 rfl (by decide) h (fun h => ?_) (fun h => ?_)
  · exact s_X5_sign_32 _ _ _ h
  · refine r_iload_n rfl rfl ?_
    refine r_bipush (v := 62) rfl (by decide) ?_
    refine r_ic_ne 81 rfl (by decide) h (fun h => ?_) (fun h => ?_)
    · exact s_X5_sign_32 _ _ _ h
    · refine r_msk [false, true, true] rfl ?_
      exact s_X5_sign_81 _ _ h
set_option maxRecDepth 20000 in
theorem dk_J3_checkIndex_8e157 : ∀ pc i, L_J3_checkIndex_8e157[pc]? = some (some i) → decode prog_23_method_11_code pc = .ok i := dk_of (by decide +kernel)
theorem s_J3_checkIndex_8e157 {d : Nat} {P : Int32 → Mem → Prop} {i0 : Int32} {i1 : Int32} {r2 : Option Nat} {M : Mem} (h : FQ (f_J3_checkIndex_8e157 i0 i1 r2 M) P) : Con Y_J3_checkIndex_8e157 d 0 0 [.int i0, .int i1, va_rf r2] M (QI P) := by
  refine Con.of [some (.int i0), some (.int i1), some (va_rf r2)] (by decide +kernel) dk_J3_checkIndex_8e157 (by simp [Y_J3_checkIndex_8e157, cat_rf, cat_i, cat_l]) (by simp [loE, Y_J3_checkIndex_8e157, cat_rf, cat_i, cat_l, List.replicate]) ?_
  unfold f_J3_checkIndex_8e157 at h
  refine r_iload_n rfl rfl ?_
  refine r_if_lt 9 rfl (by decide) h (fun h => ?_) (fun h => ?_)
  · refine r_aload_n rfl rfl ?_
    refine r_iload_n rfl rfl ?_
    refine r_iload_n rfl rfl ?_
    exact h.no
  · refine r_iload_n rfl rfl ?_
    refine r_iload_n rfl rfl ?_
    refine r_ic_lt 16 rfl (by decide) h (fun h => ?_) (fun h => ?_)
    · refine r_iload_n rfl rfl ?_
      exact r_iret rfl rfl ⟨Nat.le_of_ble_eq_true rfl, Nat.le_of_ble_eq_true rfl⟩ h
    · refine r_aload_n rfl rfl ?_
      refine r_iload_n rfl rfl ?_
      refine r_iload_n rfl rfl ?_
      exact h.no
set_option maxRecDepth 20000 in
theorem dk_J0_checkIndex_df160 : ∀ pc i, L_J0_checkIndex_df160[pc]? = some (some i) → decode prog_18_method_155_code pc = .ok i := dk_of (by decide +kernel)
theorem s_J0_checkIndex_df160 {d : Nat} {P : Unit → Mem → Prop} {i0 : Int32} {i1 : Int32} {M : Mem} (h : FQ (f_J0_checkIndex_df160 i0 i1 M) P) : Con Y_J0_checkIndex_df160 (d + 1) 0 0 [.int i0, .int i1] M (QV P) := by
  refine Con.of [some (.int i0), some (.int i1)] (by decide +kernel) dk_J0_checkIndex_df160 (by simp [Y_J0_checkIndex_df160, cat_rf, cat_i, cat_l]) (by simp [loE, Y_J0_checkIndex_df160, cat_rf, cat_i, cat_l, List.replicate]) ?_
  unfold f_J0_checkIndex_df160 at h
  refine r_iload_n rfl rfl ?_
  refine r_iload_n rfl rfl ?_
  refine r_getsF rfl fs_RJ0_1053 h (fun v1 h => ?_)
  refine r_cs_i (vs := [.int i0, .int i1, va_rf v1]) rfl ml_RJ0_1059 (rOk.of rfl) ⟨Nat.zero_le _, Nat.zero_le _⟩ rfl rfl rfl h s_J3_checkIndex_8e157 (fun v2 M1 h => ?_)
  refine r_pop rfl rfl ?_
  exact r_vret rfl rfl ⟨Nat.le_of_ble_eq_true rfl, Nat.le_of_ble_eq_true rfl⟩ h
set_option maxRecDepth 20000 in
theorem dk_J1_charAt_3b067 : ∀ pc i, L_J1_charAt_3b067[pc]? = some (some i) → decode prog_19_method_2_code pc = .ok i := dk_of (by decide +kernel)
theorem s_J1_charAt_3b067 {d : Nat} {P : Int32 → Mem → Prop} {r0 : Option Nat} {i1 : Int32} {M : Mem} (h : FQ (f_J1_charAt_3b067 r0 i1 M) P) : Con Y_J1_charAt_3b067 (d + 2) 0 0 [va_rf r0, .int i1] M (QI P) := by
  refine Con.of [some (va_rf r0), some (.int i1)] (by decide +kernel) dk_J1_charAt_3b067 (by simp [Y_J1_charAt_3b067, cat_rf, cat_i, cat_l]) (by simp [loE, Y_J1_charAt_3b067, cat_rf, cat_i, cat_l, List.replicate]) ?_
  unfold f_J1_charAt_3b067 at h
  refine r_iload_n rfl rfl ?_
  refine r_aload_n rfl rfl ?_
  refine r_alen rfl h (fun v1 h => ?_)
  refine r_cs_v (vs := [.int i1, .int v1]) rfl ml_RJ1_9 (rOk.of rfl) ⟨Nat.zero_le _, Nat.zero_le _⟩ rfl rfl rfl h s_J0_checkIndex_df160 (fun _ M1 h => ?_)
  refine r_aload_n rfl rfl ?_
  refine r_iload_n rfl rfl ?_
  refine r_bald10 rfl h (fun v2 h => ?_)
  refine r_sipush (v := 255) rfl (by decide) ?_
  refine r_iand rfl ?_
  refine r_i2c rfl ?_
  exact r_cret rfl rfl ⟨Nat.le_of_ble_eq_true rfl, Nat.le_of_ble_eq_true rfl⟩ h
set_option maxRecDepth 20000 in
theorem dk_J0_charAt_5068e : ∀ pc i, L_J0_charAt_5068e[pc]? = some (some i) → decode prog_18_method_56_code pc = .ok i := dk_of (by decide +kernel)
theorem s_J0_charAt_5068e {d : Nat} {P : Int32 → Mem → Prop} {r0 : Option Nat} {i1 : Int32} {M : Mem} (h : FQ (f_J0_charAt_5068e r0 i1 M) P) : Con Y_J0_charAt_5068e (d + 4) 0 0 [va_rf r0, .int i1] M (QI P) := by
  refine Con.of [some (va_rf r0), some (.int i1)] (by decide +kernel) dk_J0_charAt_5068e (by simp [Y_J0_charAt_5068e, cat_rf, cat_i, cat_l]) (by simp [loE, Y_J0_charAt_5068e, cat_rf, cat_i, cat_l, List.replicate]) ?_
  unfold f_J0_charAt_5068e at h
  refine r_aload_n rfl rfl ?_
  refine r_cS_i (vs := []) rfl ml_RJ0_492 rfl (rOk.of rfl) ⟨Nat.zero_le _, Nat.zero_le _⟩ rfl rfl rfl h s_J0_isLatin1_aae02 (fun v1 M1 h => ?_)
  refine r_if_eq 16 rfl (by decide) h (fun h => ?_) (fun h => ?_)
  · refine r_aload_n rfl rfl ?_
    refine r_gS rfl fs_RJ0_9 h (fun v2 h => ?_)
    refine r_iload_n rfl rfl ?_
    exact h.no
  · refine r_aload_n rfl rfl ?_
    refine r_gS rfl fs_RJ0_9 h (fun v3 h => ?_)
    refine r_iload_n rfl rfl ?_
    refine r_cs_i (vs := [va_rf v3, .int i1]) rfl ml_RJ0_495 (rOk.of rfl) ⟨Nat.zero_le _, Nat.zero_le _⟩ rfl rfl rfl h s_J1_charAt_3b067 (fun v4 M2 h => ?_)
    exact r_cret rfl rfl ⟨Nat.le_of_ble_eq_true rfl, Nat.le_of_ble_eq_true rfl⟩ h
set_option maxRecDepth 20000 in
theorem dk_X5_word : ∀ pc i, L_X5_word[pc]? = some (some i) → decode prog_7_method_17_code pc = .ok i := dk_of (by decide +kernel)
theorem sb_X5_word_12 {d : Nat} {P : Int32 → Mem → Prop} {q12 : Option Nat → Int32 → Int32 → Int32 → Int32 → Mem → Option (Int32 × Mem)} (hq12 : ∀ (r0 : Option Nat) (i1 : Int32) (i2 : Int32) (i3 : Int32) (i4 : Int32) (M : Mem), FQ (q12 r0 i1 i2 i3 i4 M) P → wp Y_X5_word (rmD (d + 5) 0 0) (FM (QI P) 0 0) 0 0 12 [some (va_rf r0), some (.int i1), some (.int i2), some (.int i3), some (.int i4), none] [] M) (r0 : Option Nat) (i1 : Int32) (i2 : Int32) (i3 : Int32) (i4 : Int32) (M : Mem) (h : FQ (b_X5_word_12 q12 r0 i1 i2 i3 i4 M) P) : wp Y_X5_word (rmD (d + 5) 0 0) (FM (QI P) 0 0) 0 0 12 [some (va_rf r0), some (.int i1), some (.int i2), some (.int i3), some (.int i4), none] [] M := by
  unfold b_X5_word_12 at h
  refine r_iload rfl rfl ?_
  refine r_ldcS1 rfl rfl ?_
  refine r_cS_i (vs := []) rfl ml_5_140 rfl (rOk.of rfl) ⟨Nat.zero_le _, Nat.zero_le _⟩ rfl rfl rfl h s_J0_length_8abf5 (fun v1 M1 h => ?_)
  refine r_ic_ge 103 rfl (by decide) h (fun h => ?_) (fun h => ?_)
  · refine r_bipush (v := 36) rfl (by decide) ?_
    exact r_iret rfl rfl ⟨Nat.le_of_ble_eq_true rfl, Nat.le_of_ble_eq_true rfl⟩ h
  · refine r_ldcS1 rfl rfl ?_
    refine r_iload rfl rfl ?_
    refine r_cS_i (vs := [.int i4]) rfl ml_5_144 rfl (rOk.of rfl) ⟨Nat.zero_le _, Nat.zero_le _⟩ rfl rfl rfl h s_J0_charAt_5068e (fun v2 M2 h => ?_)
    refine r_istore (lo' := [some (va_rf r0), some (.int i1), some (.int i2), some (.int i3), some (.int i4), some (.int v2)]) rfl rfl rfl rfl ?_
    refine r_iload rfl rfl ?_
    refine r_bipush (v := 32) rfl (by decide) ?_
    refine r_ic_eq 73 rfl (by decide) h (fun h => ?_) (fun h => ?_)
    · refine r_iload_n rfl rfl ?_
      refine r_if_eq 87 rfl (by decide) h (fun h => ?_) (fun h => ?_)
      · refine r_iinc (v := 1) (lo' := [some (va_rf r0), some (.int (i1 + (1 : Int32))), some (.int i2), some (.int i3), some (.int i4), some (.int v2)]) rfl rfl rfl (by decide) (by simp [stOk, cat_rf]) rfl ?_
        refine r_aload_n rfl rfl ?_
        refine r_getI rfl fl_5_49 rfl h (fun v3 h => ?_)
        refine r_istore_n (lo' := [some (va_rf r0), some (.int (i1 + (1 : Int32))), some (.int v3), some (.int i3), some (.int i4), some (.int v2)]) rfl rfl rfl rfl ?_
        refine r_iconst (v := 1) rfl (by decide) ?_
        refine r_istore_n (lo' := [some (va_rf r0), some (.int (i1 + (1 : Int32))), some (.int v3), some (.int (1 : Int32)), some (.int i4), some (.int v2)]) rfl rfl rfl rfl ?_
        refine r_iinc (v := 1) (lo' := [some (va_rf r0), some (.int (i1 + (1 : Int32))), some (.int v3), some (.int (1 : Int32)), some (.int (i4 + (1 : Int32))), some (.int v2)]) rfl rfl rfl (by decide) rfl rfl ?_
        refine r_goto 12 rfl (by decide) ?_
        refine r_msk [true, true, true, true, true, false] rfl ?_
        exact hq12 _ _ _ _ _ _ h
      · refine r_iload_n rfl rfl ?_
        refine r_aload_n rfl rfl ?_
        refine r_getI rfl fl_5_34 rfl h (fun v4 h => ?_)
        refine r_ic_ne 87 rfl (by decide) h (fun h => ?_) (fun h => ?_)
        · refine r_iload_n rfl rfl ?_
          exact r_iret rfl rfl ⟨Nat.le_of_ble_eq_true rfl, Nat.le_of_ble_eq_true rfl⟩ h
        · refine r_iinc (v := 1) (lo' := [some (va_rf r0), some (.int (i1 + (1 : Int32))), some (.int i2), some (.int i3), some (.int i4), some (.int v2)]) rfl rfl rfl (by decide) (by simp [stOk, cat_rf]) rfl ?_
          refine r_aload_n rfl rfl ?_
          refine r_getI rfl fl_5_49 rfl h (fun v5 h => ?_)
          refine r_istore_n (lo' := [some (va_rf r0), some (.int (i1 + (1 : Int32))), some (.int v5), some (.int i3), some (.int i4), some (.int v2)]) rfl rfl rfl rfl ?_
          refine r_iconst (v := 1) rfl (by decide) ?_
          refine r_istore_n (lo' := [some (va_rf r0), some (.int (i1 + (1 : Int32))), some (.int v5), some (.int (1 : Int32)), some (.int i4), some (.int v2)]) rfl rfl rfl rfl ?_
          refine r_iinc (v := 1) (lo' := [some (va_rf r0), some (.int (i1 + (1 : Int32))), some (.int v5), some (.int (1 : Int32)), some (.int (i4 + (1 : Int32))), some (.int v2)]) rfl rfl rfl (by decide) rfl rfl ?_
          refine r_goto 12 rfl (by decide) ?_
          refine r_msk [true, true, true, true, true, false] rfl ?_
          exact hq12 _ _ _ _ _ _ h
    · refine r_iload_n rfl rfl ?_
      refine r_if_eq 65 rfl (by decide) h (fun h => ?_) (fun h => ?_)
      · refine r_iconst (v := 0) rfl (by decide) ?_
        refine r_istore_n (lo' := [some (va_rf r0), some (.int i1), some (.int i2), some (.int (0 : Int32)), some (.int i4), some (.int v2)]) rfl rfl rfl rfl ?_
        refine r_iinc (v := 1) (lo' := [some (va_rf r0), some (.int i1), some (.int (i2 + (1 : Int32))), some (.int (0 : Int32)), some (.int i4), some (.int v2)]) rfl rfl rfl (by decide) rfl rfl ?_
        refine r_goto 97 rfl (by decide) ?_
        refine r_iinc (v := 1) (lo' := [some (va_rf r0), some (.int i1), some (.int (i2 + (1 : Int32))), some (.int (0 : Int32)), some (.int (i4 + (1 : Int32))), some (.int v2)]) rfl rfl rfl (by decide) rfl rfl ?_
        refine r_goto 12 rfl (by decide) ?_
        refine r_msk [true, true, true, true, true, false] rfl ?_
        exact hq12 _ _ _ _ _ _ h
      · refine r_iload_n rfl rfl ?_
        refine r_aload_n rfl rfl ?_
        refine r_getI rfl fl_5_34 rfl h (fun v6 h => ?_)
        refine r_ic_ge 65 rfl (by decide) h (fun h => ?_) (fun h => ?_)
        · refine r_iconst (v := 0) rfl (by decide) ?_
          refine r_istore_n (lo' := [some (va_rf r0), some (.int i1), some (.int i2), some (.int (0 : Int32)), some (.int i4), some (.int v2)]) rfl rfl rfl rfl ?_
          refine r_iinc (v := 1) (lo' := [some (va_rf r0), some (.int i1), some (.int (i2 + (1 : Int32))), some (.int (0 : Int32)), some (.int i4), some (.int v2)]) rfl rfl rfl (by decide) rfl rfl ?_
          refine r_goto 97 rfl (by decide) ?_
          refine r_iinc (v := 1) (lo' := [some (va_rf r0), some (.int i1), some (.int (i2 + (1 : Int32))), some (.int (0 : Int32)), some (.int (i4 + (1 : Int32))), some (.int v2)]) rfl rfl rfl (by decide) rfl rfl ?_
          refine r_goto 12 rfl (by decide) ?_
          refine r_msk [true, true, true, true, true, false] rfl ?_
          exact hq12 _ _ _ _ _ _ h
        · refine r_aload_n rfl rfl ?_
          refine r_getR rfl fl_5_9 rfl h (fun v7 h => ?_)
          refine r_iload_n rfl rfl ?_
          refine r_iald rfl h (fun v8 h => ?_)
          refine r_iload rfl rfl ?_
          refine r_ic_ne 65 rfl (by decide) h (fun h => ?_) (fun h => ?_)
          · refine r_iconst (v := 1) rfl (by decide) ?_
            refine r_goto 66 rfl (by decide) ?_
            refine r_istore_n (lo' := [some (va_rf r0), some (.int i1), some (.int i2), some (.int (1 : Int32)), some (.int i4), some (.int v2)]) rfl rfl rfl rfl ?_
            refine r_iinc (v := 1) (lo' := [some (va_rf r0), some (.int i1), some (.int (i2 + (1 : Int32))), some (.int (1 : Int32)), some (.int i4), some (.int v2)]) rfl rfl rfl (by decide) rfl rfl ?_
            refine r_goto 97 rfl (by decide) ?_
            refine r_iinc (v := 1) (lo' := [some (va_rf r0), some (.int i1), some (.int (i2 + (1 : Int32))), some (.int (1 : Int32)), some (.int (i4 + (1 : Int32))), some (.int v2)]) rfl rfl rfl (by decide) rfl rfl ?_
            refine r_goto 12 rfl (by decide) ?_
            refine r_msk [true, true, true, true, true, false] rfl ?_
            exact hq12 _ _ _ _ _ _ h
          · refine r_iconst (v := 0) rfl (by decide) ?_
            refine r_istore_n (lo' := [some (va_rf r0), some (.int i1), some (.int i2), some (.int (0 : Int32)), some (.int i4), some (.int v2)]) rfl rfl rfl rfl ?_
            refine r_iinc (v := 1) (lo' := [some (va_rf r0), some (.int i1), some (.int (i2 + (1 : Int32))), some (.int (0 : Int32)), some (.int i4), some (.int v2)]) rfl rfl rfl (by decide) rfl rfl ?_
            refine r_goto 97 rfl (by decide) ?_
            refine r_iinc (v := 1) (lo' := [some (va_rf r0), some (.int i1), some (.int (i2 + (1 : Int32))), some (.int (0 : Int32)), some (.int (i4 + (1 : Int32))), some (.int v2)]) rfl rfl rfl (by decide) rfl rfl ?_
            refine r_goto 12 rfl (by decide) ?_
            refine r_msk [true, true, true, true, true, false] rfl ?_
            exact hq12 _ _ _ _ _ _ h
theorem s_X5_word_12 {d : Nat} {P : Int32 → Mem → Prop}   : ∀ (k : Nat) (r0 : Option Nat) (i1 : Int32) (i2 : Int32) (i3 : Int32) (i4 : Int32) (M : Mem), FQ (f_X5_word_12  k r0 i1 i2 i3 i4 M) P → wp Y_X5_word (rmD (d + 5) 0 0) (FM (QI P) 0 0) 0 0 12 [some (va_rf r0), some (.int i1), some (.int i2), some (.int i3), some (.int i4), none] [] M
  | 0, _, _, _, _, _, _, h => h.no
  | k + 1, r0, i1, i2, i3, i4, M, h => sb_X5_word_12  (s_X5_word_12  k) r0 i1 i2 i3 i4 M h
theorem s_X5_word {d : Nat} {P : Int32 → Mem → Prop} {r0 : Option Nat} {M : Mem} (h : FQ (f_X5_word r0 M) P) : Con Y_X5_word (d + 5) 0 0 [va_rf r0] M (QI P) := by
  refine Con.of [some (va_rf r0), none, none, none, none, none] (by decide +kernel) dk_X5_word (by simp [Y_X5_word, cat_rf, cat_i, cat_l]) (by simp [loE, Y_X5_word, cat_rf, cat_i, cat_l, List.replicate]) ?_
  unfold f_X5_word at h
  refine r_iconst (v := 0) rfl (by decide) ?_
  refine r_istore_n (lo' := [some (va_rf r0), some (.int (0 : Int32)), none, none, none, none]) rfl rfl (by simp [stOk, cat_rf]) rfl ?_
  refine r_aload_n rfl rfl ?_
  refine r_getI rfl fl_5_49 rfl h (fun v1 h => ?_)
  refine r_istore_n (lo' := [some (va_rf r0), some (.int (0 : Int32)), some (.int v1), none, none, none]) rfl rfl rfl rfl ?_
  refine r_iconst (v := 1) rfl (by decide) ?_
  refine r_istore_n (lo' := [some (va_rf r0), some (.int (0 : Int32)), some (.int v1), some (.int (1 : Int32)), none, none]) rfl rfl rfl rfl ?_
  refine r_iconst (v := 0) rfl (by decide) ?_
  refine r_istore (lo' := [some (va_rf r0), some (.int (0 : Int32)), some (.int v1), some (.int (1 : Int32)), some (.int (0 : Int32)), none]) rfl rfl rfl rfl ?_
  exact s_X5_word_12 FU _ _ _ _ _ _ h
