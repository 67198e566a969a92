def fJ0_coder_7d493 (k : Nat) (u : St) : Option (Int32 × St) :=
if (1 : Int32) = 0 then
(some (1, u))
else
some (0, u)
def fJ0_isLatin1_aae02 (k : Nat) (u : St) : Option (Int32 × St) :=
if (1 : Int32) = 0 then
(some (0, u))
else
if (0 : Int32) = 0 then
(some (1, u))
else
some (0, u)
def fJ0_length_8abf5 (k : Nat) (u : St) : Option (Int32 × St) :=
b2 (fJ0_coder_7d493 k u) fun r2 u1 =>
some ((Int32.ofNat (strN.getD k 0)) >>> (r2 &&& 31), u1)
def fJ1_canEncode_9a6ad (a0 : Int32) (u : St) : Option (Int32 × St) :=
if a0 < 0 then
(some (0, u))
else
if 255 < a0 then
(some (0, u))
else
some (1, u)
def fJ1_indexOfChar_4cfef_L0_0 (a0 : Nat) (rec : Nat → Int32 → Int32 → Int32 → St → Option (Int32 × St)) (x3_ : Int32) (x4_ : Int32) (x5_ : Int32) (u : St) : Option (Int32 × St) :=
if x3_ ≤ x5_ then
(some ((-1), u))
else
bd (ldS a0 x5_) fun v2 =>
if v2 = x4_ then
(some (x5_, u))
else
lt (x5_ + 1 : Int32) fun x4 =>
rec 0 x3_ x4_ x4 u
def fJ1_indexOfChar_4cfef_L0 (a0 : Nat) : Nat → Nat → Int32 → Int32 → Int32 → St → Option (Int32 × St)
  | 0 => fun _ _ _ _ _ => none
  | n + 1 => fun q x3_ x4_ x5_ u => match q with
    | 0 => fJ1_indexOfChar_4cfef_L0_0 a0 (fJ1_indexOfChar_4cfef_L0 a0 n) x3_ x4_ x5_ u
    | _ => none
def fJ1_indexOfChar_4cfef (a0 : Nat) (a1 : Int32) (a2 : Int32) (a3 : Int32) (u : St) : Option (Int32 × St) :=
lt (a1.toInt8.toInt32 : Int32) fun x5 =>
fJ1_indexOfChar_4cfef_L0 a0 FU 0 a3 x5 a2 u
def fJ1_indexOf_4cfef (a0 : Nat) (a1 : Int32) (a2 : Int32) (a3 : Int32) (u : St) : Option (Int32 × St) :=
b2 (fJ1_canEncode_9a6ad a1 u) fun r2 u1 =>
if r2 = 0 then
(some ((-1), u1))
else
lt (if a2 < 0 then 0 else a2 : Int32) fun x4 =>
lt (if Int32.ofNat (strN.getD a0 0) < a3 then Int32.ofNat (strN.getD a0 0) else a3 : Int32) fun x5 =>
if x4 < x5 then
(b2 (fJ1_indexOfChar_4cfef a0 a1 x4 x5 u1) fun r8 u7 =>
some (r8, u7))
else
some ((-1), u1)
def fJ0_indexOf_7cf53 (k : Nat) (a0 : Int32) (a1 : Int32) (u : St) : Option (Int32 × St) :=
b2 (fJ0_isLatin1_aae02 k u) fun r2 u1 =>
if r2 = 0 then
(b2 (fJ0_length_8abf5 k u1) fun r5 u4 =>
none)
else
b2 (fJ0_length_8abf5 k u1) fun r7 u6 =>
b2 (fJ1_indexOf_4cfef k a0 a1 r7 u6) fun r9 u8 =>
some (r9, u8)
def fJ0_indexOf_0f7a4 (k : Nat) (a0 : Int32) (u : St) : Option (Int32 × St) :=
b2 (fJ0_indexOf_7cf53 k a0 0 u) fun r2 u1 =>
some (r2, u1)
def fX0_functionFits (u : St) : Option (Int32 × St) :=
if 5 < (gI u 5 12) then
(some (0, u))
else
if 200000000 ≤ (gI u 2 4) then
(some (0, u))
else
some (1, u)
def fX0_newVariable (u : St) : Option (Int32 × St) :=
lt (uI u 5 13 ((gI u 5 13) + 1)) fun u1 =>
if 290 ≤ (gI u1 5 12) then
(some (-(gI u1 5 13), u1))
else
bd (st u1 47 290 (gI u1 5 12) (-(gI u1 5 13))) fun u3 =>
lt (uI u3 5 12 ((gI u3 5 12) + 1)) fun u4 =>
some (-(gI u4 5 13), u4)
def fX0_enter_j26 (x1_ : Int32) (x2_ : Int32) (u : St) : Option (St) :=
bd (st u 44 40 (gI u 5 10) x1_) fun u1 =>
bd (ld u1 43 1501 x1_) fun v2 =>
bd (st u1 45 40 (gI u1 5 10) v2) fun u3 =>
bd (st u3 46 40 (gI u3 5 10) (gI u3 5 12)) fun u4 =>
lt (uI u4 5 10 ((gI u4 5 10) + 1)) fun u5 =>
if x2_ = 0 then
(lt (uI u5 2 4 ((gI u5 2 4) + 1)) fun u7 =>
lt (4096 + (gI u7 2 4) : Int32) fun x8 =>
bd (st u7 43 1501 x1_ ((x8 <<< (3 &&& 31)) ||| (gI u7 5 12))) fun u9 =>
some u9)
else
b2 (fX0_newVariable u5) fun r11 u10 =>
bd (st u10 43 1501 x1_ r11) fun u12 =>
some u12
def fX0_enter (a0 : Int32) (a1 : Int32) (u : St) : Option (St) :=
if 40 ≤ (gI u 5 10) then
(lt (uI u 5 5 1) fun u14 =>
some u14)
else
if a1 = 0 then
(b2 (fX0_functionFits u) fun r17 u16 =>
if r17 = 0 then
(lt (uI u16 5 5 1) fun u19 =>
some u19)
else
fX0_enter_j26 a0 a1 u16)
else
fX0_enter_j26 a0 a1 u
def fX0_leave (u : St) : Option (St) :=
if (gI u 5 10) ≤ 0 then
(some u)
else
lt (uI u 5 10 ((gI u 5 10) - 1)) fun u2 =>
bd (ld u2 44 40 (gI u2 5 10)) fun v3 =>
bd (ld u2 45 40 (gI u2 5 10)) fun v4 =>
bd (st u2 43 1501 v3 v4) fun u5 =>
bd (ld u5 46 40 (gI u5 5 10)) fun v6 =>
lt (uI u5 5 12 v6) fun u7 =>
some u7
def fX10_beginLiteral (a0 : Int32) (u : St) : Option (Int32 × St) :=
if (gI u 6 4) < 600 then
(bd (zb a0) fun z3 =>
bd (st u 50 600 (gI u 6 4) a0) fun u2 =>
some (1, u2))
else
some (0, u)
def fX10_addCell (a0 : Int32) (u : St) : Option (St) :=
if 18000 ≤ (gI u 6 1) then
(some u)
else
bd (st u 48 18000 (gI u 6 1) a0) fun u2 =>
lt (uI u2 6 1 ((gI u2 6 1) + 1)) fun u3 =>
some u3
def fX10_endClause (u : St) : Option (Int32 × St) :=
if (gI u 6 7) < 600 then
(lt (uI u 6 7 ((gI u 6 7) + 1)) fun u2 =>
bd (st u2 52 601 (gI u2 6 7) (gI u2 6 11)) fun u3 =>
some (1, u3))
else
some (0, u)
def fX10_pushSet (a0 : Int32) (u : St) : Option (Int32 × St) :=
if (gI u 6 10) < 400 then
(bd (st u 53 400 (gI u 6 10) a0) fun u2 =>
bd (st u2 54 400 (gI u2 6 10) (gI u2 6 7)) fun u3 =>
lt (uI u3 6 10 ((gI u3 6 10) + 1)) fun u4 =>
some (1, u4))
else
some (0, u)
def fX10_endLiteral (u : St) : Option (Int32 × St) :=
lt (uI u 6 4 ((gI u 6 4) + 1)) fun u1 =>
bd (st u1 49 601 (gI u1 6 4) (gI u1 6 1)) fun u2 =>
if (gI u2 6 11) < 6000 then
(lt (gI u2 6 7 : Int32) fun x4 =>
bd (st u2 51 6000 (gI u2 6 11) ((gI u2 6 4) - 1)) fun u5 =>
lt (uI u5 6 11 ((gI u5 6 11) + 1)) fun u6 =>
b2 (fX10_endClause u6) fun r8 u7 =>
if r8 = 0 then
(some (0, u7))
else
b2 (fX10_pushSet x4 u7) fun r11 u10 =>
if r11 = 0 then
(some (0, u10))
else
some (1, u10))
else
some (0, u2)
def fX0_literal_L0_0 (rec : Nat → Int32 → Int32 → Int32 → Int32 → St → Option (St)) (x2_ : Int32) (x4_ : Int32) (u : St) : Option (St) :=
if x2_ ≤ x4_ then
(b2 (fX10_endLiteral u) fun r3 u2 =>
if r3 = 0 then
(bd (zb ((gI u 5 5) ||| 1)) fun z8 =>
lt (uI u2 5 5 ((gI u 5 5) ||| 1)) fun u7 =>
some u7)
else
bd (zb ((gI u 5 5) ||| 0)) fun z6 =>
lt (uI u2 5 5 ((gI u 5 5) ||| 0)) fun u5 =>
some u5)
else
bd (ld u 37 1501 x4_) fun v9 =>
if v9 < 0 then
(bd (ld u 43 1501 ((-1) - v9)) fun v11 =>
bd (fX10_addCell v11 u) fun u12 =>
if 0 ≤ v11 then
(lt (v11 &&& 7 : Int32) fun x14 =>
lt (0 : Int32) fun x15 =>
rec 1 x2_ x4_ x14 x15 u12)
else
lt (0 : Int32) fun x16 =>
lt (0 : Int32) fun x17 =>
rec 1 x2_ x4_ x16 x17 u12)
else
bd (fX10_addCell v9 u) fun u18 =>
lt (x4_ + 1 : Int32) fun x19 =>
rec 0 x2_ x19 0 0 u18
def fX0_literal_L0_1 (rec : Nat → Int32 → Int32 → Int32 → Int32 → St → Option (St)) (x2_ : Int32) (x4_ : Int32) (x7_ : Int32) (x8_ : Int32) (u : St) : Option (St) :=
if x7_ ≤ x8_ then
(lt (x4_ + 1 : Int32) fun x21 =>
rec 0 x2_ x21 0 0 u)
else
bd (ld u 47 290 x8_) fun v22 =>
bd (fX10_addCell v22 u) fun u23 =>
lt (x8_ + 1 : Int32) fun x24 =>
rec 1 x2_ x4_ x7_ x24 u23
def fX0_literal_L0 : Nat → Nat → Int32 → Int32 → Int32 → Int32 → St → Option (St)
  | 0 => fun _ _ _ _ _ _ => none
  | n + 1 => fun q x2_ x4_ x7_ x8_ u => match q with
    | 0 => fX0_literal_L0_0  (fX0_literal_L0  n) x2_ x4_ u
    | 1 => fX0_literal_L0_1  (fX0_literal_L0  n) x2_ x4_ x7_ x8_ u
    | _ => none
def fX0_literal (a0 : Int32) (a1 : Int32) (a2 : Int32) (u : St) : Option (St) :=
b2 (fX10_beginLiteral a2 u) fun r26 u25 =>
if r26 = 0 then
(lt (uI u25 5 5 1) fun u28 =>
some u28)
else
fX0_literal_L0 FU 0 a1 a0 0 0 u25
def fX10_begin (u : St) : Option (St) :=
lt (uI u 6 1 0) fun u1 =>
lt (uI u1 6 4 0) fun u2 =>
lt (uI u2 6 7 0) fun u3 =>
lt (uI u3 6 10 0) fun u4 =>
lt (uI u4 6 11 0) fun u5 =>
some u5
def fX0_push (a0 : Int32) (a1 : Int32) (u : St) : Option (St) :=
if (gI u 5 4) < 4500 then
(bd (st u 42 4500 (gI u 5 4) ((a1 <<< (3 &&& 31)) ||| a0)) fun u2 =>
lt (uI u2 5 4 ((gI u2 5 4) + 1)) fun u3 =>
some u3)
else
lt (uI u 5 5 1) fun u4 =>
some u4
def fX10_copyMembers (a0 : Int32) (u : St) : Option (Int32 × St) :=
bd (ld u 52 601 a0) fun v1 =>
bd (ld u 52 601 (a0 + 1)) fun v2 =>
lt (v2 - v1 : Int32) fun x3 =>
if ((gI u 6 11) + x3) ≤ 6000 then
(bd (cpA u 51 6000 v1 (gI u 6 11) x3) fun u5 =>
lt (uI u5 6 11 ((gI u5 6 11) + x3)) fun u6 =>
some (1, u6))
else
some (0, u)
def fX10_both_L0_0 (rec : Nat → Int32 → Int32 → Int32 → St → Option (Int32 × St)) (x1_ : Int32) (x2_ : Int32) (u : St) : Option (Int32 × St) :=
if ((gI u 6 10) + 1) < x2_ then
(b2 (fX10_pushSet x1_ u) fun r3 u2 =>
bd (zb r3) fun z4 =>
some (r3, u2))
else
bd (ld u 53 400 x2_) fun v5 =>
rec 1 x1_ x2_ v5 u
def fX10_both_L0_1 (rec : Nat → Int32 → Int32 → Int32 → St → Option (Int32 × St)) (x1_ : Int32) (x2_ : Int32) (x3_ : Int32) (u : St) : Option (Int32 × St) :=
bd (ld u 54 400 x2_) fun v6 =>
if v6 ≤ x3_ then
(lt (x2_ + 1 : Int32) fun x8 =>
rec 0 x1_ x8 0 u)
else
b2 (fX10_copyMembers x3_ u) fun r10 u9 =>
if r10 = 0 then
(some (0, u9))
else
b2 (fX10_endClause u9) fun r13 u12 =>
if r13 = 0 then
(some (0, u12))
else
lt (x3_ + 1 : Int32) fun x15 =>
rec 1 x1_ x2_ x15 u12
def fX10_both_L0 : Nat → Nat → Int32 → Int32 → Int32 → St → Option (Int32 × St)
  | 0 => fun _ _ _ _ _ => none
  | n + 1 => fun q x1_ x2_ x3_ u => match q with
    | 0 => fX10_both_L0_0  (fX10_both_L0  n) x1_ x2_ u
    | 1 => fX10_both_L0_1  (fX10_both_L0  n) x1_ x2_ x3_ u
    | _ => none
def fX10_both (u : St) : Option (Int32 × St) :=
if 2 ≤ (gI u 6 10) then
(lt (uI u 6 10 ((gI u 6 10) - 2)) fun u17 =>
lt (gI u17 6 7 : Int32) fun x18 =>
lt (gI u17 6 10 : Int32) fun x19 =>
fX10_both_L0 FU 0 x18 x19 0 u17)
else
some (0, u)
def fX10_either_L0_0 (rec : Nat → Int32 → Int32 → Int32 → St → Option (Int32 × St)) (x1_ : Int32) (x2_ : Int32) (u : St) : Option (Int32 × St) :=
bd (ld u 54 400 (gI u 6 10)) fun v1 =>
if v1 ≤ x2_ then
(b2 (fX10_pushSet x1_ u) fun r4 u3 =>
bd (zb r4) fun z5 =>
some (r4, u3))
else
bd (ld u 53 400 ((gI u 6 10) + 1)) fun v6 =>
rec 1 x1_ x2_ v6 u
def fX10_either_L0_1 (rec : Nat → Int32 → Int32 → Int32 → St → Option (Int32 × St)) (x1_ : Int32) (x2_ : Int32) (x3_ : Int32) (u : St) : Option (Int32 × St) :=
bd (ld u 54 400 ((gI u 6 10) + 1)) fun v7 =>
if v7 ≤ x3_ then
(lt (x2_ + 1 : Int32) fun x9 =>
rec 0 x1_ x9 0 u)
else
b2 (fX10_copyMembers x2_ u) fun r11 u10 =>
if r11 = 0 then
(some (0, u10))
else
b2 (fX10_copyMembers x3_ u10) fun r14 u13 =>
if r14 = 0 then
(some (0, u13))
else
b2 (fX10_endClause u13) fun r17 u16 =>
if r17 = 0 then
(some (0, u16))
else
lt (x3_ + 1 : Int32) fun x19 =>
rec 1 x1_ x2_ x19 u16
def fX10_either_L0 : Nat → Nat → Int32 → Int32 → Int32 → St → Option (Int32 × St)
  | 0 => fun _ _ _ _ _ => none
  | n + 1 => fun q x1_ x2_ x3_ u => match q with
    | 0 => fX10_either_L0_0  (fX10_either_L0  n) x1_ x2_ u
    | 1 => fX10_either_L0_1  (fX10_either_L0  n) x1_ x2_ x3_ u
    | _ => none
def fX10_either (u : St) : Option (Int32 × St) :=
if 2 ≤ (gI u 6 10) then
(lt (uI u 6 10 ((gI u 6 10) - 2)) fun u21 =>
lt (gI u21 6 7 : Int32) fun x22 =>
bd (ld u21 53 400 (gI u21 6 10)) fun v23 =>
fX10_either_L0 FU 0 x22 v23 0 u21)
else
some (0, u)
def fX0_pushPair (a0 : Int32) (a1 : Int32) (a2 : Int32) (a3 : Int32) (a4 : Int32) (u : St) : Option (St) :=
bd (fX0_push a0 0 u) fun u1 =>
bd (fX0_push a3 a4 u1) fun u2 =>
bd (fX0_push a1 a2 u2) fun u3 =>
some u3
def fX0_visit_j245 (x2_ : Int32) (x4_ : Int32) (s0_ : Int32) (s1_ : Int32) (u : St) : Option (St) :=
bd (fX0_enter s0_ s1_ u) fun u1 =>
bd (fX0_push 4 0 u1) fun u2 =>
bd (fX0_push x2_ x4_ u2) fun u3 =>
some u3
def fX0_visit_j228 (x2_ : Int32) (x4_ : Int32) (s0_ : Int32) (s1_ : Int32) (u : St) : Option (St) :=
if x2_ = 0 then
(if s1_ = 1 then
(fX0_visit_j245 x2_ x4_ s0_ 1 u)
else
fX0_visit_j245 x2_ x4_ s0_ 0 u)
else
if s1_ = 0 then
(fX0_visit_j245 x2_ x4_ s0_ 1 u)
else
fX0_visit_j245 x2_ x4_ s0_ 0 u
def fX0_visit_j52 (x1_ : Int32) (x2_ : Int32) (x3_ : Int32) (x4_ : Int32) (x5_ : Int32) (x6_ : Int32) (s0_ : Int32) (u : St) : Option (St) :=
bd (ld u 33 1501 x1_) fun v7 =>
if v7 = 0 then
(if x2_ = 1 then
(bd (fX0_literal x3_ x4_ 1 u) fun u11 =>
some u11)
else
bd (fX0_literal x3_ x4_ 0 u) fun u10 =>
some u10)
else
if v7 = 1 then
(bd (fX0_push x5_ x3_ u) fun u13 =>
some u13)
else
if v7 = 2 then
(bd (fX0_pushPair s0_ x2_ x3_ x2_ x4_ u) fun u15 =>
some u15)
else
if v7 = 3 then
(bd (fX0_pushPair x6_ x2_ x3_ x2_ x4_ u) fun u17 =>
some u17)
else
if v7 = 4 then
(bd (fX0_pushPair x6_ x5_ x3_ x2_ x4_ u) fun u19 =>
some u19)
else
if v7 = 5 then
(bd (fX0_push s0_ 0 u) fun u21 =>
bd (fX0_pushPair x6_ x5_ x4_ x2_ x3_ u21) fun u22 =>
bd (fX0_pushPair x6_ x5_ x3_ x2_ x4_ u22) fun u23 =>
some u23)
else
bd (ld u 33 1501 x1_) fun v24 =>
if v24 = 6 then
(fX0_visit_j228 x2_ x4_ x3_ 1 u)
else
fX0_visit_j228 x2_ x4_ x3_ 0 u
def fX0_visit_j41 (x1_ : Int32) (x2_ : Int32) (x3_ : Int32) (x4_ : Int32) (x5_ : Int32) (s0_ : Int32) (u : St) : Option (St) :=
if x2_ = 0 then
(fX0_visit_j52 x1_ x2_ x3_ x4_ x5_ s0_ 2 u)
else
fX0_visit_j52 x1_ x2_ x3_ x4_ x5_ s0_ 3 u
def fX0_visit_j30 (x1_ : Int32) (x2_ : Int32) (x3_ : Int32) (x4_ : Int32) (s0_ : Int32) (u : St) : Option (St) :=
if x2_ = 0 then
(fX0_visit_j41 x1_ x2_ x3_ x4_ s0_ 3 u)
else
fX0_visit_j41 x1_ x2_ x3_ x4_ s0_ 2 u
def fX0_visit (a0 : Int32) (a1 : Int32) (u : St) : Option (St) :=
bd (ld u 34 1501 a0) fun v28 =>
bd (ld u 35 1501 a0) fun v29 =>
if a1 = 0 then
(fX0_visit_j30 a0 a1 v28 v29 1 u)
else
fX0_visit_j30 a0 a1 v28 v29 0 u
def fX0_perform (a0 : Int32) (a1 : Int32) (u : St) : Option (St) :=
if a0 = 2 then
(b2 (fX10_both u) fun r3 u2 =>
if r3 = 0 then
(bd (zb ((gI u 5 5) ||| 1)) fun z8 =>
lt (uI u2 5 5 ((gI u 5 5) ||| 1)) fun u7 =>
some u7)
else
bd (zb ((gI u 5 5) ||| 0)) fun z6 =>
lt (uI u2 5 5 ((gI u 5 5) ||| 0)) fun u5 =>
some u5)
else
if a0 = 3 then
(b2 (fX10_either u) fun r11 u10 =>
if r11 = 0 then
(bd (zb ((gI u 5 5) ||| 1)) fun z16 =>
lt (uI u10 5 5 ((gI u 5 5) ||| 1)) fun u15 =>
some u15)
else
bd (zb ((gI u 5 5) ||| 0)) fun z14 =>
lt (uI u10 5 5 ((gI u 5 5) ||| 0)) fun u13 =>
some u13)
else
if a0 = 4 then
(bd (fX0_leave u) fun u18 =>
some u18)
else
bd (fX0_visit a1 a0 u) fun u19 =>
some u19
def fX10_sameAtom_L0_0 (rec : Nat → Int32 → Int32 → Int32 → Int32 → St → Option (Int32 × St)) (x3_ : Int32) (x4_ : Int32) (x5_ : Int32) (x6_ : Int32) (u : St) : Option (Int32 × St) :=
if x5_ ≤ x6_ then
(some (1, u))
else
bd (ld u 48 18000 (x3_ + x6_)) fun v2 =>
bd (ld u 48 18000 (x4_ + x6_)) fun v3 =>
if v2 = v3 then
(lt (x6_ + 1 : Int32) fun x5 =>
rec 0 x3_ x4_ x5_ x5 u)
else
some (0, u)
def fX10_sameAtom_L0 : Nat → Nat → Int32 → Int32 → Int32 → Int32 → St → Option (Int32 × St)
  | 0 => fun _ _ _ _ _ _ => none
  | n + 1 => fun q x3_ x4_ x5_ x6_ u => match q with
    | 0 => fX10_sameAtom_L0_0  (fX10_sameAtom_L0  n) x3_ x4_ x5_ x6_ u
    | _ => none
def fX10_sameAtom (a0 : Int32) (a1 : Int32) (u : St) : Option (Int32 × St) :=
bd (ld u 49 601 a0) fun v6 =>
bd (ld u 49 601 a1) fun v7 =>
bd (ld u 49 601 (a0 + 1)) fun v8 =>
lt (v8 - v6 : Int32) fun x9 =>
bd (ld u 49 601 (a1 + 1)) fun v10 =>
if x9 = (v10 - v7) then
(lt (0 : Int32) fun x12 =>
fX10_sameAtom_L0 FU 0 v6 v7 x9 x12 u)
else
some (0, u)
def fX10_keep_L0_0 (rec : Nat → Int32 → Int32 → Int32 → Int32 → Int32 → St → Option (Int32 × St)) (x1_ : Int32) (x2_ : Int32) (x3_ : Int32) (u : St) : Option (Int32 × St) :=
bd (ld u 52 601 (x1_ + 1)) fun v1 =>
if v1 ≤ x3_ then
(some (x2_, u))
else
lt (1 : Int32) fun x3 =>
lt (0 : Int32) fun x4 =>
rec 1 x1_ x2_ x3_ x3 x4 u
def fX10_keep_L0_1 (rec : Nat → Int32 → Int32 → Int32 → Int32 → Int32 → St → Option (Int32 × St)) (x1_ : Int32) (x2_ : Int32) (x3_ : Int32) (x4_ : Int32) (x5_ : Int32) (u : St) : Option (Int32 × St) :=
if x2_ ≤ x5_ then
(rec 2 x1_ x2_ x3_ x4_ 0 u)
else
if x4_ = 0 then
(rec 2 x1_ x2_ x3_ x4_ 0 u)
else
bd (ld u 51 6000 x3_) fun v7 =>
bd (ld u 55 12 x5_) fun v8 =>
b2 (fX10_sameAtom v7 v8 u) fun r10 u9 =>
if r10 = 0 then
(lt (x5_ + 1 : Int32) fun x12 =>
rec 1 x1_ x2_ x3_ x4_ x12 u9)
else
bd (ld u9 51 6000 x3_) fun v13 =>
bd (ld u9 50 600 v13) fun v14 =>
bd (ld u9 55 12 x5_) fun v15 =>
bd (ld u9 50 600 v15) fun v16 =>
if v14 = v16 then
(lt (0 : Int32) fun x18 =>
lt (x5_ + 1 : Int32) fun x19 =>
rec 1 x1_ x2_ x3_ x18 x19 u9)
else
some ((-1), u9)
def fX10_keep_L0_2 (rec : Nat → Int32 → Int32 → Int32 → Int32 → Int32 → St → Option (Int32 × St)) (x1_ : Int32) (x2_ : Int32) (x3_ : Int32) (x4_ : Int32) (u : St) : Option (Int32 × St) :=
if x4_ = 0 then
(lt (x3_ + 1 : Int32) fun x21 =>
rec 0 x1_ x2_ x21 0 0 u)
else
bd (ld u 51 6000 x3_) fun v22 =>
bd (st u 55 12 x2_ v22) fun u23 =>
lt (x2_ + 1 : Int32) fun x24 =>
lt (x3_ + 1 : Int32) fun x25 =>
rec 0 x1_ x24 x25 0 0 u23
def fX10_keep_L0 : Nat → Nat → Int32 → Int32 → Int32 → Int32 → Int32 → St → Option (Int32 × St)
  | 0 => fun _ _ _ _ _ _ _ => none
  | n + 1 => fun q x1_ x2_ x3_ x4_ x5_ u => match q with
    | 0 => fX10_keep_L0_0  (fX10_keep_L0  n) x1_ x2_ x3_ u
    | 1 => fX10_keep_L0_1  (fX10_keep_L0  n) x1_ x2_ x3_ x4_ x5_ u
    | 2 => fX10_keep_L0_2  (fX10_keep_L0  n) x1_ x2_ x3_ x4_ u
    | _ => none
def fX10_keep (a0 : Int32) (u : St) : Option (Int32 × St) :=
lt (0 : Int32) fun x26 =>
bd (ld u 52 601 a0) fun v27 =>
fX10_keep_L0 FU 0 a0 x26 v27 0 0 u
def fX10_renumbered_L0_0 (rec : Nat → Int32 → Int32 → St → Option (Int32 × St)) (x1_ : Int32) (x2_ : Int32) (u : St) : Option (Int32 × St) :=
if (gI u 6 14) ≤ x2_ then
(if (gI u 6 14) < 10 then
(bd (st u 56 10 (gI u 6 14) x1_) fun u3 =>
lt (uI u3 6 14 ((gI u3 6 14) + 1)) fun u4 =>
some (-(gI u4 6 14), u4))
else
some (0, u))
else
bd (ld u 56 10 x2_) fun v5 =>
if v5 = x1_ then
(some ((-1) - x2_, u))
else
lt (x2_ + 1 : Int32) fun x7 =>
rec 0 x1_ x7 u
def fX10_renumbered_L0 : Nat → Nat → Int32 → Int32 → St → Option (Int32 × St)
  | 0 => fun _ _ _ _ => none
  | n + 1 => fun q x1_ x2_ u => match q with
    | 0 => fX10_renumbered_L0_0  (fX10_renumbered_L0  n) x1_ x2_ u
    | _ => none
def fX10_renumbered (a0 : Int32) (u : St) : Option (Int32 × St) :=
lt (0 : Int32) fun x8 =>
fX10_renumbered_L0 FU 0 a0 x8 u
def fX10_deliverKept_L0_0 (rec : Nat → Int32 → Int32 → Int32 → Int32 → Int32 → Int32 → Int32 → Int32 → Int32 → St → Option (Int32 × St)) (x2_ : Int32) (x3_ : Int32) (x4_ : Int32) (x5_ : Int32) (x6_ : Int32) (x7_ : Int32) (u : St) : Option (Int32 × St) :=
if x2_ ≤ x7_ then
(bd (st u 19 100 x3_ (gI u 6 14)) fun u2 =>
bd (st u2 18 101 (x3_ + 1) x4_) fun u3 =>
lt (uI u3 2 5 ((gI u3 2 5) + 1)) fun u4 =>
some (1, u4))
else
bd (ld u 55 12 x7_) fun v5 =>
bd (ld u 49 601 v5) fun v6 =>
rec 1 x2_ x3_ x4_ x5_ x6_ x7_ v6 0 0 u
def fX10_deliverKept_L0_1 (rec : Nat → Int32 → Int32 → Int32 → Int32 → Int32 → Int32 → Int32 → Int32 → Int32 → St → Option (Int32 × St)) (x2_ : Int32) (x3_ : Int32) (x4_ : Int32) (x5_ : Int32) (x6_ : Int32) (x7_ : Int32) (x8_ : Int32) (u : St) : Option (Int32 × St) :=
bd (ld u 55 12 x7_) fun v7 =>
bd (ld u 49 601 (v7 + 1)) fun v8 =>
if v8 ≤ x8_ then
(bd (ld u 55 12 x7_) fun v10 =>
bd (ld u 50 600 v10) fun v11 =>
bd (zb v11) fun z13 =>
bd (st u 30 1200 x4_ v11) fun u12 =>
bd (st u12 31 1200 x4_ x3_) fun u14 =>
lt (x4_ + 1 : Int32) fun x15 =>
bd (st u14 29 1201 x15 x6_) fun u16 =>
lt (x7_ + 1 : Int32) fun x17 =>
rec 0 x2_ x3_ x15 x5_ x6_ x17 0 0 0 u16)
else
bd (ld u 48 18000 x8_) fun v18 =>
if v18 < 0 then
(bd (ld u 48 18000 x8_) fun v20 =>
b2 (fX10_renumbered v20 u) fun r22 u21 =>
rec 2 x2_ x3_ x4_ x5_ x6_ x7_ x8_ 0 r22 u21)
else
bd (ld u 48 18000 x8_) fun v23 =>
rec 2 x2_ x3_ x4_ x5_ x6_ x7_ x8_ 0 v23 u
def fX10_deliverKept_L0_2 (rec : Nat → Int32 → Int32 → Int32 → Int32 → Int32 → Int32 → Int32 → Int32 → Int32 → St → Option (Int32 × St)) (x2_ : Int32) (x3_ : Int32) (x4_ : Int32) (x5_ : Int32) (x6_ : Int32) (x7_ : Int32) (x8_ : Int32) (s0_ : Int32) (u : St) : Option (Int32 × St) :=
if 200 ≤ (x6_ - x5_) then
(some (0, u))
else
bd (ld u 48 18000 x8_) fun v25 =>
if 0 ≤ v25 then
(rec 3 x2_ x3_ x4_ x5_ x6_ x7_ x8_ s0_ 0 u)
else
if s0_ < 0 then
(rec 3 x2_ x3_ x4_ x5_ x6_ x7_ x8_ s0_ 0 u)
else
some (0, u)
def fX10_deliverKept_L0_3 (rec : Nat → Int32 → Int32 → Int32 → Int32 → Int32 → Int32 → Int32 → Int32 → Int32 → St → Option (Int32 × St)) (x2_ : Int32) (x3_ : Int32) (x4_ : Int32) (x5_ : Int32) (x6_ : Int32) (x7_ : Int32) (x8_ : Int32) (x9_ : Int32) (u : St) : Option (Int32 × St) :=
bd (st u 32 20000 x6_ x9_) fun u28 =>
lt (x6_ + 1 : Int32) fun x29 =>
lt (x8_ + 1 : Int32) fun x30 =>
rec 1 x2_ x3_ x4_ x5_ x29 x7_ x30 0 0 u28
def fX10_deliverKept_L0 : Nat → Nat → Int32 → Int32 → Int32 → Int32 → Int32 → Int32 → Int32 → Int32 → Int32 → St → Option (Int32 × St)
  | 0 => fun _ _ _ _ _ _ _ _ _ _ _ => none
  | n + 1 => fun q x2_ x3_ x4_ x5_ x6_ x7_ x8_ x9_ s0_ u => match q with
    | 0 => fX10_deliverKept_L0_0  (fX10_deliverKept_L0  n) x2_ x3_ x4_ x5_ x6_ x7_ u
    | 1 => fX10_deliverKept_L0_1  (fX10_deliverKept_L0  n) x2_ x3_ x4_ x5_ x6_ x7_ x8_ u
    | 2 => fX10_deliverKept_L0_2  (fX10_deliverKept_L0  n) x2_ x3_ x4_ x5_ x6_ x7_ x8_ s0_ u
    | 3 => fX10_deliverKept_L0_3  (fX10_deliverKept_L0  n) x2_ x3_ x4_ x5_ x6_ x7_ x8_ x9_ u
    | _ => none
def fX10_deliverKept (a1 : Int32) (u : St) : Option (Int32 × St) :=
lt (gI u 2 5 : Int32) fun x31 =>
bd (ld u 18 101 x31) fun v32 =>
bd (ld u 29 1201 v32) fun v33 =>
lt (uI u 6 14 0) fun u34 =>
lt (0 : Int32) fun x35 =>
fX10_deliverKept_L0 FU 0 a1 x31 v32 v33 v33 x35 0 0 0 u34
def fX10_deliver_L0_0 (rec : Nat → Int32 → St → Option (Int32 × St)) (x2_ : Int32) (u : St) : Option (Int32 × St) :=
bd (ld u 54 400 0) fun v1 =>
if v1 ≤ x2_ then
(some (1, u))
else
b2 (fX10_keep x2_ u) fun r4 u3 =>
if r4 < 0 then
(lt (x2_ + 1 : Int32) fun x6 =>
rec 0 x6 u3)
else
b2 (fX10_deliverKept r4 u3) fun r8 u7 =>
if r8 = 0 then
(some (0, u7))
else
lt (x2_ + 1 : Int32) fun x10 =>
rec 0 x10 u7
def fX10_deliver_L0 : Nat → Nat → Int32 → St → Option (Int32 × St)
  | 0 => fun _ _ _ => none
  | n + 1 => fun q x2_ u => match q with
    | 0 => fX10_deliver_L0_0  (fX10_deliver_L0  n) x2_ u
    | _ => none
def fX10_deliver_L1_0 (rec : Nat → Int32 → St → Option (Int32 × St)) (x2_ : Int32) (u : St) : Option (Int32 × St) :=
bd (ld u 54 400 0) fun v11 =>
if v11 ≤ x2_ then
(bd (ld u 53 400 0) fun v13 =>
fX10_deliver_L0 FU 0 v13 u)
else
bd (ld u 52 601 (x2_ + 1)) fun v14 =>
bd (ld u 52 601 x2_) fun v15 =>
if (v14 - v15) ≤ 12 then
(lt (x2_ + 1 : Int32) fun x17 =>
rec 0 x17 u)
else
some (0, u)
def fX10_deliver_L1 : Nat → Nat → Int32 → St → Option (Int32 × St)
  | 0 => fun _ _ _ => none
  | n + 1 => fun q x2_ u => match q with
    | 0 => fX10_deliver_L1_0  (fX10_deliver_L1  n) x2_ u
    | _ => none
def fX10_deliver (u : St) : Option (Int32 × St) :=
if (gI u 6 10) = 1 then
(bd (ld u 54 400 0) fun v19 =>
bd (ld u 53 400 0) fun v20 =>
if (((gI u 2 5) + v19) - v20) ≤ 100 then
(bd (ld u 53 400 0) fun v22 =>
fX10_deliver_L1 FU 0 v22 u)
else
some (0, u))
else
some (0, u)
def fX0_make_j178 (u : St) : Option (Int32 × St) :=
if (gI u 5 5) = 0 then
(b2 (fX10_deliver u) fun r3 u2 =>
if r3 = 0 then
(some (0, u2))
else
some (1, u2))
else
some (0, u)
def fX0_make_L0_0 (rec : Nat → Int32 → St → Option (Int32 × St)) (x2_ : Int32) (u : St) : Option (Int32 × St) :=
if 1000000 ≤ x2_ then
(fX0_make_j178 u)
else
if (gI u 5 4) ≤ 0 then
(fX0_make_j178 u)
else
if (gI u 5 5) = 0 then
(lt (uI u 5 4 ((gI u 5 4) - 1)) fun u8 =>
bd (ld u8 42 4500 (gI u8 5 4)) fun v9 =>
bd (ld u8 42 4500 (gI u8 5 4)) fun v10 =>
bd (fX0_perform (v9 &&& 7) (v10 >>> (3 &&& 31)) u8) fun u11 =>
lt (x2_ + 1 : Int32) fun x12 =>
rec 0 x12 u11)
else
fX0_make_j178 u
def fX0_make_L0 : Nat → Nat → Int32 → St → Option (Int32 × St)
  | 0 => fun _ _ _ => none
  | n + 1 => fun q x2_ u => match q with
    | 0 => fX0_make_L0_0  (fX0_make_L0  n) x2_ u
    | _ => none
def fX0_make_L1_0 (rec : Nat → Int32 → Int32 → St → Option (Int32 × St)) (x1_ : Int32) (x2_ : Int32) (u : St) : Option (Int32 × St) :=
if (gI u 3 12) ≤ x2_ then
(bd (fX0_push 0 x1_ u) fun u14 =>
lt (0 : Int32) fun x15 =>
fX0_make_L0 FU 0 x15 u14)
else
bd (ld u 41 1501 x2_) fun v16 =>
b2 (fX0_newVariable u) fun r18 u17 =>
bd (st u17 43 1501 v16 r18) fun u19 =>
lt (x2_ + 1 : Int32) fun x20 =>
rec 0 x1_ x20 u19
def fX0_make_L1 : Nat → Nat → Int32 → Int32 → St → Option (Int32 × St)
  | 0 => fun _ _ _ _ => none
  | n + 1 => fun q x1_ x2_ u => match q with
    | 0 => fX0_make_L1_0  (fX0_make_L1  n) x1_ x2_ u
    | _ => none
def fX0_make (a0 : Int32) (u : St) : Option (Int32 × St) :=
if 250 < (gI u 3 6) then
(some (0, u))
else
bd (ld u 36 1501 a0) fun v22 =>
if (v22 + (gI u 3 12)) ≤ 3000 then
(bd (fX10_begin u) fun u24 =>
lt (uI u24 5 4 0) fun u25 =>
lt (uI u25 5 5 0) fun u26 =>
lt (uI u26 5 10 0) fun u27 =>
lt (uI u27 5 12 0) fun u28 =>
lt (uI u28 5 13 0) fun u29 =>
lt (0 : Int32) fun x30 =>
fX0_make_L1 FU 0 a0 x30 u29)
else
some (0, u)
def fX1_begin_L0_0 (rec : Nat → Int32 → St → Option (St)) (x1_ : Int32) (u : St) : Option (St) :=
if 220 ≤ x1_ then
(some u)
else
bd (st u 74 220 x1_ (-1)) fun u2 =>
lt (x1_ + 1 : Int32) fun x3 =>
rec 0 x3 u2
def fX1_begin_L0 : Nat → Nat → Int32 → St → Option (St)
  | 0 => fun _ _ _ => none
  | n + 1 => fun q x1_ u => match q with
    | 0 => fX1_begin_L0_0  (fX1_begin_L0  n) x1_ u
    | _ => none
def fX1_begin (u : St) : Option (St) :=
lt (uI u 10 5 0) fun u4 =>
lt (uI u4 10 6 0) fun u5 =>
lt (uI u5 10 10 0) fun u6 =>
lt (0 : Int32) fun x7 =>
fX1_begin_L0 FU 0 x7 u6
def fX1_put (a0 : Int32) (u : St) : Option (St) :=
if (gI u 10 5) < 4000 then
(bd (pg (gR u 10 4)) fun z3 =>
bd (stB u (gR u 10 4) 4000 (gI u 10 5) (a0.toInt8.toInt32)) fun u2 =>
lt (uI u2 10 5 ((gI u2 10 5) + 1)) fun u4 =>
some u4)
else
lt (uI u 10 6 1) fun u5 =>
some u5
def fX1_endTerm_L0_0 (rec : Nat → St → Option (St)) (u : St) : Option (St) :=
if (gI u 10 8) ≤ 0 then
(some u)
else
bd (ld u 73 4000 ((gI u 10 8) - 1)) fun v2 =>
bd (st u 73 4000 ((gI u 10 8) - 1) (v2 - 1)) fun u3 =>
bd (ld u3 73 4000 ((gI u3 10 8) - 1)) fun v4 =>
if v4 ≤ 0 then
(bd (fX1_put 41 u3) fun u6 =>
lt (uI u6 10 8 ((gI u6 10 8) - 1)) fun u7 =>
rec 0 u7)
else
bd (fX1_put 44 u3) fun u8 =>
some u8
def fX1_endTerm_L0 : Nat → Nat → St → Option (St)
  | 0 => fun _  _ => none
  | n + 1 => fun q  u => match q with
    | 0 => fX1_endTerm_L0_0  (fX1_endTerm_L0  n)  u
    | _ => none
def fX1_endTerm (u : St) : Option (St) :=
fX1_endTerm_L0 FU 0 u
def fX1_finish (u : St) : Option (Int32 × St) :=
if (gI u 10 6) = 0 then
(lt (uR u 10 2 (gR u 10 4)) fun u2 =>
lt (uR u2 10 4 (gR u 10 2)) fun u3 =>
lt (uI u3 10 3 (gI u3 10 5)) fun u4 =>
some (gI u4 10 3, u4))
else
some ((-4), u)
def fX9_begin (w : Nat) (a0 : Int32) (a1 : Int32) (a2 : Int32) (u : St) : Option (St) :=
bd (st u (20 + 3 * w) 222 0 a0) fun u1 =>
bd (st u1 (21 + 3 * w) 222 0 a1) fun u2 =>
bd (st u2 (22 + 3 * w) 222 0 a2) fun u3 =>
lt (uI u3 (11 + w) 5 0) fun u4 =>
some u4
def fX9_more_L0_0 (w : Nat) (rec : Nat → Int32 → St → Option (Int32 × St)) (x1_ : Int32) (u : St) : Option (Int32 × St) :=
if 1000000 ≤ x1_ then
(some (0, u))
else
bd (ld u (22 + 3 * w) 222 (gI u (11 + w) 5)) fun v2 =>
if 0 < v2 then
(bd (ld u (21 + 3 * w) 222 (gI u (11 + w) 5)) fun v4 =>
bd (ld u (20 + 3 * w) 222 (gI u (11 + w) 5)) fun v5 =>
bd (ld u 32 20000 v5) fun v6 =>
lt ((v4 - 1) - v6 : Int32) fun x7 =>
bd (ld u (20 + 3 * w) 222 (gI u (11 + w) 5)) fun v8 =>
bd (ld u 32 20000 v8) fun v9 =>
if 0 ≤ v9 then
(some (1, u))
else
bd (ld u 62 220 x7) fun v11 =>
if 0 ≤ v11 then
(bd (ld u (20 + 3 * w) 222 (gI u (11 + w) 5)) fun v13 =>
bd (st u (20 + 3 * w) 222 (gI u (11 + w) 5) (v13 + 1)) fun u14 =>
bd (ld u14 (22 + 3 * w) 222 (gI u14 (11 + w) 5)) fun v15 =>
bd (st u14 (22 + 3 * w) 222 (gI u14 (11 + w) 5) (v15 - 1)) fun u16 =>
if ((gI u16 (11 + w) 5) + 1) < 222 then
(lt (uI u16 (11 + w) 5 ((gI u16 (11 + w) 5) + 1)) fun u18 =>
bd (ld u18 62 220 x7) fun v19 =>
bd (st u18 (20 + 3 * w) 222 (gI u18 (11 + w) 5) v19) fun u20 =>
bd (ld u20 63 220 x7) fun v21 =>
bd (st u20 (21 + 3 * w) 222 (gI u20 (11 + w) 5) v21) fun u22 =>
bd (st u22 (22 + 3 * w) 222 (gI u22 (11 + w) 5) 1) fun u23 =>
lt (x1_ + 1 : Int32) fun x24 =>
rec 0 x24 u23)
else
some (0, u16))
else
some (1, u))
else
if (gI u (11 + w) 5) = 0 then
(some (0, u))
else
lt (uI u (11 + w) 5 ((gI u (11 + w) 5) - 1)) fun u26 =>
lt (x1_ + 1 : Int32) fun x27 =>
rec 0 x27 u26
def fX9_more_L0 (w : Nat) : Nat → Nat → Int32 → St → Option (Int32 × St)
  | 0 => fun _ _ _ => none
  | n + 1 => fun q x1_ u => match q with
    | 0 => fX9_more_L0_0 w (fX9_more_L0 w n) x1_ u
    | _ => none
def fX9_more (w : Nat) (u : St) : Option (Int32 × St) :=
lt (0 : Int32) fun x28 =>
fX9_more_L0 w FU 0 x28 u
def fX9_variable (w : Nat) (u : St) : Option (Int32 × St) :=
bd (ld u (20 + 3 * w) 222 (gI u (11 + w) 5)) fun v1 =>
bd (ld u 32 20000 v1) fun v2 =>
if 0 ≤ v2 then
(some ((-1), u))
else
bd (ld u (21 + 3 * w) 222 (gI u (11 + w) 5)) fun v4 =>
some ((v4 - 1) - v2, u)
def fX1_putNumber_L0_0 (rec : Nat → Int32 → St → Option (St)) (x4_ : Int32) (u : St) : Option (St) :=
if x4_ < 0 then
(some u)
else
bd (ld u 75 10 x4_) fun v2 =>
bd (fX1_put (48 + v2) u) fun u3 =>
lt (x4_ + (-1) : Int32) fun x4 =>
rec 0 x4 u3
def fX1_putNumber_L0 : Nat → Nat → Int32 → St → Option (St)
  | 0 => fun _ _ _ => none
  | n + 1 => fun q x4_ u => match q with
    | 0 => fX1_putNumber_L0_0  (fX1_putNumber_L0  n) x4_ u
    | _ => none
def fX1_putNumber_L1_0 (rec : Nat → Int32 → Int32 → St → Option (St)) (x2_ : Int32) (x3_ : Int32) (u : St) : Option (St) :=
bd (st u 75 10 x2_ (x3_ - x3_ / 10 * 10)) fun u5 =>
lt (x3_ / 10 : Int32) fun x6 =>
lt (x2_ + 1 : Int32) fun x7 =>
if x6 ≤ 0 then
(lt (x7 - 1 : Int32) fun x9 =>
fX1_putNumber_L0 FU 0 x9 u5)
else
if x7 < 10 then
(rec 0 x7 x6 u5)
else
lt (x7 - 1 : Int32) fun x11 =>
fX1_putNumber_L0 FU 0 x11 u5
def fX1_putNumber_L1 : Nat → Nat → Int32 → Int32 → St → Option (St)
  | 0 => fun _ _ _ _ => none
  | n + 1 => fun q x2_ x3_ u => match q with
    | 0 => fX1_putNumber_L1_0  (fX1_putNumber_L1  n) x2_ x3_ u
    | _ => none
def fX1_putNumber (a0 : Int32) (u : St) : Option (St) :=
lt (0 : Int32) fun x12 =>
fX1_putNumber_L1 FU 0 x12 a0 u
def fX1_putVariable_j30 (x1_ : Int32) (u : St) : Option (St) :=
bd (fX1_put 88 u) fun u1 =>
bd (ld u1 74 220 x1_) fun v2 =>
bd (fX1_putNumber v2 u1) fun u3 =>
some u3
def fX1_putVariable (a0 : Int32) (u : St) : Option (St) :=
bd (ld u 74 220 a0) fun v4 =>
if v4 = (-1) then
(bd (st u 74 220 a0 (gI u 10 10)) fun u6 =>
lt (uI u6 10 10 ((gI u6 10 10) + 1)) fun u7 =>
fX1_putVariable_j30 a0 u7)
else
fX1_putVariable_j30 a0 u
def fX9_symbol (w : Nat) (u : St) : Option (Int32 × St) :=
bd (ld u (20 + 3 * w) 222 (gI u (11 + w) 5)) fun v1 =>
bd (ld u 32 20000 v1) fun v2 =>
some (v2, u)
def fX1_putSymbol_L0_0 (rec : Nat → Int32 → Int32 → St → Option (St)) (x1_ : Int32) (x2_ : Int32) (u : St) : Option (St) :=
if x2_ < 0 then
(some u)
else
bd (ldJ u 15 811 x1_) fun v2 =>
lt (((v2 >>> (x2_.toInt64 &&& 63)).toInt32) &&& 255 : Int32) fun x3 =>
if x3 = 0 then
(lt (x2_ + (-8) : Int32) fun x5 =>
rec 0 x1_ x5 u)
else
bd (fX1_put x3 u) fun u6 =>
lt (x2_ + (-8) : Int32) fun x7 =>
rec 0 x1_ x7 u6
def fX1_putSymbol_L0 : Nat → Nat → Int32 → Int32 → St → Option (St)
  | 0 => fun _ _ _ _ => none
  | n + 1 => fun q x1_ x2_ u => match q with
    | 0 => fX1_putSymbol_L0_0  (fX1_putSymbol_L0  n) x1_ x2_ u
    | _ => none
def fX1_putSymbol (a0 : Int32) (u : St) : Option (St) :=
if a0 ≤ 4096 then
(lt (56 : Int32) fun x9 =>
fX1_putSymbol_L0 FU 0 a0 x9 u)
else
bd (fX1_put 115 u) fun u10 =>
bd (fX1_putNumber (a0 - 4096) u10) fun u11 =>
some u11
def fX9_enter (w : Nat) (u : St) : Option (St) :=
bd (ld u (20 + 3 * w) 222 (gI u (11 + w) 5)) fun v1 =>
bd (ld u 32 20000 v1) fun v2 =>
bd (ld u (20 + 3 * w) 222 (gI u (11 + w) 5)) fun v3 =>
bd (st u (20 + 3 * w) 222 (gI u (11 + w) 5) (v3 + 1)) fun u4 =>
bd (ld u4 (22 + 3 * w) 222 (gI u4 (11 + w) 5)) fun v5 =>
if 0 ≤ v2 then
(bd (st u4 (22 + 3 * w) 222 (gI u4 (11 + w) 5) (v5 + ((v2 &&& 7) - 1))) fun u7 =>
some u7)
else
bd (st u4 (22 + 3 * w) 222 (gI u4 (11 + w) 5) (v5 + (0 - 1))) fun u8 =>
some u8
def fX1_openBracket (a0 : Int32) (u : St) : Option (St) :=
bd (fX1_put 40 u) fun u1 =>
if 4000 ≤ (gI u1 10 8) then
(some u1)
else
bd (st u1 73 4000 (gI u1 10 8) a0) fun u3 =>
lt (uI u3 10 8 ((gI u3 10 8) + 1)) fun u4 =>
some u4
def fX1_literal_L0_0 (rec : Nat → Int32 → Int32 → St → Option (St)) (x3_ : Int32) (u : St) : Option (St) :=
if 4000 < x3_ then
(some u)
else
if (gI u 10 6) = 0 then
(b2 (fX9_more 2 u) fun r4 u3 =>
if r4 = 0 then
(some u3)
else
lt (0 : Int32) fun x6 =>
b2 (fX9_variable 2 u3) fun r8 u7 =>
if r8 < 0 then
(b2 (fX9_symbol 2 u7) fun r11 u10 =>
bd (fX1_putSymbol (r11 >>> (3 &&& 31)) u10) fun u12 =>
b2 (fX9_symbol 2 u12) fun r14 u13 =>
lt (r14 &&& 7 : Int32) fun x15 =>
rec 1 x3_ x15 u13)
else
b2 (fX9_variable 2 u7) fun r17 u16 =>
bd (fX1_putVariable r17 u16) fun u18 =>
rec 1 x3_ x6 u18)
else
some u
def fX1_literal_L0_1 (rec : Nat → Int32 → Int32 → St → Option (St)) (x3_ : Int32) (x4_ : Int32) (u : St) : Option (St) :=
bd (fX9_enter 2 u) fun u19 =>
if x4_ ≤ 0 then
(bd (fX1_endTerm u19) fun u21 =>
lt (x3_ + 1 : Int32) fun x22 =>
rec 0 x22 0 u21)
else
bd (fX1_openBracket x4_ u19) fun u23 =>
lt (x3_ + 1 : Int32) fun x24 =>
rec 0 x24 0 u23
def fX1_literal_L0 : Nat → Nat → Int32 → Int32 → St → Option (St)
  | 0 => fun _ _ _ _ => none
  | n + 1 => fun q x3_ x4_ u => match q with
    | 0 => fX1_literal_L0_0  (fX1_literal_L0  n) x3_ u
    | 1 => fX1_literal_L0_1  (fX1_literal_L0  n) x3_ x4_ u
    | _ => none
def fX1_literal_j18 (x1_ : Int32) (x2_ : Int32) (u : St) : Option (St) :=
lt (uI u 10 8 0) fun u25 =>
bd (ld u25 29 1201 x1_) fun v26 =>
bd (fX9_begin 2 v26 x2_ 1 u25) fun u27 =>
lt (0 : Int32) fun x28 =>
fX1_literal_L0 FU 0 x28 0 u27
def fX1_literal (a0 : Int32) (a1 : Int32) (u : St) : Option (St) :=
bd (ld u 30 1200 a0) fun v29 =>
if v29 = 0 then
(fX1_literal_j18 a0 a1 u)
else
bd (fX1_put 126 u) fun u31 =>
fX1_literal_j18 a0 a1 u31
def fX1_row_L0_0 (rec : Nat → Int32 → Int32 → Int32 → Int32 → St → Option (St)) (x1_ : Int32) (x2_ : Int32) (x3_ : Int32) (x4_ : Int32) (u : St) : Option (St) :=
bd (ld u 18 101 (x1_ + 1)) fun v1 =>
if v1 ≤ x4_ then
(bd (ld u 18 101 (x1_ + 1)) fun v3 =>
if x3_ = v3 then
(bd (fX1_put 36 u) fun u5 =>
some u5)
else
some u)
else
if x4_ ≤ x3_ then
(rec 1 x1_ x2_ x3_ x4_ u)
else
bd (fX1_put 124 u) fun u7 =>
rec 1 x1_ x2_ x3_ x4_ u7
def fX1_row_L0_1 (rec : Nat → Int32 → Int32 → Int32 → Int32 → St → Option (St)) (x1_ : Int32) (x2_ : Int32) (x3_ : Int32) (x4_ : Int32) (u : St) : Option (St) :=
bd (fX1_literal x4_ x2_ u) fun u8 =>
lt (x4_ + 1 : Int32) fun x9 =>
rec 0 x1_ x2_ x3_ x9 u8
def fX1_row_L0 : Nat → Nat → Int32 → Int32 → Int32 → Int32 → St → Option (St)
  | 0 => fun _ _ _ _ _ _ => none
  | n + 1 => fun q x1_ x2_ x3_ x4_ u => match q with
    | 0 => fX1_row_L0_0  (fX1_row_L0  n) x1_ x2_ x3_ x4_ u
    | 1 => fX1_row_L0_1  (fX1_row_L0  n) x1_ x2_ x3_ x4_ u
    | _ => none
def fX1_row (a0 : Int32) (a1 : Int32) (u : St) : Option (St) :=
bd (ld u 18 101 a0) fun v10 =>
fX1_row_L0 FU 0 a0 a1 v10 v10 u
def fX4_has (a0 : Int32) (u : St) : Option (Int32 × St) :=
if a0 < 0 then
(some (0, u))
else
if (gI u 2 5) ≤ a0 then
(some (0, u))
else
some (1, u)
def fX11_clause (a0 : Int32) (a1 : Int32) (u : St) : Option (Int32 × St) :=
b2 (fX4_has a0 u) fun r2 u1 =>
if r2 = 0 then
(some ((-1), u1))
else
bd (ld u1 18 101 a0) fun v4 =>
bd (ld u1 18 101 (a0 + 1)) fun v5 =>
if a1 = 0 then
(some (v5 - v4, u1))
else
if a1 = 1 then
(bd (ld u1 19 100 a0) fun v8 =>
some (v8, u1))
else
if a1 = 2 then
(bd (ld u1 29 1201 v5) fun v10 =>
bd (ld u1 29 1201 v4) fun v11 =>
some (v10 - v11, u1))
else
some ((-2), u1)
def fX4_takeBack (a0 : Int32) (a1 : Int32) (a2 : Int32) (u : St) : Option (St) :=
lt (uI u 2 5 a0) fun u1 =>
lt (uI u1 2 3 a1) fun u2 =>
lt (uI u2 2 4 a2) fun u3 =>
some u3
def fX3_forget (u : St) : Option (St) :=
lt (uI u 9 13 0) fun u1 =>
lt (uI u1 9 14 0) fun u2 =>
lt (uI u2 9 15 0) fun u3 =>
some u3
def fX11_clear (u : St) : Option (Int32 × St) :=
lt (gI u 2 5 : Int32) fun x1 =>
bd (fX4_takeBack 0 0 0 u) fun u2 =>
bd (fX3_forget u2) fun u3 =>
some (x1, u3)
def fX11_count (a0 : Int32) (u : St) : Option (Int32 × St) :=
if a0 = 0 then
(some (gI u 2 5, u))
else
if a0 = 1 then
(some (gI u 2 3, u))
else
if a0 = 2 then
(some (gI u 2 4, u))
else
some ((-2), u)
def fX6_append_L0_0 (rec : Nat → Int64 → Int32 → St → Option (Int32 × St)) (x1_ : Int64) (x4_ : Int32) (u : St) : Option (Int32 × St) :=
if x4_ < 0 then
(some (1, u))
else
bd (stB u 14 1500 (gI u 1 1) (((x1_ >>> ((8 * x4_).toInt64 &&& 63)).toInt32).toInt8.toInt32)) fun u2 =>
lt (uI u2 1 1 ((gI u2 1 1) + 1)) fun u3 =>
lt (x4_ + (-1) : Int32) fun x4 =>
rec 0 x1_ x4 u3
def fX6_append_L0 : Nat → Nat → Int64 → Int32 → St → Option (Int32 × St)
  | 0 => fun _ _ _ _ => none
  | n + 1 => fun q x1_ x4_ u => match q with
    | 0 => fX6_append_L0_0  (fX6_append_L0  n) x1_ x4_ u
    | _ => none
def fX6_append (a0 : Int64) (a1 : Int32) (u : St) : Option (Int32 × St) :=
if ((gI u 1 1) + a1) ≤ 1500 then
(lt (a1 - 1 : Int32) fun x6 =>
fX6_append_L0 FU 0 a0 x6 u)
else
some (0, u)
def fX11_feed (a0 : Int64) (a1 : Int32) (u : St) : Option (Int32 × St) :=
if a1 < 0 then
(some ((-2), u))
else
if a1 ≤ 8 then
(if a1 = 0 then
(lt (uI u 1 1 0) fun u7 =>
some (0, u7))
else
b2 (fX6_append a0 a1 u) fun r5 u4 =>
if r5 = 0 then
(some ((-4), u4))
else
some (gI u4 1 1, u4))
else
some ((-2), u)
def fX3_rowOf (a0 : Int32) (u : St) : Option (Int32 × St) :=
bd (ld u 65 151 a0) fun v1 =>
if v1 = 0 then
(bd (ld u 67 151 a0) fun v3 =>
some (v3, u))
else
if v1 = 1 then
(bd (ld u 67 151 a0) fun v5 =>
bd (ld u 31 1200 v5) fun v6 =>
some (v6, u))
else
some ((-1), u)
def fX3_connected (a0 : Int32) (u : St) : Option (Int32 × St) :=
bd (ld u 65 151 a0) fun v1 =>
if v1 = 0 then
(some ((-1), u))
else
if v1 = 1 then
(bd (ld u 67 151 a0) fun v4 =>
bd (ld u 67 151 a0) fun v5 =>
bd (ld u 31 1200 v5) fun v6 =>
bd (ld u 18 101 v6) fun v7 =>
some (v4 - v7, u))
else
bd (ld u 67 151 a0) fun v8 =>
bd (ld u 60 150 v8) fun v9 =>
some (v9, u)
def fX3_above (a0 : Int32) (u : St) : Option (Int32 × St) :=
bd (ld u 65 151 a0) fun v1 =>
if v1 = 0 then
(some (0, u))
else
bd (ld u 66 151 a0) fun v3 =>
bd (ld u 60 150 v3) fun v4 =>
some (v4, u)
def fX11_move (a0 : Int32) (a1 : Int32) (u : St) : Option (Int32 × St) :=
if a0 < 0 then
(some ((-1), u))
else
if a0 < (gI u 9 15) then
(if a1 = 0 then
(bd (ld u 65 151 a0) fun v4 =>
some (v4, u))
else
if a1 = 1 then
(b2 (fX3_rowOf a0 u) fun r7 u6 =>
some (r7, u6))
else
if a1 = 2 then
(b2 (fX3_connected a0 u) fun r10 u9 =>
some (r10, u9))
else
if a1 = 3 then
(b2 (fX3_above a0 u) fun r13 u12 =>
some (r13, u12))
else
some ((-2), u))
else
some ((-1), u)
def fX11_octet (a0 : Int32) (u : St) : Option (Int32 × St) :=
if a0 < 0 then
(some ((-1), u))
else
if a0 < (gI u 10 3) then
(bd (pg (gR u 10 2)) fun z4 =>
bd (ld u (gR u 10 2) 4000 a0) fun v3 =>
some (v3 &&& 255, u))
else
some ((-1), u)
def fX11_place (u : St) : Option (Int32 × St) :=
some (gI u 0 7, u)
def fX6_begin (u : St) : Option (St) :=
lt (uI u 1 5 0) fun u1 =>
lt (uI u1 1 6 0) fun u2 =>
some u2
def fX2_begin (u : St) : Option (St) :=
bd (fX6_begin u) fun u1 =>
lt (uI u1 4 3 0) fun u2 =>
lt (uI u2 4 4 0) fun u3 =>
some u3
def fX6_scanWord_j68 (x1_ : Int32) (x2_ : Int64) (u : St) : Option (Int32 × St) :=
lt (uJ u 1 3 x2_) fun u1 =>
if ((gI u1 1 5) - (gI u1 1 2)) ≤ 8 then
(some (x1_, u1))
else
some (0, u1)
def fX6_scanWord_L0_0 (rec : Nat → Int32 → Int64 → St → Option (Int32 × St)) (x1_ : Int32) (x2_ : Int64) (u : St) : Option (Int32 × St) :=
if (gI u 1 1) ≤ (gI u 1 5) then
(fX6_scanWord_j68 x1_ x2_ u)
else
bd (ld u 14 1500 (gI u 1 5)) fun v4 =>
b2 (fJ0_indexOf_0f7a4 3 (((v4 &&& 255).toUInt32 % 65536).toInt32) u) fun r6 u5 =>
if r6 < 0 then
(fX6_scanWord_j68 x1_ x2_ u5)
else
bd (ld u5 14 1500 (gI u5 1 5)) fun v8 =>
lt ((x2_ <<< ((8 : Int32).toInt64 &&& 63)) ||| ((v8 &&& 255).toInt64) : Int64) fun x9 =>
lt (uI u5 1 5 ((gI u5 1 5) + 1)) fun u10 =>
rec 0 x1_ x9 u10
def fX6_scanWord_L0 : Nat → Nat → Int32 → Int64 → St → Option (Int32 × St)
  | 0 => fun _ _ _ _ => none
  | n + 1 => fun q x1_ x2_ u => match q with
    | 0 => fX6_scanWord_L0_0  (fX6_scanWord_L0  n) x1_ x2_ u
    | _ => none
def fX6_scanWord (a0 : Int32) (u : St) : Option (Int32 × St) :=
lt (0 : Int64) fun x11 =>
fX6_scanWord_L0 FU 0 a0 x11 u
def fX6_scanMark_j106 (x1_ : Int32) (u : St) : Option (Int32 × St) :=
b2 (fJ0_indexOf_0f7a4 4 x1_ u) fun r2 u1 =>
if 0 ≤ r2 then
(lt (uI u1 1 5 ((gI u1 1 2) + 1)) fun u4 =>
some (4 + r2, u4))
else
some (0, u1)
def fX6_scanMark_j50 (x1_ : Int32) (x2_ : Int32) (u : St) : Option (Int32 × St) :=
if x1_ = 60 then
(if x2_ ≤ 2 then
(fX6_scanMark_j106 x1_ u)
else
bd (ld u 14 1500 ((gI u 1 2) + 1)) fun v7 =>
if v7 = 61 then
(bd (ld u 14 1500 ((gI u 1 2) + 2)) fun v9 =>
if v9 = 62 then
(lt (uI u 1 5 ((gI u 1 2) + 3)) fun u11 =>
some (15, u11))
else
fX6_scanMark_j106 x1_ u)
else
fX6_scanMark_j106 x1_ u)
else
fX6_scanMark_j106 x1_ u
def fX6_scanMark (a0 : Int32) (u : St) : Option (Int32 × St) :=
lt ((gI u 1 1) - (gI u 1 2) : Int32) fun x12 =>
if a0 = 61 then
(if x12 ≤ 1 then
(fX6_scanMark_j50 a0 x12 u)
else
bd (ld u 14 1500 ((gI u 1 2) + 1)) fun v15 =>
if v15 = 62 then
(lt (uI u 1 5 ((gI u 1 2) + 2)) fun u17 =>
some (14, u17))
else
fX6_scanMark_j50 a0 x12 u)
else
fX6_scanMark_j50 a0 x12 u
def fX6_look_j71 (u : St) : Option (Int32 × St) :=
lt (uI u 1 5 (gI u 1 2)) fun u1 =>
if (gI u1 1 2) < (gI u1 1 1) then
(bd (ld u1 14 1500 (gI u1 1 2)) fun v3 =>
lt (((v3 &&& 255).toUInt32 % 65536).toInt32 : Int32) fun x4 =>
b2 (fJ0_indexOf_0f7a4 1 x4 u1) fun r6 u5 =>
if r6 < 0 then
(b2 (fJ0_indexOf_0f7a4 2 x4 u5) fun r9 u8 =>
if r9 < 0 then
(b2 (fX6_scanMark x4 u8) fun r12 u11 =>
lt (uI u11 1 4 r12) fun u13 =>
some (gI u13 1 4, u13))
else
b2 (fX6_scanWord 3 u8) fun r15 u14 =>
lt (uI u14 1 4 r15) fun u16 =>
some (gI u16 1 4, u16))
else
b2 (fX6_scanWord 2 u5) fun r18 u17 =>
lt (uI u17 1 4 r18) fun u19 =>
some (gI u19 1 4, u19))
else
lt (uI u1 1 4 1) fun u20 =>
some (gI u20 1 4, u20)
def fX6_look_L0_0 (rec : Nat → St → Option (Int32 × St)) (u : St) : Option (Int32 × St) :=
if (gI u 1 1) ≤ (gI u 1 2) then
(fX6_look_j71 u)
else
bd (ld u 14 1500 (gI u 1 2)) fun v22 =>
b2 (fJ0_indexOf_0f7a4 0 (((v22 &&& 255).toUInt32 % 65536).toInt32) u) fun r24 u23 =>
if r24 < 0 then
(fX6_look_j71 u23)
else
lt (uI u23 1 2 ((gI u23 1 2) + 1)) fun u26 =>
rec 0 u26
def fX6_look_L0 : Nat → Nat → St → Option (Int32 × St)
  | 0 => fun _  _ => none
  | n + 1 => fun q  u => match q with
    | 0 => fX6_look_L0_0  (fX6_look_L0  n)  u
    | _ => none
def fX6_look (u : St) : Option (Int32 × St) :=
if (gI u 1 6) = 0 then
(lt (uI u 1 6 1) fun u28 =>
lt (uI u28 1 2 (gI u28 1 5)) fun u29 =>
fX6_look_L0 FU 0 u29)
else
some (gI u 1 4, u)
def fX2_fail (a0 : Int32) (a1 : Int32) (u : St) : Option (St) :=
if (gI u 4 4) = 0 then
(lt (uI u 4 4 a0) fun u2 =>
lt (uI u2 4 5 a1) fun u3 =>
some u3)
else
some u
def fX2_next (u : St) : Option (Int32 × St) :=
if (gI u 4 4) = 0 then
(b2 (fX6_look u) fun r3 u2 =>
if r3 = 0 then
(bd (fX2_fail 1 (gI u2 1 2) u2) fun u5 =>
some (1, u5))
else
some (r3, u2))
else
some (1, u)
def fX7_begin (u : St) : Option (St) :=
lt (uI u 3 4 0) fun u1 =>
lt (uI u1 3 6 0) fun u2 =>
lt (uI u2 3 10 0) fun u3 =>
lt (uI u3 3 12 0) fun u4 =>
some u4
def fX6_take (u : St) : Option (St) :=
lt (uI u 1 6 0) fun u1 =>
some u1
def fX2_opens (u : St) : Option (Int32 × St) :=
if (gI u 4 3) < 30 then
(lt (uI u 4 3 ((gI u 4 3) + 1)) fun u2 =>
bd (fX6_take u2) fun u3 =>
some (1, u3))
else
bd (fX2_fail 6 (gI u 1 2) u) fun u4 =>
some (0, u4)
def fX7_weigh (a0 : Int32) (a1 : Int32) (a2 : Int32) (u : St) : Option (Int32 × St) :=
if a0 = 0 then
(some (a2 - a1, u))
else
if a0 = 1 then
(bd (ld u 36 1501 a1) fun v3 =>
some (v3, u))
else
if a0 = 2 then
(bd (ld u 36 1501 a1) fun v5 =>
bd (ld u 36 1501 a2) fun v6 =>
some (v5 + v6, u))
else
if a0 = 3 then
(bd (ld u 36 1501 a1) fun v8 =>
bd (ld u 36 1501 a2) fun v9 =>
some (v8 + v9, u))
else
if a0 = 4 then
(bd (ld u 36 1501 a1) fun v11 =>
bd (ld u 36 1501 a2) fun v12 =>
some (v11 + v12, u))
else
if a0 = 5 then
(bd (ld u 36 1501 a1) fun v14 =>
bd (ld u 36 1501 a2) fun v15 =>
some (2 * (v14 + v15), u))
else
if a0 = 6 then
(bd (ld u 36 1501 a2) fun v17 =>
some (1 + v17, u))
else
if a0 = 7 then
(bd (ld u 36 1501 a2) fun v19 =>
some (1 + v19, u))
else
bd (ld u 36 1501 a1) fun v20 =>
bd (ld u 36 1501 a2) fun v21 =>
some (v20 + v21, u)
def fX7_add (a0 : Int32) (a1 : Int32) (a2 : Int32) (u : St) : Option (Int32 × St) :=
if (gI u 3 4) < 1501 then
(bd (st u 33 1501 (gI u 3 4) a0) fun u2 =>
bd (st u2 34 1501 (gI u2 3 4) a1) fun u3 =>
bd (st u3 35 1501 (gI u3 3 4) a2) fun u4 =>
b2 (fX7_weigh a0 a1 a2 u4) fun r6 u5 =>
bd (st u5 36 1501 (gI u4 3 4) (if r6 < 1000000 then r6 else 1000000)) fun u7 =>
lt (uI u7 3 4 ((gI u7 3 4) + 1)) fun u8 =>
some ((gI u8 3 4) - 1, u8))
else
some (0, u)
def fX2_want (a0 : Int32) (u : St) : Option (Int32 × St) :=
b2 (fX2_next u) fun r2 u1 =>
if r2 = a0 then
(bd (fX6_take u1) fun u4 =>
some (1, u4))
else
bd (fX2_fail 2 (gI u1 1 2) u1) fun u5 =>
some (0, u5)
def fX7_variable_L0_0 (rec : Nat → Int64 → Int32 → St → Option (Int32 × St)) (x1_ : Int64) (x3_ : Int32) (u : St) : Option (Int32 × St) :=
if (gI u 3 10) ≤ x3_ then
(if (gI u 3 10) < 1501 then
(bd (stJ u 38 1501 (gI u 3 10) x1_) fun u3 =>
bd (st u3 39 1501 (gI u3 3 10) 0) fun u4 =>
bd (st u4 40 1501 (gI u4 3 10) 0) fun u5 =>
lt (uI u5 3 10 ((gI u5 3 10) + 1)) fun u6 =>
some ((gI u6 3 10) - 1, u6))
else
some (0, u))
else
bd (ldJ u 38 1501 x3_) fun v7 =>
if (lg_cmp v7 x1_) = 0 then
(some (x3_, u))
else
lt (x3_ + 1 : Int32) fun x9 =>
rec 0 x1_ x9 u
def fX7_variable_L0 : Nat → Nat → Int64 → Int32 → St → Option (Int32 × St)
  | 0 => fun _ _ _ _ => none
  | n + 1 => fun q x1_ x3_ u => match q with
    | 0 => fX7_variable_L0_0  (fX7_variable_L0  n) x1_ x3_ u
    | _ => none
def fX7_variable (a0 : Int64) (u : St) : Option (Int32 × St) :=
lt (0 : Int32) fun x10 =>
fX7_variable_L0 FU 0 a0 x10 u
def fX7_bind (a0 : Int32) (a1 : Int32) (u : St) : Option (St) :=
bd (ld u 39 1501 a0) fun v1 =>
bd (st u 39 1501 a0 (v1 + a1)) fun u2 =>
some u2
def fX4_symbol_L0_0 (rec : Nat → Int64 → Int32 → St → Option (Int32 × St)) (x1_ : Int64) (x3_ : Int32) (u : St) : Option (Int32 × St) :=
if (gI u 2 3) ≤ x3_ then
(if (gI u 2 3) < 811 then
(bd (stJ u 15 811 (gI u 2 3) x1_) fun u3 =>
bd (st u3 16 811 (gI u3 2 3) (-1)) fun u4 =>
lt (uI u4 2 3 ((gI u4 2 3) + 1)) fun u5 =>
some ((gI u5 2 3) - 1, u5))
else
some ((-1), u))
else
bd (ldJ u 15 811 x3_) fun v6 =>
if (lg_cmp v6 x1_) = 0 then
(some (x3_, u))
else
lt (x3_ + 1 : Int32) fun x8 =>
rec 0 x1_ x8 u
def fX4_symbol_L0 : Nat → Nat → Int64 → Int32 → St → Option (Int32 × St)
  | 0 => fun _ _ _ _ => none
  | n + 1 => fun q x1_ x3_ u => match q with
    | 0 => fX4_symbol_L0_0  (fX4_symbol_L0  n) x1_ x3_ u
    | _ => none
def fX4_symbol (a0 : Int64) (u : St) : Option (Int32 × St) :=
lt (0 : Int32) fun x9 =>
fX4_symbol_L0 FU 0 a0 x9 u
def fX7_addCell (a0 : Int32) (u : St) : Option (Int32 × St) :=
if (gI u 3 6) < 1501 then
(bd (st u 37 1501 (gI u 3 6) a0) fun u2 =>
lt (uI u2 3 6 ((gI u2 3 6) + 1)) fun u3 =>
some ((gI u3 3 6) - 1, u3))
else
some (0, u)
def fX7_addVariable (a0 : Int32) (u : St) : Option (St) :=
b2 (fX7_addCell ((-1) - a0) u) fun r2 u1 =>
bd (ld u1 39 1501 a0) fun v3 =>
if v3 = 0 then
(bd (ld u1 40 1501 a0) fun v5 =>
if v5 = 0 then
(bd (st u1 40 1501 a0 1) fun u7 =>
bd (st u7 41 1501 (gI u7 3 12) a0) fun u8 =>
lt (uI u8 3 12 ((gI u8 3 12) + 1)) fun u9 =>
some u9)
else
some u1)
else
some u1
def fX4_settle_j24 (x1_ : Int32) (x2_ : Int32) (x3_ : Int32) (u : St) : Option (Int32 × St) :=
bd (ld u 16 811 x1_) fun v1 =>
if v1 = x2_ then
(bd (ld u 17 811 x1_) fun v3 =>
if v3 = x3_ then
(some (1, u))
else
some (0, u))
else
some (0, u)
def fX4_settle (a0 : Int32) (a1 : Int32) (a2 : Int32) (u : St) : Option (Int32 × St) :=
bd (ld u 16 811 a0) fun v5 =>
if v5 = (-1) then
(bd (st u 16 811 a0 a1) fun u7 =>
bd (zb a2) fun z9 =>
bd (st u7 17 811 a0 a2) fun u8 =>
fX4_settle_j24 a0 a1 a2 u8)
else
fX4_settle_j24 a0 a1 a2 u
def fX2_chain_L0_0 (grp : Nat → Int32 → St → Option (Int32 × St)) (rec : Nat → Int32 → Int32 → Int32 → Int32 → Int32 → Int32 → St → Option (Int32 × St)) (x1_ : Int32) (x2_ : Int32) (x3_ : Int32) (u : St) : Option (Int32 × St) :=
if 1500 ≤ x3_ then
(some (x2_, u))
else
b2 (fX2_next u) fun r3 u2 =>
bd (ld4 signs4 x1_) fun v4 =>
if r3 = v4 then
(if 1 < x1_ then
(rec 1 x1_ x2_ x3_ 0 0 0 u2)
else
rec 1 x1_ x2_ x3_ 0 0 1 u2)
else
some (x2_, u2)
def fX2_chain_L0_1 (grp : Nat → Int32 → St → Option (Int32 × St)) (rec : Nat → Int32 → Int32 → Int32 → Int32 → Int32 → Int32 → St → Option (Int32 × St)) (x1_ : Int32) (x2_ : Int32) (x3_ : Int32) (s0_ : Int32) (u : St) : Option (Int32 × St) :=
if s0_ = 0 then
(bd (fX6_take u) fun u11 =>
rec 2 x1_ x2_ x3_ s0_ 0 0 u11)
else
b2 (fX2_opens u) fun r9 u8 =>
if r9 = 0 then
(some (x2_, u8))
else
rec 2 x1_ x2_ x3_ s0_ 0 0 u8
def fX2_chain_L0_2 (grp : Nat → Int32 → St → Option (Int32 × St)) (rec : Nat → Int32 → Int32 → Int32 → Int32 → Int32 → Int32 → St → Option (Int32 × St)) (x1_ : Int32) (x2_ : Int32) (x3_ : Int32) (x4_ : Int32) (u : St) : Option (Int32 × St) :=
if x1_ = 1 then
(rec 3 x1_ x2_ x3_ x4_ 0 x1_ u)
else
rec 3 x1_ x2_ x3_ x4_ 0 (x1_ + 1) u
def fX2_chain_L0_3 (grp : Nat → Int32 → St → Option (Int32 × St)) (rec : Nat → Int32 → Int32 → Int32 → Int32 → Int32 → Int32 → St → Option (Int32 × St)) (x1_ : Int32) (x2_ : Int32) (x3_ : Int32) (x4_ : Int32) (s0_ : Int32) (u : St) : Option (Int32 × St) :=
b2 (grp 0 s0_ u) fun r14 u13 =>
if x4_ = 0 then
(rec 4 x1_ x2_ x3_ 0 r14 0 u13)
else
lt (uI u13 4 3 ((gI u13 4 3) - 1)) fun u16 =>
rec 4 x1_ x2_ x3_ 0 r14 0 u16
def fX2_chain_L0_4 (grp : Nat → Int32 → St → Option (Int32 × St)) (rec : Nat → Int32 → Int32 → Int32 → Int32 → Int32 → Int32 → St → Option (Int32 × St)) (x1_ : Int32) (x2_ : Int32) (x3_ : Int32) (x5_ : Int32) (u : St) : Option (Int32 × St) :=
bd (ld4 kinds4 x1_) fun v17 =>
b2 (fX7_add v17 x2_ x5_ u) fun r19 u18 =>
lt (x3_ + 1 : Int32) fun x20 =>
rec 0 x1_ r19 x20 0 0 0 u18
def fX2_chain_L0 (grp : Nat → Int32 → St → Option (Int32 × St)) : Nat → Nat → Int32 → Int32 → Int32 → Int32 → Int32 → Int32 → St → Option (Int32 × St)
  | 0 => fun _ _ _ _ _ _ _ _ => none
  | n + 1 => fun q x1_ x2_ x3_ x4_ x5_ s0_ u => match q with
    | 0 => fX2_chain_L0_0 grp (fX2_chain_L0 grp n) x1_ x2_ x3_ u
    | 1 => fX2_chain_L0_1 grp (fX2_chain_L0 grp n) x1_ x2_ x3_ s0_ u
    | 2 => fX2_chain_L0_2 grp (fX2_chain_L0 grp n) x1_ x2_ x3_ x4_ u
    | 3 => fX2_chain_L0_3 grp (fX2_chain_L0 grp n) x1_ x2_ x3_ x4_ s0_ u
    | 4 => fX2_chain_L0_4 grp (fX2_chain_L0 grp n) x1_ x2_ x3_ x5_ u
    | _ => none
def oX2_chain (grp : Nat → Int32 → St → Option (Int32 × St)) (a0 : Int32) (u : St) : Option (Int32 × St) :=
if a0 < 4 then
(b2 (grp 0 (a0 + 1) u) fun r23 u22 =>
lt (0 : Int32) fun x24 =>
fX2_chain_L0 grp FU 0 a0 r23 x24 0 0 0 u22)
else
b2 (grp 1 0 u) fun r26 u25 =>
some (r26, u25)
def fX2_unary_j221 (grp : Nat → Int32 → St → Option (Int32 × St)) (x2_ : Int32) (u : St) : Option (Int32 × St) :=
lt (uI u 4 3 ((gI u 4 3) - 1)) fun u1 =>
some (x2_, u1)
def fX2_unary_j201 (grp : Nat → Int32 → St → Option (Int32 × St)) (x4_ : Int32) (s0_ : Int32) (u : St) : Option (Int32 × St) :=
b2 (grp 1 0 u) fun r3 u2 =>
b2 (fX7_add s0_ x4_ r3 u2) fun r5 u4 =>
bd (fX7_bind x4_ (-1) u4) fun u6 =>
fX2_unary_j221 grp r5 u6
def fX2_unary_j89 (grp : Nat → Int32 → St → Option (Int32 × St)) (x1_ : Int32) (x2_ : Int32) (u : St) : Option (Int32 × St) :=
b2 (fX2_opens u) fun r8 u7 =>
if r8 = 0 then
(some (x2_, u7))
else
if x1_ = 9 then
(b2 (grp 1 0 u7) fun r27 u26 =>
b2 (fX7_add 1 r27 0 u26) fun r29 u28 =>
fX2_unary_j221 grp r29 u28)
else
if x1_ = 4 then
(b2 (grp 0 0 u7) fun r23 u22 =>
b2 (fX2_want 5 u22) fun r25 u24 =>
fX2_unary_j221 grp r23 u24)
else
b2 (fX2_want 3 u7) fun r13 u12 =>
if r13 = 0 then
(fX2_unary_j221 grp x2_ u12)
else
b2 (fX7_variable (gJ u12 1 3) u12) fun r16 u15 =>
b2 (fX2_want 8 u15) fun r18 u17 =>
if r18 = 0 then
(fX2_unary_j221 grp x2_ u17)
else
bd (fX7_bind r16 1 u17) fun u20 =>
if x1_ = 12 then
(fX2_unary_j201 grp r16 6 u20)
else
fX2_unary_j201 grp r16 7 u20
def fX2_unary_j59 (grp : Nat → Int32 → St → Option (Int32 × St)) (x1_ : Int32) (x2_ : Int32) (s0_ : Int32) (u : St) : Option (Int32 × St) :=
if s0_ = 0 then
(if x1_ = 9 then
(fX2_unary_j89 grp x1_ x2_ u)
else
if x1_ = 4 then
(fX2_unary_j89 grp x1_ x2_ u)
else
bd (fX2_fail 2 (gI u 1 2) u) fun u33 =>
some (x2_, u33))
else
fX2_unary_j89 grp x1_ x2_ u
def oX2_unary (grp : Nat → Int32 → St → Option (Int32 × St)) (u : St) : Option (Int32 × St) :=
b2 (fX2_next u) fun r35 u34 =>
lt (0 : Int32) fun x36 =>
if r35 = 2 then
(lt (gI u34 3 6 : Int32) fun x40 =>
b2 (grp 2 1 u34) fun r42 u41 =>
b2 (fX7_add 0 x40 (gI u41 3 6) u41) fun r44 u43 =>
some (r44, u43))
else
if r35 = 12 then
(fX2_unary_j59 grp r35 x36 1 u34)
else
if r35 = 13 then
(fX2_unary_j59 grp r35 x36 1 u34)
else
fX2_unary_j59 grp r35 x36 0 u34
def fX2_application_j219 (grp : Nat → Int32 → St → Option (Int32 × St)) (x4_ : Int32) (x5_ : Int32) (u : St) : Option (St) :=
bd (ld u 37 1501 x4_) fun v1 =>
bd (st u 37 1501 x4_ (v1 + x5_)) fun u2 =>
some u2
def fX2_application_j192 (grp : Nat → Int32 → St → Option (Int32 × St)) (x1_ : Int32) (x2_ : Int32) (x3_ : Int32) (x4_ : Int32) (x5_ : Int32) (u : St) : Option (St) :=
if (gI u 4 4) = 0 then
(b2 (fX4_settle x3_ x5_ x1_ u) fun r5 u4 =>
if r5 = 0 then
(bd (fX2_fail 3 x2_ u4) fun u7 =>
fX2_application_j219 grp x4_ x5_ u7)
else
fX2_application_j219 grp x4_ x5_ u4)
else
fX2_application_j219 grp x4_ x5_ u
def fX2_application_j176 (grp : Nat → Int32 → St → Option (Int32 × St)) (x1_ : Int32) (x2_ : Int32) (x3_ : Int32) (x4_ : Int32) (x5_ : Int32) (u : St) : Option (St) :=
b2 (fX2_want 5 u) fun r9 u8 =>
lt (uI u8 4 3 ((gI u8 4 3) - 1)) fun u10 =>
fX2_application_j192 grp x1_ x2_ x3_ x4_ x5_ u10
def fX2_application_j165 (grp : Nat → Int32 → St → Option (Int32 × St)) (x1_ : Int32) (x2_ : Int32) (x3_ : Int32) (x4_ : Int32) (x5_ : Int32) (x6_ : Int32) (u : St) : Option (St) :=
if x6_ = 0 then
(fX2_application_j176 grp x1_ x2_ x3_ x4_ x5_ u)
else
bd (fX2_fail 4 x2_ u) fun u12 =>
fX2_application_j176 grp x1_ x2_ x3_ x4_ x5_ u12
def fX2_application_L0_0 (grp : Nat → Int32 → St → Option (Int32 × St)) (rec : Nat → Int32 → Int32 → Int32 → Int32 → Int32 → Int32 → Int32 → St → Option (St)) (x1_ : Int32) (x2_ : Int32) (x3_ : Int32) (x4_ : Int32) (x5_ : Int32) (x6_ : Int32) (u : St) : Option (St) :=
if x6_ = 0 then
(fX2_application_j165 grp x1_ x2_ x3_ x4_ x5_ x6_ u)
else
if 5 ≤ x5_ then
(fX2_application_j165 grp x1_ x2_ x3_ x4_ x5_ x6_ u)
else
b2 (fX2_next u) fun r16 u15 =>
if r16 = 2 then
(b2 (grp 2 0 u15) fun r25 u24 =>
rec 1 x1_ x2_ x3_ x4_ x5_ 0 0 u24)
else
b2 (fX2_want 3 u15) fun r19 u18 =>
if r19 = 0 then
(rec 1 x1_ x2_ x3_ x4_ x5_ 0 0 u18)
else
b2 (fX7_variable (gJ u18 1 3) u18) fun r22 u21 =>
bd (fX7_addVariable r22 u21) fun u23 =>
rec 1 x1_ x2_ x3_ x4_ x5_ 0 0 u23
def fX2_application_L0_1 (grp : Nat → Int32 → St → Option (Int32 × St)) (rec : Nat → Int32 → Int32 → Int32 → Int32 → Int32 → Int32 → Int32 → St → Option (St)) (x1_ : Int32) (x2_ : Int32) (x3_ : Int32) (x4_ : Int32) (x5_ : Int32) (u : St) : Option (St) :=
lt (x5_ + 1 : Int32) fun x26 =>
b2 (fX2_next u) fun r28 u27 =>
if r28 = 6 then
(rec 2 x1_ x2_ x3_ x4_ x26 0 1 u27)
else
rec 2 x1_ x2_ x3_ x4_ x26 0 0 u27
def fX2_application_L0_2 (grp : Nat → Int32 → St → Option (Int32 × St)) (rec : Nat → Int32 → Int32 → Int32 → Int32 → Int32 → Int32 → Int32 → St → Option (St)) (x1_ : Int32) (x2_ : Int32) (x3_ : Int32) (x4_ : Int32) (x5_ : Int32) (s0_ : Int32) (u : St) : Option (St) :=
if s0_ = 0 then
(rec 0 x1_ x2_ x3_ x4_ x5_ s0_ 0 u)
else
bd (fX6_take u) fun u31 =>
rec 0 x1_ x2_ x3_ x4_ x5_ s0_ 0 u31
def fX2_application_L0 (grp : Nat → Int32 → St → Option (Int32 × St)) : Nat → Nat → Int32 → Int32 → Int32 → Int32 → Int32 → Int32 → Int32 → St → Option (St)
  | 0 => fun _ _ _ _ _ _ _ _ _ => none
  | n + 1 => fun q x1_ x2_ x3_ x4_ x5_ x6_ s0_ u => match q with
    | 0 => fX2_application_L0_0 grp (fX2_application_L0 grp n) x1_ x2_ x3_ x4_ x5_ x6_ u
    | 1 => fX2_application_L0_1 grp (fX2_application_L0 grp n) x1_ x2_ x3_ x4_ x5_ u
    | 2 => fX2_application_L0_2 grp (fX2_application_L0 grp n) x1_ x2_ x3_ x4_ x5_ s0_ u
    | _ => none
def oX2_application (grp : Nat → Int32 → St → Option (Int32 × St)) (a0 : Int32) (u : St) : Option (St) :=
lt (gI u 1 2 : Int32) fun x32 =>
b2 (fX4_symbol (gJ u 1 3) u) fun r34 u33 =>
bd (fX6_take u33) fun u35 =>
if 0 ≤ r34 then
(b2 (fX7_addCell (r34 <<< (3 &&& 31)) u35) fun r38 u37 =>
lt (0 : Int32) fun x39 =>
b2 (fX2_next u37) fun r41 u40 =>
if r41 = 4 then
(b2 (fX2_opens u40) fun r44 u43 =>
if r44 = 0 then
(some u43)
else
lt (1 : Int32) fun x46 =>
fX2_application_L0 grp FU 0 a0 x32 r34 r38 x39 x46 0 u43)
else
fX2_application_j192 grp a0 x32 r34 r38 x39 u40)
else
bd (fX2_fail 5 x32 u35) fun u47 =>
some u47
def fPar : Nat → Nat → Int32 → St → Option (Int32 × St)
  | 0 => fun _ _ _ => none
  | d + 1 => fun q x u => match q with
    | 0 => oX2_chain (fPar d) x u
    | 1 => oX2_unary (fPar d) u
    | _ => bd (oX2_application (fPar d) x u) fun u1 => some (0, u1)
def fX2_chain (a0 : Int32) (u : St) : Option (Int32 × St) := fPar 200 0 a0 u
def fX2_formula (u : St) : Option (Int32 × St) :=
b2 (fX2_chain 0 u) fun r2 u1 =>
some (r2, u1)
def fX11_read_j144 (x1_ : Int32) (x2_ : Int32) (x3_ : Int32) (u : St) : Option (Int32 × St) :=
if (gI u 4 4) = 0 then
(lt (uI u 0 7 (-1)) fun u2 =>
bd (fX3_forget u2) fun u3 =>
some (gI u3 2 5, u3))
else
bd (fX4_takeBack x1_ x2_ x3_ u) fun u4 =>
lt (uI u4 0 7 (gI u4 4 5)) fun u5 =>
some ((-10) - (gI u5 4 4), u5)
def fX11_read_j125 (x1_ : Int32) (x2_ : Int32) (x3_ : Int32) (x5_ : Int32) (u : St) : Option (Int32 × St) :=
bd (fX2_fail 5 x5_ u) fun u6 =>
fX11_read_j144 x1_ x2_ x3_ u6
def fX11_read_L0_0 (rec : Nat → Int32 → Int32 → Int32 → Int32 → St → Option (Int32 × St)) (x1_ : Int32) (x2_ : Int32) (x3_ : Int32) (x4_ : Int32) (u : St) : Option (Int32 × St) :=
if 1500 ≤ x4_ then
(fX11_read_j144 x1_ x2_ x3_ u)
else
b2 (fX2_next u) fun r9 u8 =>
if r9 = 1 then
(fX11_read_j144 x1_ x2_ x3_ u8)
else
lt (gI u8 1 2 : Int32) fun x11 =>
bd (fX7_begin u8) fun u12 =>
b2 (fX2_formula u12) fun r14 u13 =>
b2 (fX2_want 7 u13) fun r16 u15 =>
if (gI u15 4 4) = 0 then
(if 60 < (gI u15 2 3) then
(fX11_read_j125 x1_ x2_ x3_ x11 u15)
else
b2 (fX0_make r14 u15) fun r20 u19 =>
if r20 = 0 then
(fX11_read_j125 x1_ x2_ x3_ x11 u19)
else
lt (x4_ + 1 : Int32) fun x22 =>
rec 0 x1_ x2_ x3_ x22 u19)
else
fX11_read_j144 x1_ x2_ x3_ u15
def fX11_read_L0 : Nat → Nat → Int32 → Int32 → Int32 → Int32 → St → Option (Int32 × St)
  | 0 => fun _ _ _ _ _ _ => none
  | n + 1 => fun q x1_ x2_ x3_ x4_ u => match q with
    | 0 => fX11_read_L0_0  (fX11_read_L0  n) x1_ x2_ x3_ x4_ u
    | _ => none
def fX11_read (u : St) : Option (Int32 × St) :=
lt (gI u 2 5 : Int32) fun x23 =>
lt (gI u 2 3 : Int32) fun x24 =>
lt (gI u 2 4 : Int32) fun x25 =>
bd (fX2_begin u) fun u26 =>
lt (0 : Int32) fun x27 =>
fX11_read_L0 FU 0 x23 x24 x25 x27 u26
def fX5_unbind_L0_0 (rec : Nat → Int32 → St → Option (St)) (x1_ : Int32) (u : St) : Option (St) :=
if (gI u 7 11) ≤ x1_ then
(some u)
else
if (gI u 7 11) ≤ 0 then
(some u)
else
lt (uI u 7 11 ((gI u 7 11) - 1)) fun u3 =>
bd (ld u3 64 220 (gI u3 7 11)) fun v4 =>
bd (st u3 62 220 v4 (-1)) fun u5 =>
rec 0 x1_ u5
def fX5_unbind_L0 : Nat → Nat → Int32 → St → Option (St)
  | 0 => fun _ _ _ => none
  | n + 1 => fun q x1_ u => match q with
    | 0 => fX5_unbind_L0_0  (fX5_unbind_L0  n) x1_ u
    | _ => none
def fX5_unbind (a0 : Int32) (u : St) : Option (St) :=
fX5_unbind_L0 FU 0 a0 u
def fX3_push (a0 : Int32) (a1 : Int32) (a2 : Int32) (u : St) : Option (Int32 × St) :=
if ((gI u 9 9) + 1) < 151 then
(lt (uI u 9 9 ((gI u 9 9) + 1)) fun u2 =>
bd (st u2 65 151 (gI u2 9 9) a0) fun u3 =>
bd (st u3 66 151 (gI u3 9 9) a1) fun u4 =>
bd (st u4 67 151 (gI u4 9 9) a2) fun u5 =>
bd (st u5 68 151 (gI u5 9 9) (gI u5 7 11)) fun u6 =>
bd (st u6 69 151 (gI u6 9 9) (gI u6 7 6)) fun u7 =>
bd (st u7 70 151 (gI u7 9 9) (gI u7 7 7)) fun u8 =>
some (1, u8))
else
some (0, u)
def fX4_positive_L0_0 (rec : Nat → Int32 → Int32 → St → Option (Int32 × St)) (x1_ : Int32) (x2_ : Int32) (u : St) : Option (Int32 × St) :=
bd (ld u 18 101 (x1_ + 1)) fun v1 =>
if v1 ≤ x2_ then
(some (1, u))
else
bd (ld u 30 1200 x2_) fun v3 =>
if v3 = 0 then
(lt (x2_ + 1 : Int32) fun x5 =>
rec 0 x1_ x5 u)
else
some (0, u)
def fX4_positive_L0 : Nat → Nat → Int32 → Int32 → St → Option (Int32 × St)
  | 0 => fun _ _ _ _ => none
  | n + 1 => fun q x1_ x2_ u => match q with
    | 0 => fX4_positive_L0_0  (fX4_positive_L0  n) x1_ x2_ u
    | _ => none
def fX4_positive (a0 : Int32) (u : St) : Option (Int32 × St) :=
bd (ld u 18 101 a0) fun v6 =>
fX4_positive_L0 FU 0 a0 v6 u
def fX3_nextStart_L0_0 (rec : Nat → Int32 → St → Option (Int32 × St)) (x1_ : Int32) (u : St) : Option (Int32 × St) :=
if (gI u 2 5) ≤ x1_ then
(some (0, u))
else
b2 (fX4_positive x1_ u) fun r3 u2 =>
if r3 = 0 then
(lt (x1_ + 1 : Int32) fun x5 =>
rec 0 x5 u2)
else
bd (st u2 67 151 (gI u2 9 9) x1_) fun u6 =>
some (1, u6)
def fX3_nextStart_L0 : Nat → Nat → Int32 → St → Option (Int32 × St)
  | 0 => fun _ _ _ => none
  | n + 1 => fun q x1_ u => match q with
    | 0 => fX3_nextStart_L0_0  (fX3_nextStart_L0  n) x1_ u
    | _ => none
def fX3_nextStart (u : St) : Option (Int32 × St) :=
bd (ld u 67 151 (gI u 9 9)) fun v7 =>
lt (v7 + 1 : Int32) fun x8 =>
fX3_nextStart_L0 FU 0 x8 u
def fX4_opposed (a0 : Int32) (a1 : Int32) (u : St) : Option (Int32 × St) :=
bd (ld u 30 1200 a0) fun v1 =>
bd (ld u 30 1200 a1) fun v2 =>
if v1 = v2 then
(some (0, u))
else
bd (ld u 29 1201 a0) fun v4 =>
bd (ld u 32 20000 v4) fun v5 =>
bd (ld u 29 1201 a1) fun v6 =>
bd (ld u 32 20000 v6) fun v7 =>
if v5 = v7 then
(some (1, u))
else
some (0, u)
def fX3_nextAbove_L0_0 (rec : Nat → Int32 → Int32 → St → Option (Int32 × St)) (x1_ : Int32) (x2_ : Int32) (u : St) : Option (Int32 × St) :=
if 150 ≤ x2_ then
(some (0, u))
else
if x1_ < 0 then
(some (0, u))
else
bd (ld u 66 151 (gI u 9 9)) fun v3 =>
bd (ld u 57 150 v3) fun v4 =>
bd (ld u 57 150 x1_) fun v5 =>
b2 (fX4_opposed v4 v5 u) fun r7 u6 =>
if r7 = 0 then
(bd (ld u6 59 150 x1_) fun v9 =>
lt (x2_ + 1 : Int32) fun x10 =>
rec 0 v9 x10 u6)
else
bd (st u6 67 151 (gI u6 9 9) x1_) fun u11 =>
some (1, u11)
def fX3_nextAbove_L0 : Nat → Nat → Int32 → Int32 → St → Option (Int32 × St)
  | 0 => fun _ _ _ _ => none
  | n + 1 => fun q x1_ x2_ u => match q with
    | 0 => fX3_nextAbove_L0_0  (fX3_nextAbove_L0  n) x1_ x2_ u
    | _ => none
def fX3_nextAbove (u : St) : Option (Int32 × St) :=
bd (ld u 67 151 (gI u 9 9)) fun v12 =>
bd (ld u 59 150 v12) fun v13 =>
lt (0 : Int32) fun x14 =>
fX3_nextAbove_L0 FU 0 v13 x14 u
def fX4_literals (u : St) : Option (Int32 × St) :=
bd (ld u 18 101 (gI u 2 5)) fun v1 =>
some (v1, u)
def fX3_nextLiteral_L0_0 (rec : Nat → Int32 → St → Option (Int32 × St)) (x1_ : Int32) (u : St) : Option (Int32 × St) :=
b2 (fX4_literals u) fun r2 u1 =>
if r2 ≤ x1_ then
(some (0, u1))
else
bd (ld u1 66 151 (gI u1 9 9)) fun v4 =>
bd (ld u1 57 150 v4) fun v5 =>
b2 (fX4_opposed v5 x1_ u1) fun r7 u6 =>
if r7 = 0 then
(lt (x1_ + 1 : Int32) fun x9 =>
rec 0 x9 u6)
else
bd (st u6 67 151 (gI u6 9 9) x1_) fun u10 =>
some (1, u10)
def fX3_nextLiteral_L0 : Nat → Nat → Int32 → St → Option (Int32 × St)
  | 0 => fun _ _ _ => none
  | n + 1 => fun q x1_ u => match q with
    | 0 => fX3_nextLiteral_L0_0  (fX3_nextLiteral_L0  n) x1_ u
    | _ => none
def fX3_nextLiteral (u : St) : Option (Int32 × St) :=
bd (ld u 67 151 (gI u 9 9)) fun v11 =>
lt (v11 + 1 : Int32) fun x12 =>
fX3_nextLiteral_L0 FU 0 x12 u
def fX3_nextChoice_j59 (u : St) : Option (Int32 × St) :=
bd (ld u 66 151 (gI u 9 9)) fun v1 =>
bd (ld u 60 150 v1) fun v2 =>
if v2 < (gI u 9 14) then
(b2 (fX3_nextLiteral u) fun r5 u4 =>
bd (zb r5) fun z6 =>
some (r5, u4))
else
b2 (fX3_nextLiteral u) fun r8 u7 =>
bd (zb ((gI u 9 12) ||| r8)) fun z10 =>
lt (uI u7 9 12 ((gI u 9 12) ||| r8)) fun u9 =>
some (0, u9)
def fX3_nextChoice (u : St) : Option (Int32 × St) :=
bd (ld u 65 151 (gI u 9 9)) fun v11 =>
if v11 = 0 then
(b2 (fX3_nextStart u) fun r21 u20 =>
bd (zb r21) fun z22 =>
some (r21, u20))
else
bd (ld u 65 151 (gI u 9 9)) fun v13 =>
if v13 = 2 then
(b2 (fX3_nextAbove u) fun r16 u15 =>
if r16 = 0 then
(bd (st u15 65 151 (gI u15 9 9) 1) fun u18 =>
bd (st u18 67 151 (gI u18 9 9) (-1)) fun u19 =>
fX3_nextChoice_j59 u19)
else
some (1, u15))
else
fX3_nextChoice_j59 u
def fX8_begin (a0 : Int32) (a1 : Int32) (a2 : Int32) (u : St) : Option (St) :=
bd (ld u 57 150 a0) fun v1 =>
bd (ld u 29 1201 v1) fun v2 =>
bd (ld u 32 20000 v2) fun v3 =>
lt (v3 &&& 7 : Int32) fun x4 =>
bd (ld u 58 150 a0) fun v5 =>
bd (fX9_begin 0 (v2 + 1) v5 x4 u) fun u6 =>
bd (ld u6 29 1201 a1) fun v7 =>
bd (fX9_begin 1 (v7 + 1) a2 x4 u6) fun u8 =>
some u8
def fX9_cell (w : Nat) (u : St) : Option (Int32 × St) :=
bd (ld u (20 + 3 * w) 222 (gI u (11 + w) 5)) fun v1 =>
some (v1, u)
def fX9_cellBase (w : Nat) (u : St) : Option (Int32 × St) :=
bd (ld u (21 + 3 * w) 222 (gI u (11 + w) 5)) fun v1 =>
some (v1, u)
def fX8_stands_L0_0 (a1 : Nat) (rec : Nat → Int32 → St → Option (Int32 × St)) (x1_ : Int32) (u : St) : Option (Int32 × St) :=
b2 (fX9_more 2 u) fun r2 u1 =>
if r2 = 0 then
(some (0, u1))
else
lt (uI u1 8 5 ((gI u1 8 5) + 1)) fun u4 =>
if (gI u4 8 5) ≤ 4000 then
(b2 (fX9_variable 2 u4) fun r7 u6 =>
if r7 = x1_ then
(some (1, u6))
else
bd (fX9_enter 2 u6) fun u9 =>
rec 0 x1_ u9)
else
some (2, u4)
def fX8_stands_L0 (a1 : Nat) : Nat → Nat → Int32 → St → Option (Int32 × St)
  | 0 => fun _ _ _ => none
  | n + 1 => fun q x1_ u => match q with
    | 0 => fX8_stands_L0_0 a1 (fX8_stands_L0 a1 n) x1_ u
    | _ => none
def fX8_stands (a0 : Int32) (a1 : Nat) (u : St) : Option (Int32 × St) :=
b2 (fX9_cell a1 u) fun r11 u10 =>
b2 (fX9_cellBase a1 u10) fun r13 u12 =>
bd (fX9_begin 2 r11 r13 1 u12) fun u14 =>
fX8_stands_L0 a1 FU 0 a0 u14
def fX5_bind (a0 : Int32) (a1 : Int32) (a2 : Int32) (u : St) : Option (St) :=
if 220 ≤ (gI u 7 11) then
(some u)
else
bd (st u 62 220 a0 a1) fun u2 =>
bd (st u2 63 220 a0 a2) fun u3 =>
bd (st u3 64 220 (gI u3 7 11) a0) fun u4 =>
lt (uI u4 7 11 ((gI u4 7 11) + 1)) fun u5 =>
some u5
def fX8_bind (a0 : Int32) (a1 : Int32) (u : St) : Option (St) :=
if a0 < 0 then
(b2 (fX9_cell 0 u) fun r3 u2 =>
b2 (fX9_cellBase 0 u2) fun r5 u4 =>
bd (fX5_bind a1 r3 r5 u4) fun u6 =>
some u6)
else
b2 (fX9_cell 1 u) fun r8 u7 =>
b2 (fX9_cellBase 1 u7) fun r10 u9 =>
bd (fX5_bind a0 r8 r10 u9) fun u11 =>
some u11
def fX9_skip_L0_0 (w : Nat) (rec : Nat → Int32 → Int32 → St → Option (St)) (x1_ : Int32) (x2_ : Int32) (u : St) : Option (St) :=
if 200 ≤ x2_ then
(some u)
else
bd (ld u (22 + 3 * w) 222 (gI u (11 + w) 5)) fun v2 =>
if v2 ≤ x1_ then
(some u)
else
bd (fX9_enter w u) fun u4 =>
lt (x2_ + 1 : Int32) fun x5 =>
rec 0 x1_ x5 u4
def fX9_skip_L0 (w : Nat) : Nat → Nat → Int32 → Int32 → St → Option (St)
  | 0 => fun _ _ _ _ => none
  | n + 1 => fun q x1_ x2_ u => match q with
    | 0 => fX9_skip_L0_0 w (fX9_skip_L0 w n) x1_ x2_ u
    | _ => none
def fX9_skip (w : Nat) (u : St) : Option (St) :=
bd (ld u (22 + 3 * w) 222 (gI u (11 + w) 5)) fun v6 =>
lt (v6 - 1 : Int32) fun x7 =>
lt (0 : Int32) fun x8 =>
fX9_skip_L0 w FU 0 x7 x8 u
def fX8_unify_L0_0 (rec : Nat → Int32 → Int32 → Int32 → St → Option (Int32 × St)) (u : St) : Option (Int32 × St) :=
b2 (fX9_more 0 u) fun r2 u1 =>
if r2 = 0 then
(some (1, u1))
else
b2 (fX9_more 1 u1) fun r5 u4 =>
if r5 = 0 then
(some (1, u4))
else
lt (uI u4 8 5 ((gI u4 8 5) + 1)) fun u7 =>
if (gI u7 8 5) ≤ 4000 then
(b2 (fX9_variable 0 u7) fun r10 u9 =>
b2 (fX9_variable 1 u9) fun r12 u11 =>
if 0 ≤ r10 then
(rec 1 r10 r12 0 u11)
else
if 0 ≤ r12 then
(rec 1 r10 r12 0 u11)
else
b2 (fX9_symbol 0 u11) fun r16 u15 =>
b2 (fX9_symbol 1 u15) fun r18 u17 =>
if r16 = r18 then
(bd (fX9_enter 0 u17) fun u20 =>
bd (fX9_enter 1 u20) fun u21 =>
rec 0 0 0 0 u21)
else
some (0, u17))
else
some (2, u7)
def fX8_unify_L0_1 (rec : Nat → Int32 → Int32 → Int32 → St → Option (Int32 × St)) (x4_ : Int32) (x5_ : Int32) (u : St) : Option (Int32 × St) :=
if x4_ = x5_ then
(rec 3 0 0 0 u)
else
if x4_ < 0 then
(b2 (fX8_stands x5_ 0 u) fun r25 u24 =>
rec 2 x4_ x5_ r25 u24)
else
b2 (fX8_stands x4_ 1 u) fun r27 u26 =>
rec 2 x4_ x5_ r27 u26
def fX8_unify_L0_2 (rec : Nat → Int32 → Int32 → Int32 → St → Option (Int32 × St)) (x4_ : Int32) (x5_ : Int32) (s0_ : Int32) (u : St) : Option (Int32 × St) :=
if s0_ = 0 then
(bd (fX8_bind x4_ x5_ u) fun u29 =>
rec 3 0 0 0 u29)
else
if s0_ = 2 then
(some (2, u))
else
some (0, u)
def fX8_unify_L0_3 (rec : Nat → Int32 → Int32 → Int32 → St → Option (Int32 × St)) (u : St) : Option (Int32 × St) :=
bd (fX9_skip 0 u) fun u31 =>
bd (fX9_skip 1 u31) fun u32 =>
rec 0 0 0 0 u32
def fX8_unify_L0 : Nat → Nat → Int32 → Int32 → Int32 → St → Option (Int32 × St)
  | 0 => fun _ _ _ _ _ => none
  | n + 1 => fun q x4_ x5_ s0_ u => match q with
    | 0 => fX8_unify_L0_0  (fX8_unify_L0  n)  u
    | 1 => fX8_unify_L0_1  (fX8_unify_L0  n) x4_ x5_ u
    | 2 => fX8_unify_L0_2  (fX8_unify_L0  n) x4_ x5_ s0_ u
    | 3 => fX8_unify_L0_3  (fX8_unify_L0  n)  u
    | _ => none
def fX8_unify (a0 : Int32) (a1 : Int32) (a2 : Int32) (u : St) : Option (Int32 × St) :=
bd (fX8_begin a0 a1 a2 u) fun u33 =>
lt (uI u33 8 5 0) fun u34 =>
fX8_unify_L0 FU 0 0 0 0 u34
def fX5_fits (a0 : Int32) (u : St) : Option (Int32 × St) :=
bd (ld u 18 101 (a0 + 1)) fun v1 =>
bd (ld u 18 101 a0) fun v2 =>
lt (v1 - v2 : Int32) fun x3 =>
if 150 < ((gI u 7 6) + x3) then
(some (0, u))
else
bd (ld u 19 100 a0) fun v5 =>
if 200 < ((gI u 7 7) + v5) then
(some (0, u))
else
some (1, u)
def fX5_add_L0_0 (rec : Nat → Int32 → Int32 → Int32 → Int32 → Int32 → St → Option (Int32 × St)) (x1_ : Int32) (x3_ : Int32) (x6_ : Int32) (x7_ : Int32) (x8_ : Int32) (u : St) : Option (Int32 × St) :=
if x8_ < x6_ then
(bd (ld u 18 101 (x1_ + 1)) fun v2 =>
lt (uI u 7 6 ((gI u 7 6) + (v2 - x6_))) fun u3 =>
bd (ld u3 19 100 x1_) fun v4 =>
lt (uI u3 7 7 ((gI u3 7 7) + v4)) fun u5 =>
some (x7_, u5))
else
if x8_ = x3_ then
(lt (x8_ + (-1) : Int32) fun x7 =>
rec 0 x1_ x3_ x6_ x7_ x7 u)
else
bd (st u 61 150 (((gI u 7 6) + x8_) - x6_) x7_) fun u8 =>
lt (((gI u8 7 6) + x8_) - x6_ : Int32) fun x9 =>
lt (x8_ + (-1) : Int32) fun x10 =>
rec 0 x1_ x3_ x6_ x9 x10 u8
def fX5_add_L0 : Nat → Nat → Int32 → Int32 → Int32 → Int32 → Int32 → St → Option (Int32 × St)
  | 0 => fun _ _ _ _ _ _ _ => none
  | n + 1 => fun q x1_ x3_ x6_ x7_ x8_ u => match q with
    | 0 => fX5_add_L0_0  (fX5_add_L0  n) x1_ x3_ x6_ x7_ x8_ u
    | _ => none
def fX5_add_L1_0 (rec : Nat → Int32 → Int32 → Int32 → Int32 → Int32 → Int32 → Int32 → St → Option (Int32 × St)) (x1_ : Int32) (x2_ : Int32) (x3_ : Int32) (x4_ : Int32) (x5_ : Int32) (x6_ : Int32) (x7_ : Int32) (u : St) : Option (Int32 × St) :=
bd (ld u 18 101 (x1_ + 1)) fun v11 =>
if v11 ≤ x7_ then
(bd (ld u 18 101 (x1_ + 1)) fun v13 =>
lt (v13 - 1 : Int32) fun x14 =>
fX5_add_L0 FU 0 x1_ x3_ x6_ x4_ x14 u)
else
bd (st u 57 150 (((gI u 7 6) + x7_) - x6_) x7_) fun u15 =>
bd (st u15 58 150 (((gI u15 7 6) + x7_) - x6_) (gI u15 7 7)) fun u16 =>
bd (st u16 59 150 (((gI u16 7 6) + x7_) - x6_) x2_) fun u17 =>
bd (st u17 60 150 (((gI u17 7 6) + x7_) - x6_) x5_) fun u18 =>
lt (x7_ + 1 : Int32) fun x19 =>
rec 0 x1_ x2_ x3_ x4_ x5_ x6_ x19 u18
def fX5_add_L1 : Nat → Nat → Int32 → Int32 → Int32 → Int32 → Int32 → Int32 → Int32 → St → Option (Int32 × St)
  | 0 => fun _ _ _ _ _ _ _ _ _ => none
  | n + 1 => fun q x1_ x2_ x3_ x4_ x5_ x6_ x7_ u => match q with
    | 0 => fX5_add_L1_0  (fX5_add_L1  n) x1_ x2_ x3_ x4_ x5_ x6_ x7_ u
    | _ => none
def fX5_add_j32 (x1_ : Int32) (x2_ : Int32) (x3_ : Int32) (x4_ : Int32) (s0_ : Int32) (u : St) : Option (Int32 × St) :=
bd (ld u 18 101 x1_) fun v20 =>
fX5_add_L1 FU 0 x1_ x2_ x3_ x4_ s0_ v20 v20 u
def fX5_add_j14 (x1_ : Int32) (x2_ : Int32) (x3_ : Int32) (s0_ : Int32) (u : St) : Option (Int32 × St) :=
if 0 ≤ x2_ then
(bd (ld u 60 150 x2_) fun v22 =>
fX5_add_j32 x1_ x2_ x3_ s0_ (v22 + 1) u)
else
fX5_add_j32 x1_ x2_ x3_ s0_ 0 u
def fX5_add (a0 : Int32) (a1 : Int32) (a2 : Int32) (u : St) : Option (Int32 × St) :=
if 0 ≤ a1 then
(bd (ld u 61 150 a1) fun v24 =>
fX5_add_j14 a0 a1 a2 v24 u)
else
fX5_add_j14 a0 a1 a2 (-1) u
def fX3_grow (u : St) : Option (Int32 × St) :=
bd (ld u 65 151 (gI u 9 9)) fun v1 =>
if v1 = 2 then
(bd (ld u 66 151 (gI u 9 9)) fun v18 =>
bd (ld u 61 150 v18) fun v19 =>
lt (uI u 9 10 v19) fun u20 =>
some (2, u20))
else
b2 (fX3_rowOf (gI u 9 9) u) fun r4 u3 =>
b2 (fX5_fits r4 u3) fun r6 u5 =>
if r6 = 0 then
(some ((-7), u5))
else
bd (ld u5 66 151 (gI u5 9 9)) fun v8 =>
bd (ld u5 65 151 (gI u5 9 9)) fun v9 =>
if v9 = 0 then
(b2 (fX5_add r4 v8 (-1) u5) fun r16 u15 =>
lt (uI u15 9 10 r16) fun u17 =>
some (2, u17))
else
bd (ld u5 67 151 (gI u5 9 9)) fun v11 =>
b2 (fX5_add r4 v8 v11 u5) fun r13 u12 =>
lt (uI u12 9 10 r13) fun u14 =>
some (2, u14)
def fX3_advance_L0_0 (rec : Nat → Int32 → Int32 → St → Option (Int32 × St)) (x1_ : Int32) (u : St) : Option (Int32 × St) :=
if 1000000 ≤ x1_ then
(some (3, u))
else
b2 (fX3_nextChoice u) fun r3 u2 =>
if r3 = 0 then
(some (3, u2))
else
if (gI u2 9 13) < (gI u2 9 11) then
(lt (uI u2 9 13 ((gI u2 9 13) + 1)) fun u6 =>
lt (1 : Int32) fun x7 =>
bd (ld u6 65 151 (gI u6 9 9)) fun v8 =>
if v8 = 2 then
(bd (ld u6 67 151 (gI u6 9 9)) fun v16 =>
bd (ld u6 66 151 (gI u6 9 9)) fun v17 =>
bd (ld u6 57 150 v16) fun v18 =>
bd (ld u6 58 150 v16) fun v19 =>
b2 (fX8_unify v17 v18 v19 u6) fun r21 u20 =>
rec 1 x1_ r21 u20)
else
bd (ld u6 65 151 (gI u6 9 9)) fun v10 =>
if v10 = 1 then
(bd (ld u6 66 151 (gI u6 9 9)) fun v12 =>
bd (ld u6 67 151 (gI u6 9 9)) fun v13 =>
b2 (fX8_unify v12 v13 (gI u6 7 7) u6) fun r15 u14 =>
rec 1 x1_ r15 u14)
else
rec 1 x1_ x7 u6)
else
some ((-6), u2)
def fX3_advance_L0_1 (rec : Nat → Int32 → Int32 → St → Option (Int32 × St)) (x1_ : Int32) (x2_ : Int32) (u : St) : Option (Int32 × St) :=
if x2_ = 1 then
(b2 (fX3_grow u) fun r28 u27 =>
some (r28, u27))
else
if x2_ = 2 then
(some ((-7), u))
else
bd (ld u 68 151 (gI u 9 9)) fun v24 =>
bd (fX5_unbind v24 u) fun u25 =>
lt (x1_ + 1 : Int32) fun x26 =>
rec 0 x26 0 u25
def fX3_advance_L0 : Nat → Nat → Int32 → Int32 → St → Option (Int32 × St)
  | 0 => fun _ _ _ _ => none
  | n + 1 => fun q x1_ x2_ u => match q with
    | 0 => fX3_advance_L0_0  (fX3_advance_L0  n) x1_ u
    | 1 => fX3_advance_L0_1  (fX3_advance_L0  n) x1_ x2_ u
    | _ => none
def fX3_advance (u : St) : Option (Int32 × St) :=
lt (0 : Int32) fun x29 =>
fX3_advance_L0 FU 0 x29 0 u
def fX4_alike (a0 : Int32) (a1 : Int32) (u : St) : Option (Int32 × St) :=
bd (ld u 30 1200 a0) fun v1 =>
bd (ld u 30 1200 a1) fun v2 =>
if v1 = v2 then
(bd (ld u 29 1201 a0) fun v4 =>
bd (ld u 32 20000 v4) fun v5 =>
bd (ld u 29 1201 a1) fun v6 =>
bd (ld u 32 20000 v6) fun v7 =>
if v5 = v7 then
(some (1, u))
else
some (0, u))
else
some (0, u)
def fX8_same_L0_0 (rec : Nat → St → Option (Int32 × St)) (u : St) : Option (Int32 × St) :=
b2 (fX9_more 0 u) fun r2 u1 =>
if r2 = 0 then
(some (1, u1))
else
b2 (fX9_more 1 u1) fun r5 u4 =>
if r5 = 0 then
(some (1, u4))
else
lt (uI u4 8 5 ((gI u4 8 5) + 1)) fun u7 =>
if (gI u7 8 5) ≤ 4000 then
(b2 (fX9_variable 0 u7) fun r10 u9 =>
b2 (fX9_variable 1 u9) fun r12 u11 =>
if r10 = r12 then
(if 0 ≤ r10 then
(rec 1 u11)
else
b2 (fX9_symbol 0 u11) fun r16 u15 =>
b2 (fX9_symbol 1 u15) fun r18 u17 =>
if r16 = r18 then
(rec 1 u17)
else
some (0, u17))
else
some (0, u11))
else
some (2, u7)
def fX8_same_L0_1 (rec : Nat → St → Option (Int32 × St)) (u : St) : Option (Int32 × St) :=
bd (fX9_enter 0 u) fun u20 =>
bd (fX9_enter 1 u20) fun u21 =>
rec 0 u21
def fX8_same_L0 : Nat → Nat → St → Option (Int32 × St)
  | 0 => fun _  _ => none
  | n + 1 => fun q  u => match q with
    | 0 => fX8_same_L0_0  (fX8_same_L0  n)  u
    | 1 => fX8_same_L0_1  (fX8_same_L0  n)  u
    | _ => none
def fX8_same (a0 : Int32) (a1 : Int32) (u : St) : Option (Int32 × St) :=
bd (ld u 57 150 a1) fun v22 =>
bd (ld u 58 150 a1) fun v23 =>
bd (fX8_begin a0 v22 v23 u) fun u24 =>
fX8_same_L0 FU 0 u24
def fX8_repeats_L0_0 (rec : Nat → Int32 → Int32 → Int32 → St → Option (Int32 × St)) (x1_ : Int32) (x2_ : Int32) (x3_ : Int32) (u : St) : Option (Int32 × St) :=
if 150 ≤ x3_ then
(some (0, u))
else
if x2_ < 0 then
(some (0, u))
else
bd (ld u 57 150 x1_) fun v3 =>
bd (ld u 57 150 x2_) fun v4 =>
b2 (fX4_alike v3 v4 u) fun r6 u5 =>
if r6 = 0 then
(rec 1 x1_ x2_ x3_ u5)
else
b2 (fX8_same x1_ x2_ u5) fun r9 u8 =>
if r9 = 0 then
(rec 1 x1_ x2_ x3_ u8)
else
some (r9, u8)
def fX8_repeats_L0_1 (rec : Nat → Int32 → Int32 → Int32 → St → Option (Int32 × St)) (x1_ : Int32) (x2_ : Int32) (x3_ : Int32) (u : St) : Option (Int32 × St) :=
bd (ld u 59 150 x2_) fun v11 =>
lt (x3_ + 1 : Int32) fun x12 =>
rec 0 x1_ v11 x12 u
def fX8_repeats_L0 : Nat → Nat → Int32 → Int32 → Int32 → St → Option (Int32 × St)
  | 0 => fun _ _ _ _ _ => none
  | n + 1 => fun q x1_ x2_ x3_ u => match q with
    | 0 => fX8_repeats_L0_0  (fX8_repeats_L0  n) x1_ x2_ x3_ u
    | 1 => fX8_repeats_L0_1  (fX8_repeats_L0  n) x1_ x2_ x3_ u
    | _ => none
def fX8_repeats (a0 : Int32) (u : St) : Option (Int32 × St) :=
lt (uI u 8 5 0) fun u13 =>
bd (ld u13 59 150 a0) fun v14 =>
lt (0 : Int32) fun x15 =>
fX8_repeats_L0 FU 0 a0 v14 x15 u13
def fX3_runLimit_L0_0 (rec : Nat → Int32 → St → Option (Int32 × St)) (x1_ : Int32) (u : St) : Option (Int32 × St) :=
if 1000000 ≤ x1_ then
(some (3, u))
else
if (gI u 9 9) < 0 then
(some (3, u))
else
bd (ld u 68 151 (gI u 9 9)) fun v3 =>
bd (fX5_unbind v3 u) fun u4 =>
bd (ld u4 69 151 (gI u4 9 9)) fun v5 =>
lt (uI u4 7 6 v5) fun u6 =>
bd (ld u6 70 151 (gI u6 9 9)) fun v7 =>
lt (uI u6 7 7 v7) fun u8 =>
b2 (fX3_advance u8) fun r10 u9 =>
if r10 = 3 then
(lt (uI u9 9 9 ((gI u9 9 9) - 1)) fun u23 =>
lt (x1_ + 1 : Int32) fun x24 =>
rec 0 x24 u23)
else
if r10 = 2 then
(if 0 ≤ (gI u9 9 10) then
(b2 (fX8_repeats (gI u9 9 10) u9) fun r15 u14 =>
if r15 = 2 then
(some ((-7), u14))
else
if r15 = 0 then
(b2 (fX3_push 2 (gI u14 9 10) (gI u14 9 10) u14) fun r20 u19 =>
if r20 = 0 then
(some ((-7), u19))
else
lt (x1_ + 1 : Int32) fun x22 =>
rec 0 x22 u19)
else
lt (x1_ + 1 : Int32) fun x18 =>
rec 0 x18 u14)
else
some (1, u9))
else
some (r10, u9)
def fX3_runLimit_L0 : Nat → Nat → Int32 → St → Option (Int32 × St)
  | 0 => fun _ _ _ => none
  | n + 1 => fun q x1_ u => match q with
    | 0 => fX3_runLimit_L0_0  (fX3_runLimit_L0  n) x1_ u
    | _ => none
def fX3_runLimit (u : St) : Option (Int32 × St) :=
bd (fX5_unbind 0 u) fun u25 =>
lt (uI u25 7 6 0) fun u26 =>
lt (uI u26 7 7 0) fun u27 =>
lt (uI u27 9 9 (-1)) fun u28 =>
b2 (fX3_push 0 (-1) (-1) u28) fun r30 u29 =>
lt (0 : Int32) fun x31 =>
fX3_runLimit_L0 FU 0 x31 u29
def fX3_run_L0_0 (rec : Nat → Int32 → Int32 → St → Option (Int32 × St)) (x1_ : Int32) (u : St) : Option (Int32 × St) :=
if x1_ < (gI u 9 14) then
(lt (uI u 9 14 x1_) fun u2 =>
some ((-5), u2))
else
lt (uI u 9 12 0) fun u3 =>
b2 (fX3_runLimit u3) fun r5 u4 =>
if r5 = 1 then
(lt (uI u4 9 15 ((gI u4 9 9) + 1)) fun u7 =>
rec 1 x1_ r5 u7)
else
rec 1 x1_ r5 u4
def fX3_run_L0_1 (rec : Nat → Int32 → Int32 → St → Option (Int32 × St)) (x1_ : Int32) (x3_ : Int32) (u : St) : Option (Int32 × St) :=
if x3_ = 3 then
(if (gI u 9 12) = 0 then
(some (0, u))
else
lt (uI u 9 14 ((gI u 9 14) + 1)) fun u10 =>
rec 0 x1_ 0 u10)
else
some (x3_, u)
def fX3_run_L0 : Nat → Nat → Int32 → Int32 → St → Option (Int32 × St)
  | 0 => fun _ _ _ _ => none
  | n + 1 => fun q x1_ x3_ u => match q with
    | 0 => fX3_run_L0_0  (fX3_run_L0  n) x1_ u
    | 1 => fX3_run_L0_1  (fX3_run_L0  n) x1_ x3_ u
    | _ => none
def fX3_run (a0 : Int32) (a1 : Int32) (u : St) : Option (Int32 × St) :=
bd (fX3_forget u) fun u11 =>
lt (uI u11 9 11 a1) fun u12 =>
lt (uI u12 9 14 1) fun u13 =>
fX3_run_L0 FU 0 a0 0 u13
def fX11_search (a0 : Int32) (a1 : Int32) (u : St) : Option (Int32 × St) :=
if a0 < 1 then
(some ((-2), u))
else
if 20 < a0 then
(some ((-2), u))
else
if a1 < 0 then
(some ((-2), u))
else
if a1 ≤ 20000 then
(b2 (fX3_run a0 a1 u) fun r6 u5 =>
some (r6, u5))
else
some ((-2), u)
def fX3_goalSource (a0 : Int32) (u : St) : Option (Int32 × St) :=
bd (ld u 65 151 a0) fun v1 =>
if v1 = 0 then
(some (0, u))
else
bd (ld u 66 151 a0) fun v3 =>
bd (ld u 57 150 v3) fun v4 =>
some (v4, u)
def fX3_goalBase (a0 : Int32) (u : St) : Option (Int32 × St) :=
bd (ld u 65 151 a0) fun v1 =>
if v1 = 0 then
(some (0, u))
else
bd (ld u 66 151 a0) fun v3 =>
bd (ld u 58 150 v3) fun v4 =>
some (v4, u)
def fX11_show (a0 : Int32) (u : St) : Option (Int32 × St) :=
if a0 < 0 then
(some ((-1), u))
else
if a0 < (gI u 9 15) then
(bd (fX1_begin u) fun u3 =>
if a0 = 0 then
(b2 (fX3_rowOf 0 u3) fun r13 u12 =>
bd (fX1_row r13 0 u12) fun u14 =>
b2 (fX1_finish u14) fun r16 u15 =>
some (r16, u15))
else
b2 (fX3_goalSource a0 u3) fun r6 u5 =>
b2 (fX3_goalBase a0 u5) fun r8 u7 =>
bd (fX1_literal r6 r8 u7) fun u9 =>
b2 (fX1_finish u9) fun r11 u10 =>
some (r11, u10))
else
some ((-1), u)
def fX11_told (a0 : Int32) (u : St) : Option (Int32 × St) :=
if a0 = 0 then
(some (gI u 9 13, u))
else
if a0 = 1 then
(some (gI u 9 14, u))
else
if a0 = 2 then
(some (gI u 9 15, u))
else
some ((-2), u)
def fX11_write (a0 : Int32) (u : St) : Option (Int32 × St) :=
b2 (fX4_has a0 u) fun r2 u1 =>
if r2 = 0 then
(some ((-1), u1))
else
bd (fX1_begin u1) fun u4 =>
bd (fX1_row a0 210 u4) fun u5 =>
b2 (fX1_finish u5) fun r7 u6 =>
some (r7, u6)
