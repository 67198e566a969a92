def fX12_argumentsNext_L0_0 (rec : Nat → Int32 → Int32 → Int32 → Int32 → Int32 → Int32 → St → Option (St)) (x2_ : Int32) (x4_ : Int32) (x5_ : Int32) (x6_ : Int32) (x7_ : Int32) (x8_ : Int32) (u : St) : Option (St) :=
if x5_ ≤ x8_ then
(lt (uI u 100 111 ((gI u 100 111) + x5_)) fun u2 =>
some u2)
else
lt ((((gI u 100 111) + x5_) - 1) - x8_ : Int32) fun x3 =>
bd (st u 161 20100 x3 x6_) fun u4 =>
bd (st u4 162 20100 x3 x2_) fun u5 =>
bd (st u5 163 20100 x3 x7_) fun u6 =>
bd (st u6 164 20100 x3 x4_) fun u7 =>
bd (ld u7 112 20400 x6_) fun v8 =>
bd (ld u7 112 20400 x7_) fun v9 =>
lt (x8_ + 1 : Int32) fun x10 =>
rec 0 x2_ x4_ x5_ v8 v9 x10 u7
def fX12_argumentsNext_L0 : Nat → Nat → Int32 → Int32 → Int32 → Int32 → Int32 → Int32 → St → Option (St)
  | 0 => fun _ _ _ _ _ _ _ _ => none
  | n + 1 => fun q x2_ x4_ x5_ x6_ x7_ x8_ u => match q with
    | 0 => fX12_argumentsNext_L0_0  (fX12_argumentsNext_L0  n) x2_ x4_ x5_ x6_ x7_ x8_ u
    | _ => none
def fX12_argumentsNext (a0 : Int32) (a1 : Int32) (a2 : Int32) (a3 : Int32) (u : St) : Option (St) :=
bd (ld u 113 20400 a0) fun v11 =>
lt (a0 + 1 : Int32) fun x12 =>
lt (a2 + 1 : Int32) fun x13 =>
lt (0 : Int32) fun x14 =>
fX12_argumentsNext_L0 FU 0 a1 a3 v11 x12 x13 x14 u
def fX12_counted_j33 (s0_ : Int32) (u : St) : Option (Int32 × St) :=
bd (zb s0_) fun z2 =>
lt (uI u 100 98 s0_) fun u1 =>
if (gI u1 100 98) = 0 then
(some (1, u1))
else
some (0, u1)
def fX12_counted (u : St) : Option (Int32 × St) :=
lt (uI u 100 97 ((gI u 100 97) + 1)) fun u4 =>
if (gI u4 100 98) = 0 then
(if (gI u4 100 97) ≤ 4000 then
(fX12_counted_j33 0 u4)
else
fX12_counted_j33 1 u4)
else
fX12_counted_j33 1 u4
def fX12_follow_L0_0 (rec : Nat → St → Option (St)) (u : St) : Option (St) :=
bd (ld u 111 20400 (gI u 100 95)) fun v1 =>
if 0 ≤ v1 then
(some u)
else
bd (ld u 111 20400 (gI u 100 95)) fun v3 =>
bd (ld u 154 300 (((gI u 100 96) - 1) - v3)) fun v4 =>
if v4 < 0 then
(some u)
else
bd (ld u 111 20400 (gI u 100 95)) fun v6 =>
lt (((gI u 100 96) - 1) - v6 : Int32) fun x7 =>
bd (ld u 154 300 x7) fun v8 =>
lt (uI u 100 95 v8) fun u9 =>
bd (ld u9 155 300 x7) fun v10 =>
lt (uI u9 100 96 v10) fun u11 =>
rec 0 u11
def fX12_follow_L0 : Nat → Nat → St → Option (St)
  | 0 => fun _  _ => none
  | n + 1 => fun q  u => match q with
    | 0 => fX12_follow_L0_0  (fX12_follow_L0  n)  u
    | _ => none
def fX12_follow (a0 : Int32) (a1 : Int32) (u : St) : Option (St) :=
lt (uI u 100 95 a0) fun u12 =>
lt (uI u12 100 96 a1) fun u13 =>
fX12_follow_L0 FU 0 u13
def fX12_alike_L0_0 (rec : Nat → Int32 → Int32 → Int32 → Int32 → Int32 → Int32 → St → Option (Int32 × St)) (u : St) : Option (Int32 × St) :=
if (gI u 100 111) ≤ 0 then
(some (1, u))
else
lt (uI u 100 111 ((gI u 100 111) - 1)) fun u2 =>
b2 (fX12_counted u2) fun r4 u3 =>
if r4 = 0 then
(some (0, u3))
else
bd (ld u3 161 20100 (gI u3 100 111)) fun v6 =>
bd (ld u3 162 20100 (gI u3 100 111)) fun v7 =>
bd (fX12_follow v6 v7 u3) fun u8 =>
lt (gI u8 100 95 : Int32) fun x9 =>
lt (gI u8 100 96 : Int32) fun x10 =>
bd (ld u8 163 20100 (gI u8 100 111)) fun v11 =>
bd (ld u8 164 20100 (gI u8 100 111)) fun v12 =>
bd (fX12_follow v11 v12 u8) fun u13 =>
lt (gI u13 100 95 : Int32) fun x14 =>
lt (gI u13 100 96 : Int32) fun x15 =>
bd (ld u13 111 20400 x9) fun v16 =>
if v16 < 0 then
(rec 1 x9 x10 x14 x15 0 1 u13)
else
bd (ld u13 111 20400 x14) fun v18 =>
if 0 ≤ v18 then
(rec 1 x9 x10 x14 x15 0 0 u13)
else
rec 1 x9 x10 x14 x15 0 1 u13
def fX12_alike_L0_1 (rec : Nat → Int32 → Int32 → Int32 → Int32 → Int32 → Int32 → St → Option (Int32 × St)) (x5_ : Int32) (x6_ : Int32) (x7_ : Int32) (x8_ : Int32) (s0_ : Int32) (u : St) : Option (Int32 × St) :=
if s0_ = 0 then
(bd (ld u 111 20400 x5_) fun v21 =>
bd (ld u 111 20400 x7_) fun v22 =>
if v21 = v22 then
(rec 2 x5_ x6_ x7_ x8_ s0_ 1 u)
else
rec 2 x5_ x6_ x7_ x8_ s0_ 0 u)
else
bd (ld u 111 20400 x5_) fun v24 =>
if 0 ≤ v24 then
(rec 2 x5_ x6_ x7_ x8_ s0_ 0 u)
else
bd (ld u 111 20400 x7_) fun v26 =>
if 0 ≤ v26 then
(rec 2 x5_ x6_ x7_ x8_ s0_ 0 u)
else
bd (ld u 111 20400 x5_) fun v28 =>
bd (ld u 111 20400 x7_) fun v29 =>
if ((x6_ - 1) - v28) = ((x8_ - 1) - v29) then
(rec 2 x5_ x6_ x7_ x8_ s0_ 1 u)
else
rec 2 x5_ x6_ x7_ x8_ s0_ 0 u
def fX12_alike_L0_2 (rec : Nat → Int32 → Int32 → Int32 → Int32 → Int32 → Int32 → St → Option (Int32 × St)) (x5_ : Int32) (x6_ : Int32) (x7_ : Int32) (x8_ : Int32) (x9_ : Int32) (s0_ : Int32) (u : St) : Option (Int32 × St) :=
if s0_ = 0 then
(some (0, u))
else
if x9_ = 0 then
(bd (fX12_argumentsNext x5_ x6_ x7_ x8_ u) fun u33 =>
rec 0 0 0 0 0 0 0 u33)
else
rec 0 0 0 0 0 0 0 u
def fX12_alike_L0 : Nat → Nat → Int32 → Int32 → Int32 → Int32 → Int32 → Int32 → St → Option (Int32 × St)
  | 0 => fun _ _ _ _ _ _ _ _ => none
  | n + 1 => fun q x5_ x6_ x7_ x8_ x9_ s0_ u => match q with
    | 0 => fX12_alike_L0_0  (fX12_alike_L0  n)  u
    | 1 => fX12_alike_L0_1  (fX12_alike_L0  n) x5_ x6_ x7_ x8_ s0_ u
    | 2 => fX12_alike_L0_2  (fX12_alike_L0  n) x5_ x6_ x7_ x8_ x9_ s0_ u
    | _ => none
def fX12_alike (a0 : Int32) (a1 : Int32) (a2 : Int32) (a3 : Int32) (u : St) : Option (Int32 × St) :=
lt (uI u 100 111 0) fun u34 =>
bd (fX12_argumentsNext a0 a1 a2 a3 u34) fun u35 =>
fX12_alike_L0 FU 0 0 0 0 0 0 0 u35
def fX12_append_j33 (u : St) : Option (St) :=
lt (uI u 100 47 1) fun u1 =>
some u1
def fX12_append (a0 : Int32) (u : St) : Option (St) :=
if (gI u 100 47) = 0 then
(if (gI u 100 69) = 6000 then
(fX12_append_j33 u)
else
bd (ld u 139 700 ((gI u 100 66) - 1)) fun v4 =>
if v4 = 12 then
(fX12_append_j33 u)
else
bd (st u 140 7000 (gI u 100 69) a0) fun u6 =>
lt (uI u6 100 69 ((gI u6 100 69) + 1)) fun u7 =>
bd (ld u7 139 700 ((gI u7 100 66) - 1)) fun v8 =>
bd (st u7 139 700 ((gI u7 100 66) - 1) (v8 + 1)) fun u9 =>
some u9)
else
fX12_append_j33 u
def fX12_appendAll_L0_0 (rec : Nat → Int32 → Int32 → St → Option (St)) (x1_ : Int32) (x2_ : Int32) (u : St) : Option (St) :=
if (gI u 100 47) = 0 then
(bd (ld u 139 700 x1_) fun v2 =>
if v2 ≤ x2_ then
(some u)
else
bd (ld u 138 700 x1_) fun v4 =>
bd (ld u 140 7000 (v4 + x2_)) fun v5 =>
bd (fX12_append v5 u) fun u6 =>
lt (x2_ + 1 : Int32) fun x7 =>
rec 0 x1_ x7 u6)
else
some u
def fX12_appendAll_L0 : Nat → Nat → Int32 → Int32 → St → Option (St)
  | 0 => fun _ _ _ _ => none
  | n + 1 => fun q x1_ x2_ u => match q with
    | 0 => fX12_appendAll_L0_0  (fX12_appendAll_L0  n) x1_ x2_ u
    | _ => none
def fX12_appendAll (a0 : Int32) (u : St) : Option (St) :=
lt (0 : Int32) fun x8 =>
fX12_appendAll_L0 FU 0 a0 x8 u
def fX12_arityOf (a0 : Int32) (u : St) : Option (Int32 × St) :=
if 0 ≤ a0 then
(if a0 < 1000 then
(bd (ld u 103 820 a0) fun v3 =>
some (v3, u))
else
bd (ld u 105 3100 ((a0 - 1000) - (gI u 100 8))) fun v4 =>
some (v4, u))
else
some (0, u)
def fX12_push (a0 : Int32) (a1 : Int32) (u : St) : Option (St) :=
bd (st u 120 6000 (gI u 100 38) a0) fun u1 =>
bd (st u1 121 6000 (gI u1 100 38) a1) fun u2 =>
lt (uI u2 100 38 ((gI u2 100 38) + 1)) fun u3 =>
some u3
def fX12_bare (a0 : Int32) (a1 : Int32) (u : St) : Option (St) :=
if a1 = 0 then
(bd (fX12_push 20 a0 u) fun u2 =>
some u2)
else
bd (fX12_push 21 a0 u) fun u3 =>
some u3
def fX12_freeOf_L0_0 (rec : Nat → Int32 → Int32 → Int32 → Int32 → St → Option (St)) (x1_ : Int32) (x2_ : Int32) (u : St) : Option (St) :=
bd (ld u 116 1600 x1_) fun v1 =>
if v1 ≤ x2_ then
(some u)
else
bd (ld u 118 1600 x2_) fun v3 =>
if v3 < 0 then
(lt (0 : Int32) fun x5 =>
lt (0 : Int32) fun x6 =>
rec 1 x1_ x2_ x5 x6 u)
else
lt (x2_ + 1 : Int32) fun x7 =>
rec 0 x1_ x7 0 0 u
def fX12_freeOf_L0_1 (rec : Nat → Int32 → Int32 → Int32 → Int32 → St → Option (St)) (x1_ : Int32) (x2_ : Int32) (x3_ : Int32) (x4_ : Int32) (u : St) : Option (St) :=
if (gI u 100 49) ≤ x4_ then
(lt (0 : Int32) fun x9 =>
rec 2 x1_ x2_ x3_ x9 u)
else
if x3_ = 0 then
(bd (ld u 126 700 x4_) fun v13 =>
bd (ld u 118 1600 x2_) fun v14 =>
if v13 = ((-1) - v14) then
(lt (1 : Int32) fun x18 =>
lt (x4_ + 1 : Int32) fun x19 =>
rec 1 x1_ x2_ x18 x19 u)
else
lt (0 : Int32) fun x16 =>
lt (x4_ + 1 : Int32) fun x17 =>
rec 1 x1_ x2_ x16 x17 u)
else
lt (1 : Int32) fun x11 =>
lt (x4_ + 1 : Int32) fun x12 =>
rec 1 x1_ x2_ x11 x12 u
def fX12_freeOf_L0_2 (rec : Nat → Int32 → Int32 → Int32 → Int32 → St → Option (St)) (x1_ : Int32) (x2_ : Int32) (x3_ : Int32) (x4_ : Int32) (u : St) : Option (St) :=
if (gI u 100 73) ≤ x4_ then
(if x3_ = 0 then
(bd (ld u 118 1600 x2_) fun v23 =>
bd (st u 143 300 (gI u 100 73) ((-1) - v23)) fun u24 =>
lt (uI u24 100 73 ((gI u24 100 73) + 1)) fun u25 =>
lt (x2_ + 1 : Int32) fun x26 =>
rec 0 x1_ x26 0 0 u25)
else
lt (x2_ + 1 : Int32) fun x22 =>
rec 0 x1_ x22 0 0 u)
else
if x3_ = 0 then
(bd (ld u 143 300 x4_) fun v30 =>
bd (ld u 118 1600 x2_) fun v31 =>
if v30 = ((-1) - v31) then
(lt (1 : Int32) fun x35 =>
lt (x4_ + 1 : Int32) fun x36 =>
rec 2 x1_ x2_ x35 x36 u)
else
lt (0 : Int32) fun x33 =>
lt (x4_ + 1 : Int32) fun x34 =>
rec 2 x1_ x2_ x33 x34 u)
else
lt (1 : Int32) fun x28 =>
lt (x4_ + 1 : Int32) fun x29 =>
rec 2 x1_ x2_ x28 x29 u
def fX12_freeOf_L0 : Nat → Nat → Int32 → Int32 → Int32 → Int32 → St → Option (St)
  | 0 => fun _ _ _ _ _ _ => none
  | n + 1 => fun q x1_ x2_ x3_ x4_ u => match q with
    | 0 => fX12_freeOf_L0_0  (fX12_freeOf_L0  n) x1_ x2_ u
    | 1 => fX12_freeOf_L0_1  (fX12_freeOf_L0  n) x1_ x2_ x3_ x4_ u
    | 2 => fX12_freeOf_L0_2  (fX12_freeOf_L0  n) x1_ x2_ x3_ x4_ u
    | _ => none
def fX12_freeOf (a0 : Int32) (u : St) : Option (St) :=
bd (ld u 115 1600 a0) fun v37 =>
fX12_freeOf_L0 FU 0 a0 v37 0 0 u
def fX12_variableOf_L0_0 (rec : Nat → Int64 → Int32 → St → Option (Int32 × St)) (x1_ : Int64) (x3_ : Int32) (u : St) : Option (Int32 × St) :=
if (gI u 100 35) ≤ x3_ then
(bd (stJ u 119 1600 (gI u 100 35) x1_) fun u2 =>
lt (uI u2 100 35 ((gI u2 100 35) + 1)) fun u3 =>
some ((gI u3 100 35) - 1, u3))
else
bd (ldJ u 119 1600 x3_) fun v4 =>
if (lg_cmp v4 x1_) = 0 then
(some (x3_, u))
else
lt (x3_ + 1 : Int32) fun x6 =>
rec 0 x1_ x6 u
def fX12_variableOf_L0 : Nat → Nat → Int64 → Int32 → St → Option (Int32 × St)
  | 0 => fun _ _ _ _ => none
  | n + 1 => fun q x1_ x3_ u => match q with
    | 0 => fX12_variableOf_L0_0  (fX12_variableOf_L0  n) x1_ x3_ u
    | _ => none
def fX12_variableOf (a0 : Int64) (u : St) : Option (Int32 × St) :=
lt (0 : Int32) fun x7 =>
fX12_variableOf_L0 FU 0 a0 x7 u
def fX12_bind (a0 : Int32) (a1 : Int32) (u : St) : Option (St) :=
bd (st u 126 700 (gI u 100 49) a0) fun u1 =>
bd (st u1 127 700 (gI u1 100 49) a1) fun u2 =>
lt (uI u2 100 49 ((gI u2 100 49) + 1)) fun u3 =>
some u3
def fX12_free_L0_0 (rec : Nat → Int32 → St → Option (St)) (u : St) : Option (St) :=
if (gI u 100 38) ≤ 0 then
(some u)
else
lt (uI u 100 38 ((gI u 100 38) - 1)) fun u2 =>
bd (ld u2 121 6000 (gI u2 100 38)) fun v3 =>
bd (ld u2 120 6000 (gI u2 100 38)) fun v4 =>
if v4 = 24 then
(lt (uI u2 100 49 ((gI u2 100 49) - 1)) fun u17 =>
rec 0 0 u17)
else
bd (ld u2 114 1600 v3) fun v6 =>
if v6 = 15 then
(bd (fX12_freeOf v3 u2) fun u16 =>
rec 0 0 u16)
else
bd (ld u2 114 1600 v3) fun v8 =>
if v8 = 11 then
(rec 1 v3 u2)
else
bd (ld u2 114 1600 v3) fun v10 =>
if v10 = 12 then
(rec 1 v3 u2)
else
bd (ld u2 114 1600 v3) fun v12 =>
if v12 = 8 then
(rec 2 v3 u2)
else
bd (ld u2 116 1600 v3) fun v14 =>
bd (fX12_push 20 v14 u2) fun u15 =>
rec 2 v3 u15
def fX12_free_L0_1 (rec : Nat → Int32 → St → Option (St)) (x2_ : Int32) (u : St) : Option (St) :=
bd (ldJ u 117 1600 x2_) fun v18 =>
b2 (fX12_variableOf v18 u) fun r20 u19 =>
bd (fX12_bind r20 0 u19) fun u21 =>
bd (fX12_push 24 0 u21) fun u22 =>
bd (ld u22 115 1600 x2_) fun v23 =>
bd (fX12_push 20 v23 u22) fun u24 =>
rec 0 0 u24
def fX12_free_L0_2 (rec : Nat → Int32 → St → Option (St)) (x2_ : Int32) (u : St) : Option (St) :=
bd (ld u 115 1600 x2_) fun v25 =>
bd (fX12_push 20 v25 u) fun u26 =>
rec 0 0 u26
def fX12_free_L0 : Nat → Nat → Int32 → St → Option (St)
  | 0 => fun _ _ _ => none
  | n + 1 => fun q x2_ u => match q with
    | 0 => fX12_free_L0_0  (fX12_free_L0  n)  u
    | 1 => fX12_free_L0_1  (fX12_free_L0  n) x2_ u
    | 2 => fX12_free_L0_2  (fX12_free_L0  n) x2_ u
    | _ => none
def fX12_free (a0 : Int32) (u : St) : Option (St) :=
lt (uI u 100 38 0) fun u27 =>
bd (fX12_push 20 a0 u27) fun u28 =>
fX12_free_L0 FU 0 0 u28
def fX12_join (a0 : Int32) (u : St) : Option (St) :=
if a0 = 0 then
(bd (fX12_push 23 0 u) fun u2 =>
some u2)
else
bd (fX12_push 22 0 u) fun u3 =>
some u3
def fX12_quantified_j215 (x1_ : Int32) (x3_ : Int32) (s0_ : Int32) (u : St) : Option (St) :=
bd (fX12_push s0_ 0 u) fun u1 =>
if x3_ = 0 then
(bd (ld u1 115 1600 x1_) fun v3 =>
bd (fX12_push 20 v3 u1) fun u4 =>
some u4)
else
bd (ld u1 115 1600 x1_) fun v5 =>
bd (fX12_push 21 v5 u1) fun u6 =>
some u6
def fX12_quantified_j203 (x1_ : Int32) (x2_ : Int32) (x3_ : Int32) (u : St) : Option (St) :=
if x2_ = 0 then
(fX12_quantified_j215 x1_ x3_ 25 u)
else
fX12_quantified_j215 x1_ x3_ 24 u
def fX12_quantified_L0_0 (rec : Nat → Int32 → Int32 → Int32 → Int32 → Int32 → St → Option (St)) (x1_ : Int32) (x2_ : Int32) (x3_ : Int32) (x4_ : Int32) (x5_ : Int32) (u : St) : Option (St) :=
if (gI u 100 55) ≤ x5_ then
(bd (st u 105 3100 ((gI u 100 7) - (gI u 100 8)) (gI u 100 55)) fun u9 =>
lt (uI u9 100 7 ((gI u9 100 7) + 1)) fun u10 =>
bd (fX12_bind x4_ (-(gI u10 100 7)) u10) fun u11 =>
fX12_quantified_j203 x1_ x2_ x3_ u11)
else
bd (ld u 129 700 x5_) fun v12 =>
bd (st u 135 15500 ((5 * ((gI u 100 7) - (gI u 100 8))) + x5_) v12) fun u13 =>
lt (x5_ + 1 : Int32) fun x14 =>
rec 0 x1_ x2_ x3_ x4_ x14 u13
def fX12_quantified_L0 : Nat → Nat → Int32 → Int32 → Int32 → Int32 → Int32 → St → Option (St)
  | 0 => fun _ _ _ _ _ _ _ => none
  | n + 1 => fun q x1_ x2_ x3_ x4_ x5_ u => match q with
    | 0 => fX12_quantified_L0_0  (fX12_quantified_L0  n) x1_ x2_ x3_ x4_ x5_ u
    | _ => none
def fX12_quantified_j33 (x1_ : Int32) (x2_ : Int32) (x3_ : Int32) (s0_ : Int32) (u : St) : Option (St) :=
bd (zb s0_) fun z16 =>
lt (uI u 100 47 s0_) fun u15 =>
bd (ldJ u15 117 1600 x1_) fun v17 =>
b2 (fX12_variableOf v17 u15) fun r19 u18 =>
if (gI u18 100 47) = 0 then
(if x2_ = 0 then
(if (gI u18 100 55) ≤ 5 then
(lt (0 : Int32) fun x23 =>
fX12_quantified_L0 FU 0 x1_ x2_ x3_ r19 x23 u18)
else
lt (uI u18 100 47 1) fun u24 =>
some u24)
else
bd (fX12_bind r19 (gI u18 100 53) u18) fun u25 =>
bd (st u25 129 700 (gI u25 100 55) (gI u25 100 53)) fun u26 =>
lt (uI u26 100 53 ((gI u26 100 53) + 1)) fun u27 =>
lt (uI u27 100 55 ((gI u27 100 55) + 1)) fun u28 =>
fX12_quantified_j203 x1_ x2_ x3_ u28)
else
some u18
def fX12_quantified (a0 : Int32) (a1 : Int32) (a2 : Int32) (u : St) : Option (St) :=
lt (uI u 100 48 ((gI u 100 48) + 1)) fun u29 =>
if (gI u29 100 47) = 0 then
(if (gI u29 100 48) ≤ 3000 then
(fX12_quantified_j33 a0 a1 a2 0 u29)
else
fX12_quantified_j33 a0 a1 a2 1 u29)
else
fX12_quantified_j33 a0 a1 a2 1 u29
def fX12_symbol (a0 : Int32) (u : St) : Option (St) :=
if 24000 ≤ (gI u 100 61) then
(lt (uI u 100 47 1) fun u2 =>
some u2)
else
bd (st u 134 24000 (gI u 100 61) a0) fun u3 =>
lt (uI u3 100 61 ((gI u3 100 61) + 1)) fun u4 =>
some u4
def fX12_tree (a0 : Int32) (a1 : Int32) (a2 : Int32) (a3 : Int32) (u : St) : Option (Int32 × St) :=
if (gI u 100 56) = 6100 then
(lt (uI u 100 47 1) fun u9 =>
some (0, u9))
else
lt (gI u 100 56 : Int32) fun x2 =>
lt (uI u 100 56 ((gI u 100 56) + 1)) fun u3 =>
bd (st u3 130 6100 x2 a0) fun u4 =>
bd (st u4 131 6100 x2 a1) fun u5 =>
bd (st u5 132 6100 x2 a2) fun u6 =>
bd (zb a3) fun z8 =>
bd (st u6 133 6100 x2 a3) fun u7 =>
some (x2, u7)
def fX12_literal_j232 (x2_ : Int32) (x3_ : Int32) (u : St) : Option (Int32 × St) :=
b2 (fX12_tree 15 x3_ (gI u 100 61) x2_ u) fun r2 u1 =>
some (r2, u1)
def fX12_literal_L0_0 (rec : Nat → Int32 → Int32 → Int32 → Int32 → Int32 → Int32 → Int32 → St → Option (Int32 × St)) (x1_ : Int32) (x2_ : Int32) (x3_ : Int32) (x4_ : Int32) (u : St) : Option (Int32 × St) :=
bd (ld u 116 1600 x1_) fun v3 =>
if v3 ≤ x4_ then
(fX12_literal_j232 x2_ x3_ u)
else
if (gI u 100 47) = 0 then
(bd (ld u 118 1600 x4_) fun v6 =>
if v6 < 0 then
(lt ((gI u 100 49) - 1 : Int32) fun x8 =>
rec 1 x1_ x2_ x3_ x4_ x8 0 0 u)
else
bd (ld u 118 1600 x4_) fun v9 =>
bd (fX12_symbol v9 u) fun u10 =>
lt (x4_ + 1 : Int32) fun x11 =>
rec 0 x1_ x2_ x3_ x11 0 0 0 u10)
else
fX12_literal_j232 x2_ x3_ u
def fX12_literal_L0_1 (rec : Nat → Int32 → Int32 → Int32 → Int32 → Int32 → Int32 → Int32 → St → Option (Int32 × St)) (x1_ : Int32) (x2_ : Int32) (x3_ : Int32) (x4_ : Int32) (x5_ : Int32) (u : St) : Option (Int32 × St) :=
bd (ld u 126 700 x5_) fun v12 =>
bd (ld u 118 1600 x4_) fun v13 =>
if v12 = ((-1) - v13) then
(bd (ld u 127 700 x5_) fun v15 =>
if v15 < 0 then
(lt ((-1) - v15 : Int32) fun x17 =>
bd (fX12_symbol (1000 + x17) u) fun u18 =>
lt (0 : Int32) fun x19 =>
rec 2 x1_ x2_ x3_ x4_ 0 x17 x19 u18)
else
bd (fX12_symbol ((-1) - v15) u) fun u20 =>
lt (x4_ + 1 : Int32) fun x21 =>
rec 0 x1_ x2_ x3_ x21 0 0 0 u20)
else
lt (x5_ + (-1) : Int32) fun x22 =>
rec 1 x1_ x2_ x3_ x4_ x22 0 0 u
def fX12_literal_L0_2 (rec : Nat → Int32 → Int32 → Int32 → Int32 → Int32 → Int32 → Int32 → St → Option (Int32 × St)) (x1_ : Int32) (x2_ : Int32) (x3_ : Int32) (x4_ : Int32) (x7_ : Int32) (x8_ : Int32) (u : St) : Option (Int32 × St) :=
bd (ld u 105 3100 (x7_ - (gI u 100 8))) fun v23 =>
if v23 ≤ x8_ then
(lt (x4_ + 1 : Int32) fun x25 =>
rec 0 x1_ x2_ x3_ x25 0 0 0 u)
else
bd (ld u 135 15500 ((5 * (x7_ - (gI u 100 8))) + x8_)) fun v26 =>
bd (fX12_symbol ((-1) - v26) u) fun u27 =>
lt (x8_ + 1 : Int32) fun x28 =>
rec 2 x1_ x2_ x3_ x4_ 0 x7_ x28 u27
def fX12_literal_L0 : Nat → Nat → Int32 → Int32 → Int32 → Int32 → Int32 → Int32 → Int32 → St → Option (Int32 × St)
  | 0 => fun _ _ _ _ _ _ _ _ _ => none
  | n + 1 => fun q x1_ x2_ x3_ x4_ x5_ x7_ x8_ u => match q with
    | 0 => fX12_literal_L0_0  (fX12_literal_L0  n) x1_ x2_ x3_ x4_ u
    | 1 => fX12_literal_L0_1  (fX12_literal_L0  n) x1_ x2_ x3_ x4_ x5_ u
    | 2 => fX12_literal_L0_2  (fX12_literal_L0  n) x1_ x2_ x3_ x4_ x7_ x8_ u
    | _ => none
def fX12_literal_j50 (x1_ : Int32) (x2_ : Int32) (x3_ : Int32) (s0_ : Int32) (u : St) : Option (Int32 × St) :=
bd (zb s0_) fun z30 =>
lt (uI u 100 47 s0_) fun u29 =>
bd (ld u29 115 1600 x1_) fun v31 =>
fX12_literal_L0 FU 0 x1_ x2_ x3_ v31 0 0 0 u29
def fX12_literal (a0 : Int32) (a1 : Int32) (u : St) : Option (Int32 × St) :=
lt (gI u 100 61 : Int32) fun x32 =>
bd (ld u 116 1600 a0) fun v33 =>
bd (ld u 115 1600 a0) fun v34 =>
lt (uI u 100 48 ((gI u 100 48) + (v33 - v34))) fun u35 =>
if (gI u35 100 47) = 0 then
(if (gI u35 100 48) ≤ 3000 then
(fX12_literal_j50 a0 a1 x32 0 u35)
else
fX12_literal_j50 a0 a1 x32 1 u35)
else
fX12_literal_j50 a0 a1 x32 1 u35
def fX12_give (a0 : Int32) (u : St) : Option (St) :=
bd (st u 122 3000 (gI u 100 41) a0) fun u1 =>
lt (uI u1 100 41 ((gI u1 100 41) + 1)) fun u2 =>
some u2
def fX12_goInside_j107 (x2_ : Int32) (x3_ : Int32) (x4_ : Int32) (s0_ : Int32) (u : St) : Option (St) :=
bd (fX12_join s0_ u) fun u1 =>
bd (fX12_bare x4_ x2_ u1) fun u2 =>
bd (fX12_bare x3_ x2_ u2) fun u3 =>
some u3
def fX12_goInside_j98 (x2_ : Int32) (x3_ : Int32) (x4_ : Int32) (s0_ : Int32) (u : St) : Option (St) :=
if s0_ = x2_ then
(fX12_goInside_j107 x2_ x3_ x4_ 0 u)
else
fX12_goInside_j107 x2_ x3_ x4_ 1 u
def fX12_goInside_j191 (x2_ : Int32) (x3_ : Int32) (x4_ : Int32) (s0_ : Int32) (s1_ : Int32) (u : St) : Option (St) :=
bd (fX12_bare s0_ s1_ u) fun u5 =>
bd (fX12_join x2_ u5) fun u6 =>
bd (fX12_bare x4_ x2_ u6) fun u7 =>
if x2_ = 0 then
(bd (fX12_bare x3_ 1 u7) fun u10 =>
some u10)
else
bd (fX12_bare x3_ 0 u7) fun u9 =>
some u9
def fX12_goInside_j165 (x2_ : Int32) (x3_ : Int32) (x4_ : Int32) (s0_ : Int32) (u : St) : Option (St) :=
bd (fX12_join s0_ u) fun u11 =>
bd (fX12_join x2_ u11) fun u12 =>
bd (fX12_bare x3_ x2_ u12) fun u13 =>
if x2_ = 0 then
(fX12_goInside_j191 x2_ x3_ x4_ x4_ 1 u13)
else
fX12_goInside_j191 x2_ x3_ x4_ x4_ 0 u13
def fX12_goInside (a0 : Int32) (a1 : Int32) (u : St) : Option (St) :=
bd (ld u 115 1600 a0) fun v15 =>
bd (ld u 116 1600 a0) fun v16 =>
bd (ld u 114 1600 a0) fun v17 =>
if v17 = 8 then
(if a1 = 0 then
(bd (fX12_bare v15 1 u) fun u21 =>
some u21)
else
bd (fX12_bare v15 0 u) fun u20 =>
some u20)
else
if v17 = 9 then
(bd (ld u 114 1600 a0) fun v23 =>
if v23 = 9 then
(fX12_goInside_j98 a1 v15 v16 1 u)
else
fX12_goInside_j98 a1 v15 v16 0 u)
else
if v17 = 10 then
(bd (ld u 114 1600 a0) fun v26 =>
if v26 = 9 then
(fX12_goInside_j98 a1 v15 v16 1 u)
else
fX12_goInside_j98 a1 v15 v16 0 u)
else
if v17 = 11 then
(if a1 = 0 then
(bd (fX12_quantified a0 1 a1 u) fun u31 =>
some u31)
else
bd (fX12_quantified a0 0 a1 u) fun u30 =>
some u30)
else
if v17 = 12 then
(bd (fX12_quantified a0 a1 a1 u) fun u33 =>
some u33)
else
if v17 = 13 then
(bd (fX12_join a1 u) fun u35 =>
bd (fX12_bare v16 a1 u35) fun u36 =>
if a1 = 0 then
(bd (fX12_bare v15 1 u36) fun u39 =>
some u39)
else
bd (fX12_bare v15 0 u36) fun u38 =>
some u38)
else
if v17 = 14 then
(if a1 = 0 then
(fX12_goInside_j165 a1 v15 v16 1 u)
else
fX12_goInside_j165 a1 v15 v16 0 u)
else
b2 (fX12_literal a0 a1 u) fun r43 u42 =>
bd (fX12_give r43 u42) fun u44 =>
some u44
def fX12_got (u : St) : Option (Int32 × St) :=
lt (uI u 100 41 ((gI u 100 41) - 1)) fun u1 =>
bd (ld u1 122 3000 (gI u1 100 41)) fun v2 =>
some (v2, u1)
def fX12_inside_j174 (u : St) : Option (Int32 × St) :=
if (gI u 100 47) = 0 then
(b2 (fX12_got u) fun r3 u2 =>
some (r3, u2))
else
some (0, u)
def fX12_inside_L0_0 (rec : Nat → Int32 → Int32 → Int32 → Int32 → St → Option (Int32 × St)) (u : St) : Option (Int32 × St) :=
if (gI u 100 38) ≤ 0 then
(fX12_inside_j174 u)
else
if (gI u 100 47) = 0 then
(lt (uI u 100 38 ((gI u 100 38) - 1)) fun u6 =>
bd (ld u6 120 6000 (gI u6 100 38)) fun v7 =>
if v7 = 20 then
(rec 1 v7 0 0 0 u6)
else
if v7 = 21 then
(rec 1 v7 0 0 0 u6)
else
if v7 = 22 then
(rec 2 v7 0 0 0 u6)
else
if v7 = 23 then
(rec 2 v7 0 0 0 u6)
else
lt (uI u6 100 49 ((gI u6 100 49) - 1)) fun u12 =>
if v7 = 24 then
(lt (uI u12 100 55 ((gI u12 100 55) - 1)) fun u15 =>
rec 0 0 0 0 0 u15)
else
lt (uI u12 100 55 ((gI u12 100 55) - 0)) fun u14 =>
rec 0 0 0 0 0 u14)
else
fX12_inside_j174 u
def fX12_inside_L0_1 (rec : Nat → Int32 → Int32 → Int32 → Int32 → St → Option (Int32 × St)) (x2_ : Int32) (u : St) : Option (Int32 × St) :=
bd (ld u 121 6000 (gI u 100 38)) fun v16 =>
if x2_ = 21 then
(bd (fX12_goInside v16 1 u) fun u19 =>
rec 0 0 0 0 0 u19)
else
bd (fX12_goInside v16 0 u) fun u18 =>
rec 0 0 0 0 0 u18
def fX12_inside_L0_2 (rec : Nat → Int32 → Int32 → Int32 → Int32 → St → Option (Int32 × St)) (x2_ : Int32) (u : St) : Option (Int32 × St) :=
b2 (fX12_got u) fun r21 u20 =>
b2 (fX12_got u20) fun r23 u22 =>
if x2_ = 22 then
(rec 3 0 r21 r23 9 u22)
else
rec 3 0 r21 r23 10 u22
def fX12_inside_L0_3 (rec : Nat → Int32 → Int32 → Int32 → Int32 → St → Option (Int32 × St)) (x3_ : Int32) (x4_ : Int32) (s0_ : Int32) (u : St) : Option (Int32 × St) :=
b2 (fX12_tree s0_ x4_ x3_ 0 u) fun r26 u25 =>
bd (fX12_give r26 u25) fun u27 =>
rec 0 0 0 0 0 u27
def fX12_inside_L0 : Nat → Nat → Int32 → Int32 → Int32 → Int32 → St → Option (Int32 × St)
  | 0 => fun _ _ _ _ _ _ => none
  | n + 1 => fun q x2_ x3_ x4_ s0_ u => match q with
    | 0 => fX12_inside_L0_0  (fX12_inside_L0  n)  u
    | 1 => fX12_inside_L0_1  (fX12_inside_L0  n) x2_ u
    | 2 => fX12_inside_L0_2  (fX12_inside_L0  n) x2_ u
    | 3 => fX12_inside_L0_3  (fX12_inside_L0  n) x3_ x4_ s0_ u
    | _ => none
def fX12_inside (a0 : Int32) (u : St) : Option (Int32 × St) :=
lt (uI u 100 38 0) fun u28 =>
lt (uI u28 100 41 0) fun u29 =>
bd (fX12_push 20 a0 u29) fun u30 =>
fX12_inside_L0 FU 0 0 0 0 0 u30
def fX12_newWay (u : St) : Option (St) :=
if (gI u 100 66) = 600 then
(lt (uI u 100 47 1) fun u5 =>
some u5)
else
bd (st u 138 700 (gI u 100 66) (gI u 100 69)) fun u2 =>
bd (st u2 139 700 (gI u2 100 66) 0) fun u3 =>
lt (uI u3 100 66 ((gI u3 100 66) + 1)) fun u4 =>
some u4
def fX12_distributeOne_L0_0 (rec : Nat → Int32 → Int32 → Int32 → Int32 → St → Option (St)) (x2_ : Int32) (x3_ : Int32) (x4_ : Int32) (u : St) : Option (St) :=
bd (ld u 137 6100 x2_) fun v1 =>
if v1 ≤ x4_ then
(some u)
else
if (gI u 100 47) = 0 then
(lt (0 : Int32) fun x4 =>
rec 1 x2_ x3_ x4_ x4 u)
else
some u
def fX12_distributeOne_L0_1 (rec : Nat → Int32 → Int32 → Int32 → Int32 → St → Option (St)) (x2_ : Int32) (x3_ : Int32) (x4_ : Int32) (x5_ : Int32) (u : St) : Option (St) :=
bd (ld u 137 6100 x3_) fun v5 =>
if v5 ≤ x5_ then
(lt (x4_ + 1 : Int32) fun x7 =>
rec 0 x2_ x3_ x7 0 u)
else
if (gI u 100 47) = 0 then
(bd (fX12_newWay u) fun u10 =>
bd (ld u10 136 6100 x2_) fun v11 =>
bd (fX12_appendAll (v11 + x4_) u10) fun u12 =>
bd (ld u12 136 6100 x3_) fun v13 =>
bd (fX12_appendAll (v13 + x5_) u12) fun u14 =>
lt (x5_ + 1 : Int32) fun x15 =>
rec 1 x2_ x3_ x4_ x15 u14)
else
lt (x4_ + 1 : Int32) fun x9 =>
rec 0 x2_ x3_ x9 0 u
def fX12_distributeOne_L0 : Nat → Nat → Int32 → Int32 → Int32 → Int32 → St → Option (St)
  | 0 => fun _ _ _ _ _ _ => none
  | n + 1 => fun q x2_ x3_ x4_ x5_ u => match q with
    | 0 => fX12_distributeOne_L0_0  (fX12_distributeOne_L0  n) x2_ x3_ x4_ u
    | 1 => fX12_distributeOne_L0_1  (fX12_distributeOne_L0  n) x2_ x3_ x4_ x5_ u
    | _ => none
def fX12_distributeOne_L1_0 (rec : Nat → Int32 → Int32 → Int32 → St → Option (St)) (x2_ : Int32) (x3_ : Int32) (x4_ : Int32) (u : St) : Option (St) :=
bd (ld u 137 6100 x2_) fun v16 =>
bd (ld u 137 6100 x3_) fun v17 =>
if (v16 + v17) ≤ x4_ then
(some u)
else
if (gI u 100 47) = 0 then
(bd (fX12_newWay u) fun u20 =>
bd (ld u20 137 6100 x2_) fun v21 =>
if v21 ≤ x4_ then
(bd (ld u20 136 6100 x3_) fun v23 =>
bd (ld u20 137 6100 x2_) fun v24 =>
bd (fX12_appendAll ((v23 + x4_) - v24) u20) fun u25 =>
lt (x4_ + 1 : Int32) fun x26 =>
rec 0 x2_ x3_ x26 u25)
else
bd (ld u20 136 6100 x2_) fun v27 =>
bd (fX12_appendAll (v27 + x4_) u20) fun u28 =>
lt (x4_ + 1 : Int32) fun x29 =>
rec 0 x2_ x3_ x29 u28)
else
some u
def fX12_distributeOne_L1 : Nat → Nat → Int32 → Int32 → Int32 → St → Option (St)
  | 0 => fun _ _ _ _ _ => none
  | n + 1 => fun q x2_ x3_ x4_ u => match q with
    | 0 => fX12_distributeOne_L1_0  (fX12_distributeOne_L1  n) x2_ x3_ x4_ u
    | _ => none
def fX12_distributeOne (a0 : Int32) (a1 : Int32) (a2 : Int32) (u : St) : Option (St) :=
bd (ld u 130 6100 a0) fun v30 =>
if v30 = 9 then
(lt (0 : Int32) fun x33 =>
fX12_distributeOne_L1 FU 0 a1 a2 x33 u)
else
lt (0 : Int32) fun x32 =>
fX12_distributeOne_L0 FU 0 a1 a2 x32 0 u
def fX12_distribute_L0_0 (rec : Nat → Int32 → St → Option (St)) (x1_ : Int32) (u : St) : Option (St) :=
if (gI u 100 56) ≤ x1_ then
(some u)
else
if (gI u 100 47) = 0 then
(bd (st u 136 6100 x1_ (gI u 100 66)) fun u3 =>
bd (ld u3 130 6100 x1_) fun v4 =>
if v4 = 15 then
(bd (fX12_newWay u3) fun u9 =>
bd (fX12_append x1_ u9) fun u10 =>
rec 1 x1_ u10)
else
bd (ld u3 131 6100 x1_) fun v6 =>
bd (ld u3 132 6100 x1_) fun v7 =>
bd (fX12_distributeOne x1_ v6 v7 u3) fun u8 =>
rec 1 x1_ u8)
else
some u
def fX12_distribute_L0_1 (rec : Nat → Int32 → St → Option (St)) (x1_ : Int32) (u : St) : Option (St) :=
bd (ld u 136 6100 x1_) fun v11 =>
bd (st u 137 6100 x1_ ((gI u 100 66) - v11)) fun u12 =>
lt (x1_ + 1 : Int32) fun x13 =>
rec 0 x13 u12
def fX12_distribute_L0 : Nat → Nat → Int32 → St → Option (St)
  | 0 => fun _ _ _ => none
  | n + 1 => fun q x1_ u => match q with
    | 0 => fX12_distribute_L0_0  (fX12_distribute_L0  n) x1_ u
    | 1 => fX12_distribute_L0_1  (fX12_distribute_L0  n) x1_ u
    | _ => none
def fX12_distribute (u : St) : Option (St) :=
lt (0 : Int32) fun x14 =>
fX12_distribute_L0 FU 0 x14 u
def fX12_isAtom_L0_0 (rec : Nat → Int32 → Int32 → Int32 → Int32 → St → Option (Int32 × St)) (x1_ : Int32) (x2_ : Int32) (x3_ : Int32) (x4_ : Int32) (u : St) : Option (Int32 × St) :=
bd (ld u 132 6100 x1_) fun v1 =>
bd (ld u 131 6100 x1_) fun v2 =>
if (v1 - v2) ≤ x4_ then
(bd (zb x3_) fun z4 =>
some (x3_, u))
else
if x3_ = 0 then
(bd (zb x3_) fun z6 =>
some (x3_, u))
else
bd (ld u 131 6100 x1_) fun v7 =>
bd (ld u 134 24000 (v7 + x4_)) fun v8 =>
bd (ld u 131 6100 x2_) fun v9 =>
bd (ld u 134 24000 (v9 + x4_)) fun v10 =>
if v8 = v10 then
(lt (1 : Int32) fun x14 =>
lt (x4_ + 1 : Int32) fun x15 =>
rec 0 x1_ x2_ x14 x15 u)
else
lt (0 : Int32) fun x12 =>
lt (x4_ + 1 : Int32) fun x13 =>
rec 0 x1_ x2_ x12 x13 u
def fX12_isAtom_L0 : Nat → Nat → Int32 → Int32 → Int32 → Int32 → St → Option (Int32 × St)
  | 0 => fun _ _ _ _ _ _ => none
  | n + 1 => fun q x1_ x2_ x3_ x4_ u => match q with
    | 0 => fX12_isAtom_L0_0  (fX12_isAtom_L0  n) x1_ x2_ x3_ x4_ u
    | _ => none
def fX12_isAtom (a0 : Int32) (a1 : Int32) (u : St) : Option (Int32 × St) :=
bd (ld u 132 6100 a0) fun v16 =>
bd (ld u 131 6100 a0) fun v17 =>
bd (ld u 132 6100 a1) fun v18 =>
bd (ld u 131 6100 a1) fun v19 =>
if (v16 - v17) = (v18 - v19) then
(lt (1 : Int32) fun x23 =>
lt (0 : Int32) fun x24 =>
fX12_isAtom_L0 FU 0 a0 a1 x23 x24 u)
else
lt (0 : Int32) fun x21 =>
lt (0 : Int32) fun x22 =>
fX12_isAtom_L0 FU 0 a0 a1 x21 x22 u
def fX12_newClause_j549 (x5_ : Int32) (s0_ : Int32) (u : St) : Option (St) :=
bd (zb s0_) fun z2 =>
lt (uI u 100 47 s0_) fun u1 =>
bd (st u1 108 101 (gI u1 100 10) x5_) fun u3 =>
lt (uI u3 100 10 ((gI u3 100 10) + 1)) fun u4 =>
some u4
def fX12_newClause_L0_0 (rec : Nat → Int32 → Int32 → Int32 → Int32 → Int32 → St → Option (St)) (x4_ : Int32) (x5_ : Int32) (x6_ : Int32) (u : St) : Option (St) :=
if x6_ < ((gI u 100 17) - x4_) then
(if (gI u 100 47) = 0 then
(if x5_ ≤ 10 then
(fX12_newClause_j549 x5_ 0 u)
else
fX12_newClause_j549 x5_ 1 u)
else
fX12_newClause_j549 x5_ 1 u)
else
lt (x6_ + 1 : Int32) fun x8 =>
lt (0 : Int32) fun x9 =>
rec 1 x4_ x5_ x6_ x8 x9 u
def fX12_newClause_L0_1 (rec : Nat → Int32 → Int32 → Int32 → Int32 → Int32 → St → Option (St)) (x4_ : Int32) (x5_ : Int32) (x6_ : Int32) (x7_ : Int32) (x8_ : Int32) (u : St) : Option (St) :=
bd (ld u 113 20400 x6_) fun v10 =>
if v10 ≤ x8_ then
(bd (st u 112 20400 x6_ x7_) fun u12 =>
lt (x6_ + (-1) : Int32) fun x13 =>
rec 0 x4_ x5_ x13 0 0 u12)
else
bd (ld u 112 20400 x7_) fun v14 =>
lt (x8_ + 1 : Int32) fun x15 =>
rec 1 x4_ x5_ x6_ v14 x15 u
def fX12_newClause_L0 : Nat → Nat → Int32 → Int32 → Int32 → Int32 → Int32 → St → Option (St)
  | 0 => fun _ _ _ _ _ _ _ => none
  | n + 1 => fun q x4_ x5_ x6_ x7_ x8_ u => match q with
    | 0 => fX12_newClause_L0_0  (fX12_newClause_L0  n) x4_ x5_ x6_ u
    | 1 => fX12_newClause_L0_1  (fX12_newClause_L0  n) x4_ x5_ x6_ x7_ x8_ u
    | _ => none
def fX12_newClause_L1_0 (rec : Nat → Int32 → Int32 → Int32 → Int32 → Int32 → Int32 → Int32 → Int32 → Int32 → Int32 → St → Option (St)) (x2_ : Int32) (x4_ : Int32) (x5_ : Int32) (x6_ : Int32) (u : St) : Option (St) :=
if x2_ ≤ x6_ then
(lt ((gI u 100 17) - 1 : Int32) fun x17 =>
fX12_newClause_L0 FU 0 x4_ x5_ x17 0 0 u)
else
bd (ld u 141 13 x6_) fun v18 =>
bd (ld u 133 6100 v18) fun v19 =>
bd (zb v19) fun z21 =>
bd (st u 109 1300 (gI u 100 14) v19) fun u20 =>
bd (st u20 110 1300 (gI u20 100 14) (gI u20 100 17)) fun u22 =>
lt (uI u22 100 14 ((gI u22 100 14) + 1)) fun u23 =>
bd (ld u23 131 6100 v18) fun v24 =>
rec 1 x2_ x4_ x5_ x6_ v18 v24 0 0 0 0 u23
def fX12_newClause_L1_1 (rec : Nat → Int32 → Int32 → Int32 → Int32 → Int32 → Int32 → Int32 → Int32 → Int32 → Int32 → St → Option (St)) (x2_ : Int32) (x4_ : Int32) (x5_ : Int32) (x6_ : Int32) (x7_ : Int32) (x8_ : Int32) (u : St) : Option (St) :=
bd (ld u 132 6100 x7_) fun v25 =>
if v25 ≤ x8_ then
(lt (x6_ + 1 : Int32) fun x27 =>
rec 0 x2_ x4_ x5_ x27 0 0 0 0 0 0 u)
else
bd (ld u 134 24000 x8_) fun v28 =>
if 0 ≤ v28 then
(rec 5 x2_ x4_ x5_ x6_ x7_ x8_ v28 0 0 0 u)
else
lt (0 : Int32) fun x30 =>
rec 2 x2_ x4_ x5_ x6_ x7_ x8_ v28 x30 0 0 u
def fX12_newClause_L1_2 (rec : Nat → Int32 → Int32 → Int32 → Int32 → Int32 → Int32 → Int32 → Int32 → Int32 → Int32 → St → Option (St)) (x2_ : Int32) (x4_ : Int32) (x5_ : Int32) (x6_ : Int32) (x7_ : Int32) (x8_ : Int32) (x9_ : Int32) (x10_ : Int32) (u : St) : Option (St) :=
if x5_ ≤ x10_ then
(rec 3 x2_ x4_ x5_ x6_ x7_ x8_ x9_ x10_ 0 0 u)
else
bd (ld u 142 200 x10_) fun v32 =>
if v32 = x9_ then
(rec 3 x2_ x4_ x5_ x6_ x7_ x8_ x9_ x10_ 0 0 u)
else
lt (x10_ + 1 : Int32) fun x34 =>
rec 2 x2_ x4_ x5_ x6_ x7_ x8_ x9_ x34 0 0 u
def fX12_newClause_L1_3 (rec : Nat → Int32 → Int32 → Int32 → Int32 → Int32 → Int32 → Int32 → Int32 → Int32 → Int32 → St → Option (St)) (x2_ : Int32) (x4_ : Int32) (x5_ : Int32) (x6_ : Int32) (x7_ : Int32) (x8_ : Int32) (x9_ : Int32) (x10_ : Int32) (u : St) : Option (St) :=
bd (st u 142 200 x10_ x9_) fun u35 =>
if x10_ = x5_ then
(rec 4 x2_ x4_ 0 x6_ x7_ x8_ 0 x10_ x5_ 1 u35)
else
rec 4 x2_ x4_ 0 x6_ x7_ x8_ 0 x10_ x5_ 0 u35
def fX12_newClause_L1_4 (rec : Nat → Int32 → Int32 → Int32 → Int32 → Int32 → Int32 → Int32 → Int32 → Int32 → Int32 → St → Option (St)) (x2_ : Int32) (x4_ : Int32) (x6_ : Int32) (x7_ : Int32) (x8_ : Int32) (x10_ : Int32) (s0_ : Int32) (s1_ : Int32) (u : St) : Option (St) :=
lt (s0_ + s1_ : Int32) fun x37 =>
lt ((-1) - x10_ : Int32) fun x38 =>
rec 5 x2_ x4_ x37 x6_ x7_ x8_ x38 0 0 0 u
def fX12_newClause_L1_5 (rec : Nat → Int32 → Int32 → Int32 → Int32 → Int32 → Int32 → Int32 → Int32 → Int32 → Int32 → St → Option (St)) (x2_ : Int32) (x4_ : Int32) (x5_ : Int32) (x6_ : Int32) (x7_ : Int32) (x8_ : Int32) (x9_ : Int32) (u : St) : Option (St) :=
bd (st u 111 20400 (gI u 100 17) x9_) fun u39 =>
b2 (fX12_arityOf x9_ u39) fun r41 u40 =>
bd (st u40 113 20400 (gI u39 100 17) r41) fun u42 =>
lt (uI u42 100 17 ((gI u42 100 17) + 1)) fun u43 =>
lt (x8_ + 1 : Int32) fun x44 =>
rec 1 x2_ x4_ x5_ x6_ x7_ x44 0 0 0 0 u43
def fX12_newClause_L1 : Nat → Nat → Int32 → Int32 → Int32 → Int32 → Int32 → Int32 → Int32 → Int32 → Int32 → Int32 → St → Option (St)
  | 0 => fun _ _ _ _ _ _ _ _ _ _ _ _ => none
  | n + 1 => fun q x2_ x4_ x5_ x6_ x7_ x8_ x9_ x10_ s0_ s1_ u => match q with
    | 0 => fX12_newClause_L1_0  (fX12_newClause_L1  n) x2_ x4_ x5_ x6_ u
    | 1 => fX12_newClause_L1_1  (fX12_newClause_L1  n) x2_ x4_ x5_ x6_ x7_ x8_ u
    | 2 => fX12_newClause_L1_2  (fX12_newClause_L1  n) x2_ x4_ x5_ x6_ x7_ x8_ x9_ x10_ u
    | 3 => fX12_newClause_L1_3  (fX12_newClause_L1  n) x2_ x4_ x5_ x6_ x7_ x8_ x9_ x10_ u
    | 4 => fX12_newClause_L1_4  (fX12_newClause_L1  n) x2_ x4_ x6_ x7_ x8_ x10_ s0_ s1_ u
    | 5 => fX12_newClause_L1_5  (fX12_newClause_L1  n) x2_ x4_ x5_ x6_ x7_ x8_ x9_ u
    | _ => none
def fX12_newClause_L2_0 (rec : Nat → Int32 → Int32 → Int32 → St → Option (St)) (x2_ : Int32) (x4_ : Int32) (x5_ : Int32) (u : St) : Option (St) :=
if x2_ ≤ x5_ then
(if x4_ ≤ 200 then
(lt (0 : Int32) fun x47 =>
bd (st u 106 101 (gI u 100 10) (gI u 100 14)) fun u48 =>
bd (st u48 107 101 (gI u48 100 10) x2_) fun u49 =>
lt (0 : Int32) fun x50 =>
fX12_newClause_L1 FU 0 x2_ x4_ x47 x50 0 0 0 0 0 0 u49)
else
lt (uI u 100 47 1) fun u51 =>
some u51)
else
bd (ld u 141 13 x5_) fun v52 =>
bd (ld u 132 6100 v52) fun v53 =>
bd (ld u 141 13 x5_) fun v54 =>
bd (ld u 131 6100 v54) fun v55 =>
lt (x4_ + (v53 - v55) : Int32) fun x56 =>
lt (x5_ + 1 : Int32) fun x57 =>
rec 0 x2_ x56 x57 u
def fX12_newClause_L2 : Nat → Nat → Int32 → Int32 → Int32 → St → Option (St)
  | 0 => fun _ _ _ _ _ => none
  | n + 1 => fun q x2_ x4_ x5_ u => match q with
    | 0 => fX12_newClause_L2_0  (fX12_newClause_L2  n) x2_ x4_ x5_ u
    | _ => none
def fX12_newClause_L3_0 (rec : Nat → Int32 → Int32 → Int32 → Int32 → Int32 → Int32 → Int32 → Int32 → Int32 → St → Option (St)) (x1_ : Int32) (x2_ : Int32) (x3_ : Int32) (x4_ : Int32) (u : St) : Option (St) :=
bd (ld u 139 700 x1_) fun v58 =>
if v58 ≤ x4_ then
(if x3_ = 0 then
(lt (0 : Int32) fun x61 =>
lt (0 : Int32) fun x62 =>
fX12_newClause_L2 FU 0 x2_ x61 x62 u)
else
some u)
else
bd (ld u 138 700 x1_) fun v63 =>
bd (ld u 140 7000 (v63 + x4_)) fun v64 =>
lt (0 : Int32) fun x65 =>
lt (0 : Int32) fun x66 =>
rec 1 x1_ x2_ x3_ x4_ v64 x65 x66 0 0 u
def fX12_newClause_L3_1 (rec : Nat → Int32 → Int32 → Int32 → Int32 → Int32 → Int32 → Int32 → Int32 → Int32 → St → Option (St)) (x1_ : Int32) (x2_ : Int32) (x3_ : Int32) (x4_ : Int32) (x5_ : Int32) (x6_ : Int32) (x7_ : Int32) (u : St) : Option (St) :=
if x2_ ≤ x7_ then
(if x6_ = 0 then
(bd (st u 141 13 x2_ x5_) fun u70 =>
lt (x2_ + 1 : Int32) fun x71 =>
lt (x4_ + 1 : Int32) fun x72 =>
rec 0 x1_ x71 x3_ x72 0 0 0 0 0 u70)
else
lt (x4_ + 1 : Int32) fun x69 =>
rec 0 x1_ x2_ x3_ x69 0 0 0 0 0 u)
else
bd (ld u 141 13 x7_) fun v73 =>
b2 (fX12_isAtom v73 x5_ u) fun r75 u74 =>
if x6_ = 0 then
(if r75 = 0 then
(rec 2 x1_ x2_ x3_ x4_ x5_ 0 x7_ r75 0 u74)
else
bd (ld u74 141 13 x7_) fun v78 =>
bd (ld u74 133 6100 v78) fun v79 =>
bd (ld u74 133 6100 x5_) fun v80 =>
if v79 = v80 then
(rec 2 x1_ x2_ x3_ x4_ x5_ 0 x7_ r75 1 u74)
else
rec 2 x1_ x2_ x3_ x4_ x5_ 0 x7_ r75 0 u74)
else
rec 2 x1_ x2_ x3_ x4_ x5_ 0 x7_ r75 1 u74
def fX12_newClause_L3_2 (rec : Nat → Int32 → Int32 → Int32 → Int32 → Int32 → Int32 → Int32 → Int32 → Int32 → St → Option (St)) (x1_ : Int32) (x2_ : Int32) (x3_ : Int32) (x4_ : Int32) (x5_ : Int32) (x7_ : Int32) (x8_ : Int32) (s0_ : Int32) (u : St) : Option (St) :=
if x3_ = 0 then
(if x8_ = 0 then
(lt (0 : Int32) fun x86 =>
lt (x7_ + 1 : Int32) fun x87 =>
rec 1 x1_ x2_ x86 x4_ x5_ s0_ x87 0 0 u)
else
bd (ld u 141 13 x7_) fun v88 =>
bd (ld u 133 6100 v88) fun v89 =>
bd (ld u 133 6100 x5_) fun v90 =>
if v89 = v90 then
(lt (0 : Int32) fun x92 =>
lt (x7_ + 1 : Int32) fun x93 =>
rec 1 x1_ x2_ x92 x4_ x5_ s0_ x93 0 0 u)
else
lt (1 : Int32) fun x94 =>
lt (x7_ + 1 : Int32) fun x95 =>
rec 1 x1_ x2_ x94 x4_ x5_ s0_ x95 0 0 u)
else
lt (1 : Int32) fun x83 =>
lt (x7_ + 1 : Int32) fun x84 =>
rec 1 x1_ x2_ x83 x4_ x5_ s0_ x84 0 0 u
def fX12_newClause_L3 : Nat → Nat → Int32 → Int32 → Int32 → Int32 → Int32 → Int32 → Int32 → Int32 → Int32 → St → Option (St)
  | 0 => fun _ _ _ _ _ _ _ _ _ _ _ => none
  | n + 1 => fun q x1_ x2_ x3_ x4_ x5_ x6_ x7_ x8_ s0_ u => match q with
    | 0 => fX12_newClause_L3_0  (fX12_newClause_L3  n) x1_ x2_ x3_ x4_ u
    | 1 => fX12_newClause_L3_1  (fX12_newClause_L3  n) x1_ x2_ x3_ x4_ x5_ x6_ x7_ u
    | 2 => fX12_newClause_L3_2  (fX12_newClause_L3  n) x1_ x2_ x3_ x4_ x5_ x7_ x8_ s0_ u
    | _ => none
def fX12_newClause (a0 : Int32) (u : St) : Option (St) :=
lt (0 : Int32) fun x96 =>
lt (0 : Int32) fun x97 =>
lt (0 : Int32) fun x98 =>
fX12_newClause_L3 FU 0 a0 x96 x97 x98 0 0 0 0 0 u
def fX12_become_L0_0 (rec : Nat → Int32 → Int32 → St → Option (St)) (x2_ : Int32) (x3_ : Int32) (u : St) : Option (St) :=
bd (ld u 137 6100 x2_) fun v1 =>
if v1 ≤ x3_ then
(some u)
else
if (gI u 100 47) = 0 then
(bd (ld u 136 6100 x2_) fun v4 =>
bd (fX12_newClause (v4 + x3_) u) fun u5 =>
lt (x3_ + 1 : Int32) fun x6 =>
rec 0 x2_ x6 u5)
else
some u
def fX12_become_L0 : Nat → Nat → Int32 → Int32 → St → Option (St)
  | 0 => fun _ _ _ _ => none
  | n + 1 => fun q x2_ x3_ u => match q with
    | 0 => fX12_become_L0_0  (fX12_become_L0  n) x2_ x3_ u
    | _ => none
def fX12_become_L1_0 (rec : Nat → Int32 → Int32 → St → Option (St)) (x1_ : Int32) (x2_ : Int32) (u : St) : Option (St) :=
if (gI u 100 73) ≤ x2_ then
(b2 (fX12_inside x1_ u) fun r9 u8 =>
lt (uI u8 100 66 0) fun u10 =>
lt (uI u10 100 69 0) fun u11 =>
bd (fX12_distribute u11) fun u12 =>
if (gI u12 100 47) = 0 then
(bd (ld u12 137 6100 r9) fun v15 =>
if ((gI u12 100 10) + v15) ≤ 100 then
(lt (0 : Int32) fun x17 =>
fX12_become_L0 FU 0 r9 x17 u12)
else
lt (uI u12 100 47 1) fun u18 =>
some u18)
else
lt (uI u12 100 47 1) fun u14 =>
some u14)
else
bd (ld u 143 300 x2_) fun v19 =>
bd (fX12_bind v19 (gI u 100 53) u) fun u20 =>
bd (st u20 129 700 (gI u20 100 55) (gI u20 100 53)) fun u21 =>
lt (uI u21 100 53 ((gI u21 100 53) + 1)) fun u22 =>
lt (uI u22 100 55 ((gI u22 100 55) + 1)) fun u23 =>
lt (x2_ + 1 : Int32) fun x24 =>
rec 0 x1_ x24 u23
def fX12_become_L1 : Nat → Nat → Int32 → Int32 → St → Option (St)
  | 0 => fun _ _ _ _ => none
  | n + 1 => fun q x1_ x2_ u => match q with
    | 0 => fX12_become_L1_0  (fX12_become_L1  n) x1_ x2_ u
    | _ => none
def fX12_become_j25 (x1_ : Int32) (s0_ : Int32) (u : St) : Option (St) :=
bd (zb s0_) fun z26 =>
lt (uI u 100 47 s0_) fun u25 =>
if (gI u25 100 47) = 0 then
(lt (uI u25 100 8 (gI u25 100 7)) fun u28 =>
lt (uI u28 100 49 0) fun u29 =>
lt (uI u29 100 73 0) fun u30 =>
bd (fX12_free x1_ u30) fun u31 =>
lt (uI u31 100 48 (gI u31 100 73)) fun u32 =>
lt (uI u32 100 53 0) fun u33 =>
lt (uI u33 100 55 0) fun u34 =>
lt (uI u34 100 56 0) fun u35 =>
lt (uI u35 100 61 0) fun u36 =>
lt (0 : Int32) fun x37 =>
fX12_become_L1 FU 0 x1_ x37 u36)
else
some u25
def fX12_become (a0 : Int32) (u : St) : Option (St) :=
if 60 < (gI u 100 3) then
(fX12_become_j25 a0 1 u)
else
if (gI u 100 33) ≤ 250 then
(fX12_become_j25 a0 0 u)
else
fX12_become_j25 a0 1 u
def fX12_sign (a0 : Int32) (u : St) : Option (Int32 × St) :=
if (gI u 100 2) ≤ a0 then
(some ((-1), u))
else
bd (ld u 101 1500 a0) fun v2 =>
some (v2 &&& 255, u)
def fX12_in (a0 : Int32) (a1 : Int32) (a2 : Int32) (u : St) : Option (Int32 × St) :=
if a0 < a1 then
(some (0, u))
else
if a2 < a0 then
(some (0, u))
else
some (1, u)
def fX12_letter (a0 : Int32) (u : St) : Option (Int32 × St) :=
b2 (fX12_in a0 97 122 u) fun r2 u1 =>
if r2 = 0 then
(b2 (fX12_in a0 65 90 u1) fun r5 u4 =>
if r5 = 0 then
(b2 (fX12_in a0 48 57 u4) fun r8 u7 =>
if r8 = 0 then
(if a0 = 95 then
(some (63, u7))
else
some (0, u7))
else
some ((a0 - 48) + 53, u7))
else
some ((a0 - 65) + 27, u4))
else
some ((a0 - 97) + 1, u1)
def fX12_fail (a0 : Int32) (a1 : Int32) (u : St) : Option (St) :=
if (gI u 100 21) = 0 then
(lt (uI u 100 21 a0) fun u2 =>
lt (uI u2 100 22 a1) fun u3 =>
some u3)
else
some u
def fX12_look_j233 (x2_ : Int32) (s0_ : Int32) (u : St) : Option (Int32 × St) :=
lt (uI u 100 25 s0_) fun u1 =>
if x2_ ≤ 8 then
(some (gI u1 100 25, u1))
else
bd (fX12_fail 1 (gI u1 100 26) u1) fun u3 =>
some ((-1), u3)
def fX12_look_L0_0 (rec : Nat → Int32 → Int32 → Int64 → St → Option (Int32 × St)) (x1_ : Int32) (x2_ : Int32) (u : St) : Option (Int32 × St) :=
b2 (fX12_sign (gI u 100 23) u) fun r5 u4 =>
b2 (fX12_letter r5 u4) fun r7 u6 =>
if r7 ≤ 0 then
(b2 (fX12_in x1_ 97 122 u6) fun r10 u9 =>
if r10 = 0 then
(fX12_look_j233 x2_ 2 u9)
else
fX12_look_j233 x2_ 1 u9)
else
if 9 ≤ x2_ then
(rec 1 x1_ x2_ (gJ u6 100 27) u6)
else
b2 (fX12_sign (gI u6 100 23) u6) fun r14 u13 =>
b2 (fX12_letter r14 u13) fun r16 u15 =>
rec 1 x1_ x2_ ((64 * (gJ u6 100 27)) + (r16.toInt64)) u15
def fX12_look_L0_1 (rec : Nat → Int32 → Int32 → Int64 → St → Option (Int32 × St)) (x1_ : Int32) (x2_ : Int32) (s0_ : Int64) (u : St) : Option (Int32 × St) :=
lt (uJ u 100 27 s0_) fun u17 =>
lt (uI u17 100 23 ((gI u17 100 23) + 1)) fun u18 =>
lt (x2_ + 1 : Int32) fun x19 =>
rec 0 x1_ x19 0 u18
def fX12_look_L0 : Nat → Nat → Int32 → Int32 → Int64 → St → Option (Int32 × St)
  | 0 => fun _ _ _ _ _ => none
  | n + 1 => fun q x1_ x2_ s0_ u => match q with
    | 0 => fX12_look_L0_0  (fX12_look_L0  n) x1_ x2_ u
    | 1 => fX12_look_L0_1  (fX12_look_L0  n) x1_ x2_ s0_ u
    | _ => none
def fX12_look_j436 (x2_ : Int32) (x3_ : Int32) (u : St) : Option (Int32 × St) :=
if x3_ = 0 then
(bd (fX12_fail 1 (gI u 100 26) u) fun u23 =>
some ((-1), u23))
else
lt (uI u 100 23 ((gI u 100 23) + x2_)) fun u21 =>
lt (uI u21 100 25 x3_) fun u22 =>
some (x3_, u22)
def fX12_look_j395 (x1_ : Int32) (x2_ : Int32) (x3_ : Int32) (u : St) : Option (Int32 × St) :=
if x1_ = 60 then
(b2 (fX12_sign ((gI u 100 23) + 1) u) fun r26 u25 =>
if r26 = 61 then
(b2 (fX12_sign ((gI u25 100 23) + 2) u25) fun r29 u28 =>
if r29 = 62 then
(lt (14 : Int32) fun x31 =>
lt (3 : Int32) fun x32 =>
fX12_look_j436 x32 x31 u28)
else
fX12_look_j436 x2_ x3_ u28)
else
fX12_look_j436 x2_ x3_ u25)
else
fX12_look_j436 x2_ x3_ u
def fX12_look_j368 (x1_ : Int32) (x2_ : Int32) (s0_ : Int32) (u : St) : Option (Int32 × St) :=
if x1_ = 61 then
(b2 (fX12_sign ((gI u 100 23) + 1) u) fun r35 u34 =>
if r35 = 62 then
(lt (13 : Int32) fun x37 =>
lt (2 : Int32) fun x38 =>
fX12_look_j395 x1_ x38 x37 u34)
else
fX12_look_j395 x1_ x2_ s0_ u34)
else
fX12_look_j395 x1_ x2_ s0_ u
def fX12_look_L1_0 (rec : Nat → St → Option (Int32 × St)) (u : St) : Option (Int32 × St) :=
b2 (fX12_sign (gI u 100 23) u) fun r40 u39 =>
if r40 = 9 then
(rec 1 u39)
else
b2 (fX12_sign (gI u39 100 23) u39) fun r43 u42 =>
if r43 = 10 then
(rec 1 u42)
else
b2 (fX12_sign (gI u42 100 23) u42) fun r46 u45 =>
if r46 = 13 then
(rec 1 u45)
else
b2 (fX12_sign (gI u45 100 23) u45) fun r49 u48 =>
if r49 = 32 then
(rec 1 u48)
else
b2 (fX12_sign (gI u48 100 23) u48) fun r52 u51 =>
lt (uI u51 100 26 (gI u51 100 23)) fun u53 =>
lt (uI u53 100 24 1) fun u54 =>
if 0 ≤ r52 then
(b2 (fX12_in r52 97 122 u54) fun r57 u56 =>
if r57 = 0 then
(b2 (fX12_in r52 65 90 u56) fun r62 u61 =>
if r62 = 0 then
(lt (1 : Int32) fun x64 =>
if r52 = 40 then
(fX12_look_j368 r52 x64 3 u61)
else
if r52 = 41 then
(fX12_look_j368 r52 x64 4 u61)
else
if r52 = 44 then
(fX12_look_j368 r52 x64 5 u61)
else
if r52 = 46 then
(fX12_look_j368 r52 x64 6 u61)
else
if r52 = 58 then
(fX12_look_j368 r52 x64 7 u61)
else
if r52 = 126 then
(fX12_look_j368 r52 x64 8 u61)
else
if r52 = 38 then
(fX12_look_j368 r52 x64 9 u61)
else
if r52 = 124 then
(fX12_look_j368 r52 x64 10 u61)
else
if r52 = 33 then
(fX12_look_j368 r52 x64 11 u61)
else
if r52 = 63 then
(fX12_look_j368 r52 x64 12 u61)
else
fX12_look_j368 r52 x64 0 u61)
else
lt (0 : Int32) fun x75 =>
lt (uJ u61 100 27 0) fun u76 =>
fX12_look_L0 FU 0 r52 x75 0 u76)
else
lt (0 : Int32) fun x59 =>
lt (uJ u56 100 27 0) fun u60 =>
fX12_look_L0 FU 0 r52 x59 0 u60)
else
lt (uI u54 100 25 0) fun u77 =>
some (0, u77)
def fX12_look_L1_1 (rec : Nat → St → Option (Int32 × St)) (u : St) : Option (Int32 × St) :=
lt (uI u 100 23 ((gI u 100 23) + 1)) fun u78 =>
rec 0 u78
def fX12_look_L1 : Nat → Nat → St → Option (Int32 × St)
  | 0 => fun _  _ => none
  | n + 1 => fun q  u => match q with
    | 0 => fX12_look_L1_0  (fX12_look_L1  n)  u
    | 1 => fX12_look_L1_1  (fX12_look_L1  n)  u
    | _ => none
def fX12_look (u : St) : Option (Int32 × St) :=
if (gI u 100 21) ≤ 0 then
(if (gI u 100 24) = 0 then
(fX12_look_L1 FU 0 u)
else
some (gI u 100 25, u))
else
some ((-1), u)
def fX12_take (u : St) : Option (St) :=
lt (uI u 100 24 0) fun u1 =>
some u1
def fX12_symbolOf_L0_0 (rec : Nat → Int64 → Int32 → St → Option (Int32 × St)) (x1_ : Int64) (x3_ : Int32) (u : St) : Option (Int32 × St) :=
if (gI u 100 3) ≤ x3_ then
(bd (stJ u 102 820 (gI u 100 3) x1_) fun u2 =>
bd (st u2 103 820 (gI u2 100 3) (-1)) fun u3 =>
lt (uI u3 100 3 ((gI u3 100 3) + 1)) fun u4 =>
some ((gI u4 100 3) - 1, u4))
else
bd (ldJ u 102 820 x3_) fun v5 =>
if (lg_cmp v5 x1_) = 0 then
(some (x3_, u))
else
lt (x3_ + 1 : Int32) fun x7 =>
rec 0 x1_ x7 u
def fX12_symbolOf_L0 : Nat → Nat → Int64 → Int32 → St → Option (Int32 × St)
  | 0 => fun _ _ _ _ => none
  | n + 1 => fun q x1_ x3_ u => match q with
    | 0 => fX12_symbolOf_L0_0  (fX12_symbolOf_L0  n) x1_ x3_ u
    | _ => none
def fX12_symbolOf (a0 : Int64) (u : St) : Option (Int32 × St) :=
lt (0 : Int32) fun x8 =>
fX12_symbolOf_L0 FU 0 a0 x8 u
def fX12_opens (u : St) : Option (Int32 × St) :=
if (gI u 100 37) = 30 then
(bd (fX12_fail 6 (gI u 100 26) u) fun u4 =>
some (0, u4))
else
lt (uI u 100 37 ((gI u 100 37) + 1)) fun u2 =>
bd (fX12_take u2) fun u3 =>
some (1, u3)
def fX12_endName_j59 (x1_ : Int32) (x3_ : Int32) (x4_ : Int32) (u : St) : Option (St) :=
bd (st u 103 820 x1_ x3_) fun u1 =>
bd (zb x4_) fun z3 =>
bd (st u1 104 820 x1_ x4_) fun u2 =>
some u2
def fX12_endName_j12 (x1_ : Int32) (x2_ : Int32) (x3_ : Int32) (s0_ : Int32) (u : St) : Option (St) :=
if (gI u 100 21) ≤ 0 then
(bd (ld u 103 820 x1_) fun v5 =>
if v5 < 0 then
(fX12_endName_j59 x1_ x3_ s0_ u)
else
bd (ld u 103 820 x1_) fun v7 =>
if v7 = x3_ then
(bd (ld u 104 820 x1_) fun v10 =>
if v10 = s0_ then
(fX12_endName_j59 x1_ x3_ s0_ u)
else
bd (fX12_fail 3 x2_ u) fun u12 =>
some u12)
else
bd (fX12_fail 3 x2_ u) fun u9 =>
some u9)
else
some u
def fX12_endName (a0 : Int32) (a1 : Int32) (a2 : Int32) (u : St) : Option (St) :=
if (gI u 100 43) ≤ 0 then
(fX12_endName_j12 a0 a1 a2 0 u)
else
fX12_endName_j12 a0 a1 a2 1 u
def fX12_beginTerm_j52 (x1_ : Int32) (u : St) : Option (Int32 × St) :=
if x1_ = 1 then
(lt (gI u 100 26 : Int32) fun x2 =>
b2 (fX12_symbolOf (gJ u 100 27) u) fun r4 u3 =>
bd (fX12_take u3) fun u5 =>
bd (st u5 118 1600 (gI u5 100 33) r4) fun u6 =>
lt (uI u6 100 33 ((gI u6 100 33) + 1)) fun u7 =>
b2 (fX12_look u7) fun r9 u8 =>
if r9 = 3 then
(b2 (fX12_opens u8) fun r13 u12 =>
if r13 = 0 then
(some (0, u12))
else
bd (st u12 123 40 (gI u12 100 43) r4) fun u15 =>
bd (st u15 124 40 (gI u15 100 43) x2) fun u16 =>
bd (st u16 125 40 (gI u16 100 43) 0) fun u17 =>
lt (uI u17 100 43 ((gI u17 100 43) + 1)) fun u18 =>
some (0, u18))
else
bd (fX12_endName r4 x2 0 u8) fun u11 =>
some (1, u11))
else
bd (fX12_fail 2 (gI u 100 26) u) fun u19 =>
some (0, u19)
def fX12_beginTerm (u : St) : Option (Int32 × St) :=
b2 (fX12_look u) fun r21 u20 =>
if (gI u20 100 43) ≤ 0 then
(fX12_beginTerm_j52 r21 u20)
else
if r21 = 2 then
(b2 (fX12_variableOf (gJ u20 100 27) u20) fun r25 u24 =>
bd (st u24 118 1600 (gI u20 100 33) ((-1) - r25)) fun u26 =>
lt (uI u26 100 33 ((gI u26 100 33) + 1)) fun u27 =>
bd (fX12_take u27) fun u28 =>
some (1, u28))
else
fX12_beginTerm_j52 r21 u20
def fX12_stands_L0_0 (rec : Nat → Int32 → Int32 → Int32 → Int32 → Int32 → St → Option (Int32 × St)) (x1_ : Int32) (u : St) : Option (Int32 × St) :=
if (gI u 100 116) ≤ 0 then
(some (0, u))
else
lt (uI u 100 116 ((gI u 100 116) - 1)) fun u2 =>
bd (ld u2 165 20100 (gI u2 100 116)) fun v3 =>
bd (ld u2 166 20100 (gI u2 100 116)) fun v4 =>
bd (fX12_follow v3 v4 u2) fun u5 =>
lt (gI u5 100 95 : Int32) fun x6 =>
lt (gI u5 100 96 : Int32) fun x7 =>
b2 (fX12_counted u5) fun r9 u8 =>
if r9 = 0 then
(some (1, u8))
else
bd (ld u8 111 20400 x6) fun v11 =>
if 0 ≤ v11 then
(bd (ld u8 113 20400 x6) fun v13 =>
lt (x6 + 1 : Int32) fun x14 =>
lt (0 : Int32) fun x15 =>
rec 1 x1_ x7 v13 x14 x15 u8)
else
bd (ld u8 111 20400 x6) fun v16 =>
if ((x7 - 1) - v16) = x1_ then
(some (1, u8))
else
rec 0 x1_ 0 0 0 0 u8
def fX12_stands_L0_1 (rec : Nat → Int32 → Int32 → Int32 → Int32 → Int32 → St → Option (Int32 × St)) (x1_ : Int32) (x5_ : Int32) (x6_ : Int32) (x7_ : Int32) (x8_ : Int32) (u : St) : Option (Int32 × St) :=
if x6_ ≤ x8_ then
(lt (uI u 100 116 ((gI u 100 116) + x6_)) fun u19 =>
rec 0 x1_ 0 0 0 0 u19)
else
bd (st u 165 20100 ((((gI u 100 116) + x6_) - 1) - x8_) x7_) fun u20 =>
bd (st u20 166 20100 ((((gI u20 100 116) + x6_) - 1) - x8_) x5_) fun u21 =>
bd (ld u21 112 20400 x7_) fun v22 =>
lt (x8_ + 1 : Int32) fun x23 =>
rec 1 x1_ x5_ x6_ v22 x23 u21
def fX12_stands_L0 : Nat → Nat → Int32 → Int32 → Int32 → Int32 → Int32 → St → Option (Int32 × St)
  | 0 => fun _ _ _ _ _ _ _ => none
  | n + 1 => fun q x1_ x5_ x6_ x7_ x8_ u => match q with
    | 0 => fX12_stands_L0_0  (fX12_stands_L0  n) x1_ u
    | 1 => fX12_stands_L0_1  (fX12_stands_L0  n) x1_ x5_ x6_ x7_ x8_ u
    | _ => none
def fX12_stands (a0 : Int32) (a1 : Int32) (a2 : Int32) (u : St) : Option (Int32 × St) :=
lt (uI u 100 116 1) fun u24 =>
bd (st u24 165 20100 0 a1) fun u25 =>
bd (st u25 166 20100 0 a2) fun u26 =>
fX12_stands_L0 FU 0 a0 0 0 0 0 u26
def fX12_bound (a0 : Int32) (a1 : Int32) (a2 : Int32) (u : St) : Option (Int32 × St) :=
b2 (fX12_stands a0 a1 a2 u) fun r2 u1 =>
if r2 = 0 then
(bd (st u1 154 300 a0 a1) fun u4 =>
bd (st u4 155 300 a0 a2) fun u5 =>
bd (st u5 156 400 (gI u5 100 93) a0) fun u6 =>
lt (uI u6 100 93 ((gI u6 100 93) + 1)) fun u7 =>
some (1, u7))
else
some (0, u1)
def fX12_endOf (a0 : Int32) (u : St) : Option (Int32 × St) :=
bd (ld u 110 1300 a0) fun v1 =>
bd (ld u 112 20400 v1) fun v2 =>
some (v2, u)
def fX12_clause_L0_0 (rec : Nat → Int32 → Int32 → Int32 → Int32 → St → Option (Int32 × St)) (x1_ : Int32) (x2_ : Int32) (x3_ : Int32) (x4_ : Int32) (u : St) : Option (Int32 × St) :=
bd (ld u 106 101 x1_) fun v1 =>
bd (ld u 107 101 x1_) fun v2 =>
if (v1 + v2) ≤ x4_ then
(if x2_ = 0 then
(bd (ld u 107 101 x1_) fun v7 =>
some (v7, u))
else
if x2_ = 1 then
(bd (ld u 108 101 x1_) fun v6 =>
some (v6, u))
else
some (x3_, u))
else
b2 (fX12_endOf x4_ u) fun r9 u8 =>
bd (ld u8 110 1300 x4_) fun v10 =>
lt (x3_ + (r9 - v10) : Int32) fun x11 =>
lt (x4_ + 1 : Int32) fun x12 =>
rec 0 x1_ x2_ x11 x12 u8
def fX12_clause_L0 : Nat → Nat → Int32 → Int32 → Int32 → Int32 → St → Option (Int32 × St)
  | 0 => fun _ _ _ _ _ _ => none
  | n + 1 => fun q x1_ x2_ x3_ x4_ u => match q with
    | 0 => fX12_clause_L0_0  (fX12_clause_L0  n) x1_ x2_ x3_ x4_ u
    | _ => none
def fX12_clause (a0 : Int32) (a1 : Int32) (u : St) : Option (Int32 × St) :=
lt (uI u 100 0 0) fun u13 =>
b2 (fX12_in a0 0 ((gI u13 100 10) - 1) u13) fun r15 u14 =>
if r15 = 0 then
(some ((-1), u14))
else
b2 (fX12_in a1 0 2 u14) fun r18 u17 =>
if r18 = 0 then
(some ((-2), u17))
else
lt (0 : Int32) fun x20 =>
bd (ld u17 106 101 a0) fun v21 =>
fX12_clause_L0 FU 0 a0 a1 x20 v21 u17
def fX12_put_j21 (u : St) : Option (St) :=
lt (uI u 100 78 ((gI u 100 78) + 1)) fun u1 =>
some u1
def fX12_put (a0 : Int32) (u : St) : Option (St) :=
if 4100 ≤ (gI u 100 78) then
(fX12_put_j21 u)
else
bd (stB u 145 4100 (gI u 100 78) (a0.toInt8.toInt32)) fun u3 =>
fX12_put_j21 u3
def fX12_later (a0 : Int32) (a1 : Int32) (u : St) : Option (St) :=
bd (st u 147 21000 (gI u 100 81) a0) fun u1 =>
bd (st u1 148 21000 (gI u1 100 81) a1) fun u2 =>
lt (uI u2 100 81 ((gI u2 100 81) + 1)) fun u3 =>
some u3
def fX12_decimal_L0_0 (rec : Nat → Int32 → Int32 → St → Option (St)) (x1_ : Int32) (x2_ : Int32) (u : St) : Option (St) :=
if x2_ ≤ 0 then
(some u)
else
bd (nz x2_) fun z2 =>
bd (fX12_put (48 + ((x1_ / x2_) - (x1_ / x2_) / 10 * 10)) u) fun u3 =>
lt (x2_ / 10 : Int32) fun x4 =>
rec 0 x1_ x4 u3
def fX12_decimal_L0 : Nat → Nat → Int32 → Int32 → St → Option (St)
  | 0 => fun _ _ _ _ => none
  | n + 1 => fun q x1_ x2_ u => match q with
    | 0 => fX12_decimal_L0_0  (fX12_decimal_L0  n) x1_ x2_ u
    | _ => none
def fX12_decimal_L1_0 (rec : Nat → Int32 → Int32 → St → Option (St)) (x1_ : Int32) (x2_ : Int32) (u : St) : Option (St) :=
bd (nz x2_) fun z5 =>
if (x1_ / x2_) ≤ 9 then
(fX12_decimal_L0 FU 0 x1_ x2_ u)
else
lt (x2_ * 10 : Int32) fun x7 =>
rec 0 x1_ x7 u
def fX12_decimal_L1 : Nat → Nat → Int32 → Int32 → St → Option (St)
  | 0 => fun _ _ _ _ => none
  | n + 1 => fun q x1_ x2_ u => match q with
    | 0 => fX12_decimal_L1_0  (fX12_decimal_L1  n) x1_ x2_ u
    | _ => none
def fX12_decimal (a0 : Int32) (u : St) : Option (St) :=
lt (1 : Int32) fun x8 =>
fX12_decimal_L1 FU 0 a0 x8 u
def fX12_variableOut_j42 (x1_ : Int32) (x3_ : Int32) (u : St) : Option (St) :=
bd (st u 146 4200 x3_ x1_) fun u1 =>
if x3_ = (gI u1 100 79) then
(lt (uI u1 100 79 ((gI u1 100 79) + 1)) fun u5 =>
bd (fX12_decimal x3_ u5) fun u6 =>
some u6)
else
lt (uI u1 100 79 ((gI u1 100 79) + 0)) fun u3 =>
bd (fX12_decimal x3_ u3) fun u4 =>
some u4
def fX12_variableOut_L0_0 (rec : Nat → Int32 → Int32 → St → Option (St)) (x1_ : Int32) (x3_ : Int32) (u : St) : Option (St) :=
if (gI u 100 79) ≤ x3_ then
(fX12_variableOut_j42 x1_ x3_ u)
else
bd (ld u 146 4200 x3_) fun v8 =>
if v8 = x1_ then
(fX12_variableOut_j42 x1_ x3_ u)
else
lt (x3_ + 1 : Int32) fun x10 =>
rec 0 x1_ x10 u
def fX12_variableOut_L0 : Nat → Nat → Int32 → Int32 → St → Option (St)
  | 0 => fun _ _ _ _ => none
  | n + 1 => fun q x1_ x3_ u => match q with
    | 0 => fX12_variableOut_L0_0  (fX12_variableOut_L0  n) x1_ x3_ u
    | _ => none
def fX12_variableOut (a0 : Int32) (a1 : Int32) (u : St) : Option (St) :=
bd (fX12_put 88 u) fun u11 =>
if a1 = 0 then
(lt (0 : Int32) fun x13 =>
fX12_variableOut_L0 FU 0 a0 x13 u11)
else
bd (fX12_decimal a0 u11) fun u14 =>
some u14
def fX12_signOf (a0 : Int32) (u : St) : Option (Int32 × St) :=
if 27 ≤ a0 then
(if 53 ≤ a0 then
(if 63 ≤ a0 then
(some (95, u))
else
some ((48 + a0) - 53, u))
else
some ((65 + a0) - 27, u))
else
some ((97 + a0) - 1, u)
def fX12_nameOut_L0_0 (rec : Nat → Int32 → Int32 → St → Option (St)) (x1_ : Int32) (x3_ : Int32) (u : St) : Option (St) :=
if x3_ < 0 then
(some u)
else
bd (ldJ u 102 820 x1_) fun v2 =>
b2 (fX12_signOf (((v2 >>> ((6 * x3_).toInt64 &&& 63)) &&& 63).toInt32) u) fun r4 u3 =>
bd (fX12_put r4 u3) fun u5 =>
lt (x3_ + (-1) : Int32) fun x6 =>
rec 0 x1_ x6 u5
def fX12_nameOut_L0 : Nat → Nat → Int32 → Int32 → St → Option (St)
  | 0 => fun _ _ _ _ => none
  | n + 1 => fun q x1_ x3_ u => match q with
    | 0 => fX12_nameOut_L0_0  (fX12_nameOut_L0  n) x1_ x3_ u
    | _ => none
def fX12_nameOut_L1_0 (rec : Nat → Int32 → Int32 → St → Option (St)) (x1_ : Int32) (x2_ : Int32) (u : St) : Option (St) :=
bd (ldJ u 102 820 x1_) fun v7 =>
if (lg_cmp (v7 >>> ((6 * x2_).toInt64 &&& 63)) 0) ≤ 0 then
(lt (x2_ - 1 : Int32) fun x9 =>
fX12_nameOut_L0 FU 0 x1_ x9 u)
else
lt (x2_ + 1 : Int32) fun x10 =>
rec 0 x1_ x10 u
def fX12_nameOut_L1 : Nat → Nat → Int32 → Int32 → St → Option (St)
  | 0 => fun _ _ _ _ => none
  | n + 1 => fun q x1_ x2_ u => match q with
    | 0 => fX12_nameOut_L1_0  (fX12_nameOut_L1  n) x1_ x2_ u
    | _ => none
def fX12_nameOut (a0 : Int32) (u : St) : Option (St) :=
if a0 < 1000 then
(lt (0 : Int32) fun x12 =>
fX12_nameOut_L1 FU 0 a0 x12 u)
else
bd (fX12_put 115 u) fun u13 =>
bd (fX12_decimal ((a0 - 1000) + 1) u13) fun u14 =>
some u14
def fX12_termOut_L0_0 (rec : Nat → Int32 → Int32 → Int32 → Int32 → Int32 → Int32 → St → Option (St)) (u : St) : Option (St) :=
if (gI u 100 81) ≤ 0 then
(some u)
else
if 4000 < (gI u 100 78) then
(some u)
else
lt (uI u 100 81 ((gI u 100 81) - 1)) fun u3 =>
bd (ld u3 147 21000 (gI u3 100 81)) fun v4 =>
bd (ld u3 148 21000 (gI u3 100 81)) fun v5 =>
if 0 ≤ v4 then
(if v5 < 0 then
(rec 1 v4 v5 0 0 0 0 u3)
else
bd (fX12_follow v4 v5 u3) fun u8 =>
lt (gI u8 100 95 : Int32) fun x9 =>
lt (gI u8 100 96 : Int32) fun x10 =>
rec 1 x9 x10 0 0 0 0 u8)
else
bd (fX12_put (-v4) u3) fun u11 =>
rec 0 0 0 0 0 0 0 u11
def fX12_termOut_L0_1 (rec : Nat → Int32 → Int32 → Int32 → Int32 → Int32 → Int32 → St → Option (St)) (x3_ : Int32) (x4_ : Int32) (u : St) : Option (St) :=
bd (ld u 111 20400 x3_) fun v12 =>
if 0 ≤ v12 then
(bd (ld u 111 20400 x3_) fun v14 =>
bd (fX12_nameOut v14 u) fun u15 =>
bd (ld u15 113 20400 x3_) fun v16 =>
lt (x3_ + 1 : Int32) fun x17 =>
lt (0 : Int32) fun x18 =>
rec 3 0 x4_ v16 x17 x18 0 u15)
else
if 0 ≤ x4_ then
(bd (ld u 111 20400 x3_) fun v20 =>
rec 2 0 x4_ 0 0 0 ((x4_ - 1) - v20) u)
else
bd (ld u 111 20400 x3_) fun v21 =>
rec 2 0 x4_ 0 0 0 ((-1) - v21) u
def fX12_termOut_L0_2 (rec : Nat → Int32 → Int32 → Int32 → Int32 → Int32 → Int32 → St → Option (St)) (x4_ : Int32) (s0_ : Int32) (u : St) : Option (St) :=
if 0 ≤ x4_ then
(bd (fX12_variableOut s0_ 0 u) fun u23 =>
rec 0 0 0 0 0 0 0 u23)
else
bd (fX12_variableOut s0_ 1 u) fun u24 =>
rec 0 0 0 0 0 0 0 u24
def fX12_termOut_L0_3 (rec : Nat → Int32 → Int32 → Int32 → Int32 → Int32 → Int32 → St → Option (St)) (x4_ : Int32) (x5_ : Int32) (x6_ : Int32) (x7_ : Int32) (u : St) : Option (St) :=
if x5_ ≤ x7_ then
(if x5_ ≤ 0 then
(lt (x5_ - 1 : Int32) fun x27 =>
rec 4 0 x4_ 0 0 x27 0 u)
else
bd (fX12_put 40 u) fun u28 =>
bd (fX12_later (-41) 0 u28) fun u29 =>
lt (x5_ - 1 : Int32) fun x30 =>
rec 4 0 x4_ 0 0 x30 0 u29)
else
bd (st u 149 5 x7_ x6_) fun u31 =>
bd (ld u31 112 20400 x6_) fun v32 =>
lt (x7_ + 1 : Int32) fun x33 =>
rec 3 0 x4_ x5_ v32 x33 0 u31
def fX12_termOut_L0_4 (rec : Nat → Int32 → Int32 → Int32 → Int32 → Int32 → Int32 → St → Option (St)) (x4_ : Int32) (x7_ : Int32) (u : St) : Option (St) :=
if x7_ < 0 then
(rec 0 0 0 0 0 0 0 u)
else
bd (ld u 149 5 x7_) fun v35 =>
bd (fX12_later v35 x4_ u) fun u36 =>
if x7_ ≤ 0 then
(lt (x7_ + (-1) : Int32) fun x38 =>
rec 4 0 x4_ 0 0 x38 0 u36)
else
bd (fX12_later (-44) 0 u36) fun u39 =>
lt (x7_ + (-1) : Int32) fun x40 =>
rec 4 0 x4_ 0 0 x40 0 u39
def fX12_termOut_L0 : Nat → Nat → Int32 → Int32 → Int32 → Int32 → Int32 → Int32 → St → Option (St)
  | 0 => fun _ _ _ _ _ _ _ _ => none
  | n + 1 => fun q x3_ x4_ x5_ x6_ x7_ s0_ u => match q with
    | 0 => fX12_termOut_L0_0  (fX12_termOut_L0  n)  u
    | 1 => fX12_termOut_L0_1  (fX12_termOut_L0  n) x3_ x4_ u
    | 2 => fX12_termOut_L0_2  (fX12_termOut_L0  n) x4_ s0_ u
    | 3 => fX12_termOut_L0_3  (fX12_termOut_L0  n) x4_ x5_ x6_ x7_ u
    | 4 => fX12_termOut_L0_4  (fX12_termOut_L0  n) x4_ x7_ u
    | _ => none
def fX12_termOut (a0 : Int32) (a1 : Int32) (u : St) : Option (St) :=
lt (uI u 100 81 0) fun u41 =>
bd (fX12_later a0 a1 u41) fun u42 =>
fX12_termOut_L0 FU 0 0 0 0 0 0 0 u42
def fX12_literalOut_j15 (x1_ : Int32) (x2_ : Int32) (u : St) : Option (St) :=
bd (ld u 110 1300 x1_) fun v1 =>
bd (fX12_termOut v1 x2_ u) fun u2 =>
some u2
def fX12_literalOut (a0 : Int32) (a1 : Int32) (u : St) : Option (St) :=
bd (ld u 109 1300 a0) fun v3 =>
if v3 = 0 then
(fX12_literalOut_j15 a0 a1 u)
else
bd (fX12_put 126 u) fun u5 =>
fX12_literalOut_j15 a0 a1 u5
def fX12_clauseOut_L0_0 (rec : Nat → Int32 → Int32 → Int32 → St → Option (St)) (x1_ : Int32) (x2_ : Int32) (x3_ : Int32) (u : St) : Option (St) :=
bd (ld u 107 101 x1_) fun v1 =>
if v1 ≤ x3_ then
(bd (ld u 107 101 x1_) fun v3 =>
if v3 = 0 then
(bd (fX12_put 36 u) fun u5 =>
some u5)
else
some u)
else
if x3_ ≤ 0 then
(rec 1 x1_ x2_ x3_ u)
else
bd (fX12_put 124 u) fun u7 =>
rec 1 x1_ x2_ x3_ u7
def fX12_clauseOut_L0_1 (rec : Nat → Int32 → Int32 → Int32 → St → Option (St)) (x1_ : Int32) (x2_ : Int32) (x3_ : Int32) (u : St) : Option (St) :=
bd (ld u 106 101 x1_) fun v8 =>
bd (fX12_literalOut (v8 + x3_) x2_ u) fun u9 =>
lt (x3_ + 1 : Int32) fun x10 =>
rec 0 x1_ x2_ x10 u9
def fX12_clauseOut_L0 : Nat → Nat → Int32 → Int32 → Int32 → St → Option (St)
  | 0 => fun _ _ _ _ _ => none
  | n + 1 => fun q x1_ x2_ x3_ u => match q with
    | 0 => fX12_clauseOut_L0_0  (fX12_clauseOut_L0  n) x1_ x2_ x3_ u
    | 1 => fX12_clauseOut_L0_1  (fX12_clauseOut_L0  n) x1_ x2_ x3_ u
    | _ => none
def fX12_clauseOut (a0 : Int32) (a1 : Int32) (u : St) : Option (St) :=
lt (0 : Int32) fun x11 =>
fX12_clauseOut_L0 FU 0 a0 a1 x11 u
def fX12_forget (u : St) : Option (St) :=
lt (uI u 100 101 0) fun u1 =>
lt (uI u1 100 103 0) fun u2 =>
lt (uI u2 100 105 0) fun u3 =>
some u3
def fX12_clear (u : St) : Option (Int32 × St) :=
lt (uI u 100 0 0) fun u1 =>
lt (gI u1 100 10 : Int32) fun x2 =>
lt (uI u1 100 10 0) fun u3 =>
lt (uI u3 100 14 0) fun u4 =>
lt (uI u4 100 17 0) fun u5 =>
lt (uI u5 100 3 0) fun u6 =>
lt (uI u6 100 7 0) fun u7 =>
bd (fX12_forget u7) fun u8 =>
some (x2, u8)
def fX12_comes_L0_0 (rec : Nat → Int32 → Int32 → Int32 → Int32 → Int32 → Int32 → Int32 → Int32 → Int32 → St → Option (Int32 × St)) (x1_ : Int32) (x2_ : Int32) (x3_ : Int32) (x4_ : Int32) (x6_ : Int32) (x7_ : Int32) (u : St) : Option (Int32 × St) :=
if x7_ < 0 then
(some (x6_, u))
else
if x7_ = x2_ then
(lt (x7_ + (-1) : Int32) fun x11 =>
rec 0 x1_ x2_ x3_ x4_ x6_ x11 0 0 0 u)
else
lt (gI u 100 89 : Int32) fun x3 =>
lt (uI u 100 89 ((gI u 100 89) + 1)) fun u4 =>
bd (ld u4 106 101 x1_) fun v5 =>
bd (st u4 150 400 x3 (v5 + x7_)) fun u6 =>
bd (st u6 151 400 x3 x4_) fun u7 =>
bd (st u7 152 400 x3 x3_) fun u8 =>
if 0 ≤ x3_ then
(bd (ld u8 153 400 x3_) fun v10 =>
rec 1 x1_ x2_ x3_ x4_ x6_ x7_ x3 x3 (v10 + 1) u8)
else
rec 1 x1_ x2_ x3_ x4_ x6_ x7_ x3 x3 0 u8
def fX12_comes_L0_1 (rec : Nat → Int32 → Int32 → Int32 → Int32 → Int32 → Int32 → Int32 → Int32 → Int32 → St → Option (Int32 × St)) (x1_ : Int32) (x2_ : Int32) (x3_ : Int32) (x4_ : Int32) (x6_ : Int32) (x7_ : Int32) (x8_ : Int32) (s0_ : Int32) (s1_ : Int32) (u : St) : Option (Int32 × St) :=
bd (st u 153 400 s0_ s1_) fun u12 =>
bd (st u12 167 400 x8_ x6_) fun u13 =>
lt (x7_ + (-1) : Int32) fun x14 =>
rec 0 x1_ x2_ x3_ x4_ x8_ x14 0 0 0 u13
def fX12_comes_L0 : Nat → Nat → Int32 → Int32 → Int32 → Int32 → Int32 → Int32 → Int32 → Int32 → Int32 → St → Option (Int32 × St)
  | 0 => fun _ _ _ _ _ _ _ _ _ _ _ => none
  | n + 1 => fun q x1_ x2_ x3_ x4_ x6_ x7_ x8_ s0_ s1_ u => match q with
    | 0 => fX12_comes_L0_0  (fX12_comes_L0  n) x1_ x2_ x3_ x4_ x6_ x7_ u
    | 1 => fX12_comes_L0_1  (fX12_comes_L0  n) x1_ x2_ x3_ x4_ x6_ x7_ x8_ s0_ s1_ u
    | _ => none
def fX12_comes (a0 : Int32) (a1 : Int32) (a2 : Int32) (a3 : Int32) (a4 : Int32) (u : St) : Option (Int32 × St) :=
bd (ld u 107 101 a0) fun v15 =>
lt (v15 - 1 : Int32) fun x16 =>
fX12_comes_L0 FU 0 a0 a1 a2 a3 a4 x16 0 0 0 u
def fX12_count (a0 : Int32) (u : St) : Option (Int32 × St) :=
lt (uI u 100 0 0) fun u1 =>
if a0 = 0 then
(some (gI u1 100 10, u1))
else
if a0 = 1 then
(some (gI u1 100 3, u1))
else
if a0 = 2 then
(some (gI u1 100 7, u1))
else
some ((-2), u1)
def fX12_enter (a0 : Int32) (u : St) : Option (St) :=
lt (gI u 100 120 : Int32) fun x1 =>
lt (uI u 100 120 ((gI u 100 120) + 1)) fun u2 =>
bd (st u2 168 400 x1 a0) fun u3 =>
bd (ld u3 152 400 a0) fun v4 =>
bd (st u3 169 400 x1 v4) fun u5 =>
bd (st u5 170 400 x1 0) fun u6 =>
bd (st u6 171 400 x1 0) fun u7 =>
bd (st u7 172 400 x1 (gI u7 100 93)) fun u8 =>
bd (st u8 173 400 x1 (gI u8 100 92)) fun u9 =>
bd (st u9 174 400 x1 (gI u9 100 89)) fun u10 =>
bd (st u10 175 400 x1 (gI u10 100 110)) fun u11 =>
bd (st u11 176 400 x1 (gI u11 100 105)) fun u12 =>
some u12
def fX12_mayStep (u : St) : Option (Int32 × St) :=
if (gI u 100 101) = (gI u 100 102) then
(lt (uI u 100 99 1) fun u3 =>
some (0, u3))
else
lt (uI u 100 101 ((gI u 100 101) + 1)) fun u2 =>
some (1, u2)
def fX12_newVariables_L0_0 (rec : Nat → Int32 → Int32 → St → Option (St)) (x1_ : Int32) (x2_ : Int32) (u : St) : Option (St) :=
if x1_ ≤ x2_ then
(lt (uI u 100 92 ((gI u 100 92) + x1_)) fun u2 =>
some u2)
else
bd (st u 154 300 ((gI u 100 92) + x2_) (-1)) fun u3 =>
lt (x2_ + 1 : Int32) fun x4 =>
rec 0 x1_ x4 u3
def fX12_newVariables_L0 : Nat → Nat → Int32 → Int32 → St → Option (St)
  | 0 => fun _ _ _ _ => none
  | n + 1 => fun q x1_ x2_ u => match q with
    | 0 => fX12_newVariables_L0_0  (fX12_newVariables_L0  n) x1_ x2_ u
    | _ => none
def fX12_newVariables (a0 : Int32) (u : St) : Option (St) :=
lt (0 : Int32) fun x5 =>
fX12_newVariables_L0 FU 0 a0 x5 u
def fX12_unifyAll_L0_0 (rec : Nat → Int32 → Int32 → Int32 → Int32 → Int32 → Int32 → Int32 → St → Option (Int32 × St)) (u : St) : Option (Int32 × St) :=
if (gI u 100 111) ≤ 0 then
(some (1, u))
else
lt (uI u 100 111 ((gI u 100 111) - 1)) fun u2 =>
b2 (fX12_counted u2) fun r4 u3 =>
if r4 = 0 then
(some (0, u3))
else
bd (ld u3 161 20100 (gI u3 100 111)) fun v6 =>
bd (ld u3 162 20100 (gI u3 100 111)) fun v7 =>
bd (fX12_follow v6 v7 u3) fun u8 =>
lt (gI u8 100 95 : Int32) fun x9 =>
lt (gI u8 100 96 : Int32) fun x10 =>
bd (ld u8 163 20100 (gI u8 100 111)) fun v11 =>
bd (ld u8 164 20100 (gI u8 100 111)) fun v12 =>
bd (fX12_follow v11 v12 u8) fun u13 =>
lt (gI u13 100 95 : Int32) fun x14 =>
lt (gI u13 100 96 : Int32) fun x15 =>
bd (ld u13 111 20400 x9) fun v16 =>
if 0 ≤ v16 then
(rec 1 x9 x10 x14 x15 0 0 (-1) u13)
else
bd (ld u13 111 20400 x9) fun v18 =>
rec 1 x9 x10 x14 x15 0 0 ((x10 - 1) - v18) u13
def fX12_unifyAll_L0_1 (rec : Nat → Int32 → Int32 → Int32 → Int32 → Int32 → Int32 → Int32 → St → Option (Int32 × St)) (x5_ : Int32) (x6_ : Int32) (x7_ : Int32) (x8_ : Int32) (s0_ : Int32) (u : St) : Option (Int32 × St) :=
bd (ld u 111 20400 x7_) fun v19 =>
if 0 ≤ v19 then
(rec 2 x5_ x6_ x7_ x8_ s0_ 0 (-1) u)
else
bd (ld u 111 20400 x7_) fun v21 =>
rec 2 x5_ x6_ x7_ x8_ s0_ 0 ((x8_ - 1) - v21) u
def fX12_unifyAll_L0_2 (rec : Nat → Int32 → Int32 → Int32 → Int32 → Int32 → Int32 → Int32 → St → Option (Int32 × St)) (x5_ : Int32) (x6_ : Int32) (x7_ : Int32) (x8_ : Int32) (x9_ : Int32) (s0_ : Int32) (u : St) : Option (Int32 × St) :=
if x9_ < 0 then
(rec 3 x5_ x6_ x7_ x8_ x9_ s0_ 0 u)
else
if x9_ = s0_ then
(rec 0 0 0 0 0 0 0 0 u)
else
rec 3 x5_ x6_ x7_ x8_ x9_ s0_ 0 u
def fX12_unifyAll_L0_3 (rec : Nat → Int32 → Int32 → Int32 → Int32 → Int32 → Int32 → Int32 → St → Option (Int32 × St)) (x5_ : Int32) (x6_ : Int32) (x7_ : Int32) (x8_ : Int32) (x9_ : Int32) (x10_ : Int32) (u : St) : Option (Int32 × St) :=
if x9_ < 0 then
(if x10_ < 0 then
(bd (ld u 111 20400 x5_) fun v26 =>
bd (ld u 111 20400 x7_) fun v27 =>
if v26 = v27 then
(rec 4 x5_ x6_ x7_ x8_ x9_ x10_ 0 u)
else
some (0, u))
else
b2 (fX12_bound x10_ x5_ x6_ u) fun r30 u29 =>
if r30 = 0 then
(some (0, u29))
else
rec 4 x5_ x6_ x7_ x8_ x9_ x10_ 0 u29)
else
b2 (fX12_bound x9_ x7_ x8_ u) fun r33 u32 =>
if r33 = 0 then
(some (0, u32))
else
rec 4 x5_ x6_ x7_ x8_ x9_ x10_ 0 u32
def fX12_unifyAll_L0_4 (rec : Nat → Int32 → Int32 → Int32 → Int32 → Int32 → Int32 → Int32 → St → Option (Int32 × St)) (x5_ : Int32) (x6_ : Int32) (x7_ : Int32) (x8_ : Int32) (x9_ : Int32) (x10_ : Int32) (u : St) : Option (Int32 × St) :=
if 0 ≤ x9_ then
(rec 0 0 0 0 0 0 0 0 u)
else
if 0 ≤ x10_ then
(rec 0 0 0 0 0 0 0 0 u)
else
bd (fX12_argumentsNext x5_ x6_ x7_ x8_ u) fun u37 =>
rec 0 0 0 0 0 0 0 0 u37
def fX12_unifyAll_L0 : Nat → Nat → Int32 → Int32 → Int32 → Int32 → Int32 → Int32 → Int32 → St → Option (Int32 × St)
  | 0 => fun _ _ _ _ _ _ _ _ _ => none
  | n + 1 => fun q x5_ x6_ x7_ x8_ x9_ x10_ s0_ u => match q with
    | 0 => fX12_unifyAll_L0_0  (fX12_unifyAll_L0  n)  u
    | 1 => fX12_unifyAll_L0_1  (fX12_unifyAll_L0  n) x5_ x6_ x7_ x8_ s0_ u
    | 2 => fX12_unifyAll_L0_2  (fX12_unifyAll_L0  n) x5_ x6_ x7_ x8_ x9_ s0_ u
    | 3 => fX12_unifyAll_L0_3  (fX12_unifyAll_L0  n) x5_ x6_ x7_ x8_ x9_ x10_ u
    | 4 => fX12_unifyAll_L0_4  (fX12_unifyAll_L0  n) x5_ x6_ x7_ x8_ x9_ x10_ u
    | _ => none
def fX12_unifyAll (a0 : Int32) (a1 : Int32) (a2 : Int32) (a3 : Int32) (u : St) : Option (Int32 × St) :=
lt (uI u 100 111 0) fun u38 =>
bd (fX12_argumentsNext a0 a1 a2 a3 u38) fun u39 =>
fX12_unifyAll_L0 FU 0 0 0 0 0 0 0 0 u39
def fX12_tooMuch_j43 (u : St) : Option (Int32 × St) :=
lt (uI u 100 98 1) fun u1 =>
bd (zb (gI u1 100 98)) fun z2 =>
some (gI u1 100 98, u1)
def fX12_tooMuch (a0 : Int32) (u : St) : Option (Int32 × St) :=
bd (ld u 107 101 a0) fun v3 =>
lt (uI u 100 110 ((gI u 100 110) + v3)) fun u4 =>
if (gI u4 100 98) = 0 then
(if 150 < (gI u4 100 110) then
(fX12_tooMuch_j43 u4)
else
if (gI u4 100 92) ≤ 200 then
(lt (uI u4 100 98 0) fun u8 =>
bd (zb (gI u8 100 98)) fun z9 =>
some (gI u8 100 98, u8))
else
fX12_tooMuch_j43 u4)
else
fX12_tooMuch_j43 u4
def fX12_moved (a0 : Int32) (a1 : Int32) (a2 : Int32) (a3 : Int32) (u : St) : Option (St) :=
bd (st u 157 400 (gI u 100 105) a0) fun u1 =>
bd (st u1 158 400 (gI u1 100 105) a1) fun u2 =>
bd (st u2 159 400 (gI u2 100 105) a2) fun u3 =>
bd (st u3 160 400 (gI u3 100 105) a3) fun u4 =>
lt (uI u4 100 105 ((gI u4 100 105) + 1)) fun u5 =>
some u5
def fX12_extendsBy (a0 : Int32) (a1 : Int32) (a2 : Int32) (u : St) : Option (Int32 × St) :=
b2 (fX12_mayStep u) fun r2 u1 =>
if r2 = 0 then
(some (0, u1))
else
lt (gI u1 100 92 : Int32) fun x4 =>
lt (uI u1 100 97 0) fun u5 =>
bd (ld u5 108 101 a1) fun v6 =>
bd (fX12_newVariables v6 u5) fun u7 =>
bd (ld u7 150 400 a0) fun v8 =>
bd (ld u7 110 1300 v8) fun v9 =>
bd (ld u7 151 400 a0) fun v10 =>
bd (ld u7 106 101 a1) fun v11 =>
bd (ld u7 110 1300 (v11 + a2)) fun v12 =>
b2 (fX12_unifyAll v9 v10 v12 x4 u7) fun r14 u13 =>
if r14 = 0 then
(some (0, u13))
else
b2 (fX12_tooMuch a1 u13) fun r17 u16 =>
if r17 = 0 then
(bd (fX12_moved 1 a1 a2 a0 u16) fun u19 =>
bd (ld u19 167 400 a0) fun v20 =>
b2 (fX12_comes a1 a2 a0 x4 v20 u19) fun r22 u21 =>
lt (uI u21 100 130 r22) fun u23 =>
some (1, u23))
else
some (0, u16)
def fX12_feed_L0_0 (rec : Nat → Int64 → Int32 → St → Option (Int32 × St)) (x1_ : Int64) (x4_ : Int32) (u : St) : Option (Int32 × St) :=
if x4_ < 0 then
(some (gI u 100 2, u))
else
bd (stB u 101 1500 (gI u 100 2) (((x1_ >>> ((8 * x4_).toInt64 &&& 63)).toInt32).toInt8.toInt32)) fun u2 =>
lt (uI u2 100 2 ((gI u2 100 2) + 1)) fun u3 =>
lt (x4_ + (-1) : Int32) fun x4 =>
rec 0 x1_ x4 u3
def fX12_feed_L0 : Nat → Nat → Int64 → Int32 → St → Option (Int32 × St)
  | 0 => fun _ _ _ _ => none
  | n + 1 => fun q x1_ x4_ u => match q with
    | 0 => fX12_feed_L0_0  (fX12_feed_L0  n) x1_ x4_ u
    | _ => none
def fX12_feed (a0 : Int64) (a1 : Int32) (u : St) : Option (Int32 × St) :=
lt (uI u 100 0 0) fun u5 =>
b2 (fX12_in a1 0 8 u5) fun r7 u6 =>
if r7 = 0 then
(some ((-2), u6))
else
if a1 = 0 then
(lt (uI u6 100 2 0) fun u12 =>
some (0, u12))
else
if ((gI u6 100 2) + a1) ≤ 1500 then
(lt (a1 - 1 : Int32) fun x11 =>
fX12_feed_L0 FU 0 a0 x11 u6)
else
some ((-4), u6)
def fX12_node (a0 : Int32) (a1 : Int32) (a2 : Int32) (u : St) : Option (Int32 × St) :=
lt (gI u 100 28 : Int32) fun x1 =>
lt (uI u 100 28 ((gI u 100 28) + 1)) fun u2 =>
bd (st u2 114 1600 x1 a0) fun u3 =>
bd (st u3 115 1600 x1 a1) fun u4 =>
bd (st u4 116 1600 x1 a2) fun u5 =>
some (x1, u5)
def fX12_joins (a0 : Int32) (u : St) : Option (St) :=
b2 (fX12_got u) fun r2 u1 =>
b2 (fX12_got u1) fun r4 u3 =>
b2 (fX12_node a0 r4 r2 u3) fun r6 u5 =>
bd (fX12_give r6 u5) fun u7 =>
some u7
def fX12_must (a0 : Int32) (u : St) : Option (Int32 × St) :=
b2 (fX12_look u) fun r2 u1 =>
if r2 = a0 then
(bd (fX12_take u1) fun u4 =>
some (1, u4))
else
bd (fX12_fail 2 (gI u1 100 26) u1) fun u5 =>
some (0, u5)
def fX12_readAtom_L0_0 (rec : Nat → Int32 → St → Option (St)) (x1_ : Int32) (u : St) : Option (St) :=
if (gI u 100 21) = 0 then
(if (gI u 100 43) ≤ 0 then
(some u)
else
lt ((gI u 100 43) - 1 : Int32) fun x3 =>
if x1_ = 0 then
(b2 (fX12_beginTerm u) fun r26 u25 =>
rec 0 r26 u25)
else
bd (ld u 125 40 x3) fun v5 =>
bd (st u 125 40 x3 (v5 + 1)) fun u6 =>
b2 (fX12_look u6) fun r8 u7 =>
if r8 = 5 then
(bd (fX12_take u7) fun u18 =>
bd (ld u18 125 40 x3) fun v19 =>
if v19 = 5 then
(bd (ld u18 124 40 x3) fun v23 =>
bd (fX12_fail 4 v23 u18) fun u24 =>
some u24)
else
b2 (fX12_beginTerm u18) fun r22 u21 =>
rec 0 r22 u21)
else
lt (uI u7 100 37 ((gI u7 100 37) - 1)) fun u10 =>
b2 (fX12_must 4 u10) fun r12 u11 =>
lt (uI u11 100 43 ((gI u11 100 43) - 1)) fun u13 =>
bd (ld u13 123 40 x3) fun v14 =>
bd (ld u13 124 40 x3) fun v15 =>
bd (ld u13 125 40 x3) fun v16 =>
bd (fX12_endName v14 v15 v16 u13) fun u17 =>
rec 0 x1_ u17)
else
some u
def fX12_readAtom_L0 : Nat → Nat → Int32 → St → Option (St)
  | 0 => fun _ _ _ => none
  | n + 1 => fun q x1_ u => match q with
    | 0 => fX12_readAtom_L0_0  (fX12_readAtom_L0  n) x1_ u
    | _ => none
def fX12_readAtom (u : St) : Option (St) :=
lt (uI u 100 43 0) fun u27 =>
b2 (fX12_beginTerm u27) fun r29 u28 =>
fX12_readAtom_L0 FU 0 r29 u28
def fX12_unary_j47 (x1_ : Int32) (u : St) : Option (St) :=
b2 (fX12_opens u) fun r2 u1 =>
if r2 = 0 then
(some u1)
else
b2 (fX12_look u1) fun r5 u4 =>
lt (gJ u4 100 27 : Int64) fun x6 =>
b2 (fX12_must 2 u4) fun r8 u7 =>
if r8 = 0 then
(some u7)
else
b2 (fX12_must 7 u7) fun r11 u10 =>
if r11 = 0 then
(some u10)
else
b2 (fX12_node x1_ 0 0 u10) fun r14 u13 =>
bd (stJ u13 117 1600 r14 x6) fun u15 =>
bd (fX12_push 15 r14 u15) fun u16 =>
bd (fX12_push 13 0 u16) fun u17 =>
some u17
def fX12_unary (u : St) : Option (St) :=
b2 (fX12_look u) fun r19 u18 =>
if r19 = 8 then
(b2 (fX12_opens u18) fun r37 u36 =>
if r37 = 0 then
(some u36)
else
bd (fX12_push 14 0 u36) fun u39 =>
bd (fX12_push 13 0 u39) fun u40 =>
some u40)
else
if r19 = 11 then
(fX12_unary_j47 r19 u18)
else
if r19 = 12 then
(fX12_unary_j47 r19 u18)
else
if r19 = 3 then
(b2 (fX12_opens u18) fun r32 u31 =>
if r32 = 0 then
(some u31)
else
bd (fX12_push 16 0 u31) fun u34 =>
bd (fX12_push 1 0 u34) fun u35 =>
some u35)
else
if r19 = 1 then
(lt (gI u18 100 33 : Int32) fun x26 =>
bd (fX12_readAtom u18) fun u27 =>
b2 (fX12_node 15 x26 (gI u27 100 33) u27) fun r29 u28 =>
bd (fX12_give r29 u28) fun u30 =>
some u30)
else
bd (fX12_fail 2 (gI u18 100 26) u18) fun u25 =>
some u25
def fX12_readTask_j422 (u : St) : Option (St) :=
some u
def fX12_readTask (a0 : Int32) (a1 : Int32) (u : St) : Option (St) :=
if a0 = 1 then
(bd (fX12_push 2 0 u) fun u2 =>
bd (fX12_push 4 0 u2) fun u3 =>
fX12_readTask_j422 u3)
else
if a0 = 2 then
(b2 (fX12_look u) fun r6 u5 =>
if r6 = 14 then
(b2 (fX12_opens u5) fun r9 u8 =>
if r9 = 0 then
(fX12_readTask_j422 u8)
else
bd (fX12_push 3 0 u8) fun u11 =>
bd (fX12_push 4 0 u11) fun u12 =>
fX12_readTask_j422 u12)
else
fX12_readTask_j422 u5)
else
if a0 = 3 then
(lt (uI u 100 37 ((gI u 100 37) - 1)) fun u14 =>
bd (fX12_joins 14 u14) fun u15 =>
bd (fX12_push 2 0 u15) fun u16 =>
fX12_readTask_j422 u16)
else
if a0 = 4 then
(bd (fX12_push 5 0 u) fun u18 =>
bd (fX12_push 7 0 u18) fun u19 =>
fX12_readTask_j422 u19)
else
if a0 = 5 then
(b2 (fX12_look u) fun r22 u21 =>
if r22 = 13 then
(b2 (fX12_opens u21) fun r25 u24 =>
if r25 = 0 then
(fX12_readTask_j422 u24)
else
bd (fX12_push 6 0 u24) fun u27 =>
bd (fX12_push 4 0 u27) fun u28 =>
fX12_readTask_j422 u28)
else
fX12_readTask_j422 u21)
else
if a0 = 6 then
(lt (uI u 100 37 ((gI u 100 37) - 1)) fun u30 =>
bd (fX12_joins 13 u30) fun u31 =>
fX12_readTask_j422 u31)
else
if a0 = 7 then
(bd (fX12_push 8 0 u) fun u33 =>
bd (fX12_push 10 0 u33) fun u34 =>
fX12_readTask_j422 u34)
else
if a0 = 8 then
(b2 (fX12_look u) fun r37 u36 =>
if r37 = 10 then
(bd (fX12_take u36) fun u39 =>
bd (fX12_push 9 0 u39) fun u40 =>
bd (fX12_push 10 0 u40) fun u41 =>
fX12_readTask_j422 u41)
else
fX12_readTask_j422 u36)
else
if a0 = 9 then
(bd (fX12_joins 10 u) fun u43 =>
bd (fX12_push 8 0 u43) fun u44 =>
fX12_readTask_j422 u44)
else
if a0 = 10 then
(bd (fX12_push 11 0 u) fun u46 =>
bd (fX12_push 13 0 u46) fun u47 =>
fX12_readTask_j422 u47)
else
if a0 = 11 then
(b2 (fX12_look u) fun r50 u49 =>
if r50 = 9 then
(bd (fX12_take u49) fun u52 =>
bd (fX12_push 12 0 u52) fun u53 =>
bd (fX12_push 13 0 u53) fun u54 =>
fX12_readTask_j422 u54)
else
fX12_readTask_j422 u49)
else
if a0 = 12 then
(bd (fX12_joins 9 u) fun u56 =>
bd (fX12_push 11 0 u56) fun u57 =>
fX12_readTask_j422 u57)
else
if a0 = 13 then
(bd (fX12_unary u) fun u59 =>
fX12_readTask_j422 u59)
else
if a0 = 14 then
(lt (uI u 100 37 ((gI u 100 37) - 1)) fun u61 =>
b2 (fX12_got u61) fun r63 u62 =>
b2 (fX12_node 8 r63 0 u62) fun r65 u64 =>
bd (fX12_give r65 u64) fun u66 =>
fX12_readTask_j422 u66)
else
if a0 = 15 then
(lt (uI u 100 37 ((gI u 100 37) - 1)) fun u68 =>
b2 (fX12_got u68) fun r70 u69 =>
bd (st u69 115 1600 a1 r70) fun u71 =>
bd (fX12_give a1 u71) fun u72 =>
fX12_readTask_j422 u72)
else
lt (uI u 100 37 ((gI u 100 37) - 1)) fun u73 =>
b2 (fX12_must 4 u73) fun r75 u74 =>
fX12_readTask_j422 u74
def fX12_formula_j65 (u : St) : Option (Int32 × St) :=
if (gI u 100 21) ≤ 0 then
(b2 (fX12_got u) fun r3 u2 =>
some (r3, u2))
else
some (0, u)
def fX12_formula_L0_0 (rec : Nat → St → Option (Int32 × St)) (u : St) : Option (Int32 × St) :=
if (gI u 100 38) ≤ 0 then
(fX12_formula_j65 u)
else
if (gI u 100 21) = 0 then
(lt (uI u 100 38 ((gI u 100 38) - 1)) fun u6 =>
bd (ld u6 120 6000 (gI u6 100 38)) fun v7 =>
bd (ld u6 121 6000 (gI u6 100 38)) fun v8 =>
bd (fX12_readTask v7 v8 u6) fun u9 =>
rec 0 u9)
else
fX12_formula_j65 u
def fX12_formula_L0 : Nat → Nat → St → Option (Int32 × St)
  | 0 => fun _  _ => none
  | n + 1 => fun q  u => match q with
    | 0 => fX12_formula_L0_0  (fX12_formula_L0  n)  u
    | _ => none
def fX12_formula (u : St) : Option (Int32 × St) :=
lt (uI u 100 38 0) fun u10 =>
lt (uI u10 100 41 0) fun u11 =>
bd (fX12_push 1 0 u11) fun u12 =>
fX12_formula_L0 FU 0 u12
def fX12_move (a0 : Int32) (a1 : Int32) (u : St) : Option (Int32 × St) :=
lt (uI u 100 0 0) fun u1 =>
b2 (fX12_in a0 0 ((gI u1 100 105) - 1) u1) fun r3 u2 =>
if r3 = 0 then
(some ((-1), u2))
else
if a1 = 0 then
(bd (ld u2 157 400 a0) fun v6 =>
some (v6, u2))
else
if a1 = 1 then
(bd (ld u2 158 400 a0) fun v8 =>
some (v8, u2))
else
if a1 = 2 then
(bd (ld u2 159 400 a0) fun v10 =>
some (v10, u2))
else
if a1 = 3 then
(bd (ld u2 160 400 a0) fun v12 =>
if 0 ≤ v12 then
(bd (ld u2 160 400 a0) fun v14 =>
bd (ld u2 153 400 v14) fun v15 =>
some (v15, u2))
else
some (0, u2))
else
some ((-2), u2)
def fX12_octet (a0 : Int32) (u : St) : Option (Int32 × St) :=
lt (uI u 100 0 0) fun u1 =>
b2 (fX12_in a0 0 ((gI u1 100 76) - 1) u1) fun r3 u2 =>
if r3 = 0 then
(some ((-1), u2))
else
bd (ld u2 144 4100 a0) fun v5 =>
some (v5 &&& 255, u2)
def fX12_place (u : St) : Option (Int32 × St) :=
lt (uI u 100 0 0) fun u1 =>
if (gI u1 100 21) ≤ 0 then
(some ((-1), u1))
else
some (gI u1 100 22, u1)
def fX12_predicate (a0 : Int32) (u : St) : Option (Int32 × St) :=
bd (ld u 110 1300 a0) fun v1 =>
bd (ld u 111 20400 v1) fun v2 =>
some (v2, u)
def fX12_read_L0_0 (rec : Nat → Int32 → Int32 → Int32 → Int32 → Int32 → Int32 → Int32 → Int32 → St → Option (Int32 × St)) (x1_ : Int32) (x2_ : Int32) (x3_ : Int32) (x4_ : Int32) (x5_ : Int32) (u : St) : Option (Int32 × St) :=
b2 (fX12_look u) fun r2 u1 =>
if r2 ≤ 0 then
(if (gI u1 100 21) ≤ 0 then
(bd (fX12_forget u1) fun u5 =>
some (gI u5 100 10, u5))
else
lt (uI u1 100 3 x1_) fun u6 =>
lt (uI u6 100 7 x2_) fun u7 =>
lt (uI u7 100 10 x3_) fun u8 =>
lt (uI u8 100 14 x4_) fun u9 =>
lt (uI u9 100 17 x5_) fun u10 =>
some ((-10) - (gI u10 100 21), u10))
else
lt (gI u1 100 26 : Int32) fun x11 =>
lt (uI u1 100 28 0) fun u12 =>
lt (uI u12 100 33 0) fun u13 =>
lt (uI u13 100 35 0) fun u14 =>
lt (uI u14 100 37 0) fun u15 =>
b2 (fX12_formula u15) fun r17 u16 =>
if (gI u16 100 21) = 0 then
(b2 (fX12_must 6 u16) fun r20 u19 =>
if r20 = 0 then
(rec 1 x1_ x2_ x3_ x4_ x5_ x11 r17 0 u19)
else
rec 1 x1_ x2_ x3_ x4_ x5_ x11 r17 1 u19)
else
rec 1 x1_ x2_ x3_ x4_ x5_ x11 r17 0 u16
def fX12_read_L0_1 (rec : Nat → Int32 → Int32 → Int32 → Int32 → Int32 → Int32 → Int32 → Int32 → St → Option (Int32 × St)) (x1_ : Int32) (x2_ : Int32) (x3_ : Int32) (x4_ : Int32) (x5_ : Int32) (x6_ : Int32) (x7_ : Int32) (s0_ : Int32) (u : St) : Option (Int32 × St) :=
if s0_ = 0 then
(rec 0 x1_ x2_ x3_ x4_ x5_ 0 0 0 u)
else
bd (fX12_become x7_ u) fun u23 =>
if (gI u23 100 47) = 0 then
(rec 0 x1_ x2_ x3_ x4_ x5_ 0 0 0 u23)
else
bd (fX12_fail 5 x6_ u23) fun u25 =>
rec 0 x1_ x2_ x3_ x4_ x5_ 0 0 0 u25
def fX12_read_L0 : Nat → Nat → Int32 → Int32 → Int32 → Int32 → Int32 → Int32 → Int32 → Int32 → St → Option (Int32 × St)
  | 0 => fun _ _ _ _ _ _ _ _ _ _ => none
  | n + 1 => fun q x1_ x2_ x3_ x4_ x5_ x6_ x7_ s0_ u => match q with
    | 0 => fX12_read_L0_0  (fX12_read_L0  n) x1_ x2_ x3_ x4_ x5_ u
    | 1 => fX12_read_L0_1  (fX12_read_L0  n) x1_ x2_ x3_ x4_ x5_ x6_ x7_ s0_ u
    | _ => none
def fX12_read (u : St) : Option (Int32 × St) :=
lt (uI u 100 0 0) fun u26 =>
lt (gI u26 100 3 : Int32) fun x27 =>
lt (gI u26 100 7 : Int32) fun x28 =>
lt (gI u26 100 10 : Int32) fun x29 =>
lt (gI u26 100 14 : Int32) fun x30 =>
lt (gI u26 100 17 : Int32) fun x31 =>
lt (uI u26 100 21 0) fun u32 =>
lt (uI u32 100 22 (-1)) fun u33 =>
lt (uI u33 100 23 0) fun u34 =>
lt (uI u34 100 24 0) fun u35 =>
fX12_read_L0 FU 0 x27 x28 x29 x30 x31 0 0 0 u35
def fX12_reduces (a0 : Int32) (a1 : Int32) (u : St) : Option (Int32 × St) :=
bd (ld u 150 400 a0) fun v1 =>
bd (ld u 150 400 a1) fun v2 =>
bd (ld u 109 1300 v2) fun v3 =>
bd (ld u 109 1300 v1) fun v4 =>
if v3 = v4 then
(some (0, u))
else
b2 (fX12_predicate v2 u) fun r7 u6 =>
b2 (fX12_predicate v1 u6) fun r9 u8 =>
if r7 = r9 then
(b2 (fX12_mayStep u8) fun r12 u11 =>
if r12 = 0 then
(some (0, u11))
else
lt (uI u11 100 97 0) fun u14 =>
bd (ld u14 110 1300 v1) fun v15 =>
bd (ld u14 151 400 a0) fun v16 =>
bd (ld u14 110 1300 v2) fun v17 =>
bd (ld u14 151 400 a1) fun v18 =>
b2 (fX12_unifyAll v15 v16 v17 v18 u14) fun r20 u19 =>
if r20 = 0 then
(some (0, u19))
else
bd (ld u19 153 400 a1) fun v22 =>
bd (fX12_moved 2 (-1) v22 a0 u19) fun u23 =>
bd (ld u23 167 400 a0) fun v24 =>
lt (uI u23 100 130 v24) fun u25 =>
some (1, u25))
else
some (0, u8)
def fX12_repeats_L0_0 (rec : Nat → Int32 → Int32 → Int32 → St → Option (Int32 × St)) (x1_ : Int32) (x2_ : Int32) (x3_ : Int32) (u : St) : Option (Int32 × St) :=
if x3_ < 0 then
(bd (zb (gI u 100 98)) fun z2 =>
some (gI u 100 98, u))
else
if (gI u 100 98) = 0 then
(bd (ld u 150 400 x3_) fun v5 =>
bd (ld u 109 1300 v5) fun v6 =>
bd (ld u 109 1300 x2_) fun v7 =>
if v6 = v7 then
(b2 (fX12_predicate v5 u) fun r10 u9 =>
b2 (fX12_predicate x2_ u9) fun r12 u11 =>
if r10 = r12 then
(bd (ld u11 110 1300 x2_) fun v14 =>
bd (ld u11 151 400 x1_) fun v15 =>
bd (ld u11 110 1300 v5) fun v16 =>
bd (ld u11 151 400 x3_) fun v17 =>
b2 (fX12_alike v14 v15 v16 v17 u11) fun r19 u18 =>
if r19 = 0 then
(rec 1 x1_ x2_ x3_ u18)
else
some (1, u18))
else
rec 1 x1_ x2_ x3_ u11)
else
rec 1 x1_ x2_ x3_ u)
else
bd (zb (gI u 100 98)) fun z4 =>
some (gI u 100 98, u)
def fX12_repeats_L0_1 (rec : Nat → Int32 → Int32 → Int32 → St → Option (Int32 × St)) (x1_ : Int32) (x2_ : Int32) (x3_ : Int32) (u : St) : Option (Int32 × St) :=
bd (ld u 152 400 x3_) fun v21 =>
rec 0 x1_ x2_ v21 u
def fX12_repeats_L0 : Nat → Nat → Int32 → Int32 → Int32 → St → Option (Int32 × St)
  | 0 => fun _ _ _ _ _ => none
  | n + 1 => fun q x1_ x2_ x3_ u => match q with
    | 0 => fX12_repeats_L0_0  (fX12_repeats_L0  n) x1_ x2_ x3_ u
    | 1 => fX12_repeats_L0_1  (fX12_repeats_L0  n) x1_ x2_ x3_ u
    | _ => none
def fX12_repeats (a0 : Int32) (u : St) : Option (Int32 × St) :=
lt (uI u 100 97 0) fun u22 =>
bd (ld u22 150 400 a0) fun v23 =>
bd (ld u22 152 400 a0) fun v24 =>
fX12_repeats_L0 FU 0 a0 v23 v24 u22
def fX12_takeBack_L0_0 (rec : Nat → Int32 → St → Option (St)) (x1_ : Int32) (u : St) : Option (St) :=
if (gI u 100 93) ≤ x1_ then
(some u)
else
lt (uI u 100 93 ((gI u 100 93) - 1)) fun u2 =>
bd (ld u2 156 400 (gI u2 100 93)) fun v3 =>
bd (st u2 154 300 v3 (-1)) fun u4 =>
rec 0 x1_ u4
def fX12_takeBack_L0 : Nat → Nat → Int32 → St → Option (St)
  | 0 => fun _ _ _ => none
  | n + 1 => fun q x1_ u => match q with
    | 0 => fX12_takeBack_L0_0  (fX12_takeBack_L0  n) x1_ u
    | _ => none
def fX12_takeBack (a0 : Int32) (u : St) : Option (St) :=
fX12_takeBack_L0 FU 0 a0 u
def fX12_restore (a0 : Int32) (u : St) : Option (St) :=
bd (ld u 172 400 a0) fun v1 =>
bd (fX12_takeBack v1 u) fun u2 =>
bd (ld u2 173 400 a0) fun v3 =>
lt (uI u2 100 92 v3) fun u4 =>
bd (ld u4 174 400 a0) fun v5 =>
lt (uI u4 100 89 v5) fun u6 =>
bd (ld u6 175 400 a0) fun v7 =>
lt (uI u6 100 110 v7) fun u8 =>
bd (ld u8 176 400 a0) fun v9 =>
lt (uI u8 100 105 v9) fun u10 =>
some u10
def fX12_tryNext_L0_0 (rec : Nat → Int32 → Int32 → Int32 → St → Option (Int32 × St)) (x1_ : Int32) (x2_ : Int32) (x3_ : Int32) (u : St) : Option (Int32 × St) :=
bd (ld u 170 400 x1_) fun v1 =>
if (gI u 100 10) ≤ v1 then
(lt (uI u 100 120 ((gI u 100 120) - 1)) fun u3 =>
some (0, u3))
else
bd (ld u 170 400 x1_) fun v4 =>
bd (ld u 171 400 x1_) fun v5 =>
bd (ld u 107 101 v4) fun v6 =>
if v5 = v6 then
(bd (ld u 170 400 x1_) fun v30 =>
bd (st u 170 400 x1_ (v30 + 1)) fun u31 =>
bd (st u31 171 400 x1_ 0) fun u32 =>
rec 0 x1_ x2_ x3_ u32)
else
bd (ld u 171 400 x1_) fun v8 =>
bd (st u 171 400 x1_ (v8 + 1)) fun u9 =>
bd (ld u9 106 101 v4) fun v10 =>
lt (v10 + v5 : Int32) fun x11 =>
bd (ld u9 109 1300 x11) fun v12 =>
bd (ld u9 109 1300 x3_) fun v13 =>
if v12 = v13 then
(rec 0 x1_ x2_ x3_ u9)
else
b2 (fX12_predicate x11 u9) fun r16 u15 =>
b2 (fX12_predicate x3_ u15) fun r18 u17 =>
if r16 = r18 then
(bd (ld u17 153 400 x2_) fun v20 =>
if v20 < (gI u17 100 104) then
(b2 (fX12_extendsBy x2_ v4 v5 u17) fun r23 u22 =>
if r23 = 0 then
(if (gI u22 100 98) = 0 then
(if (gI u22 100 99) = 0 then
(bd (fX12_restore x1_ u22) fun u27 =>
rec 0 x1_ x2_ x3_ u27)
else
some (0, u22))
else
some (0, u22))
else
some (1, u22))
else
lt (uI u17 100 100 1) fun u28 =>
lt (uI u28 100 120 ((gI u28 100 120) - 1)) fun u29 =>
some (0, u29))
else
rec 0 x1_ x2_ x3_ u17
def fX12_tryNext_L0 : Nat → Nat → Int32 → Int32 → Int32 → St → Option (Int32 × St)
  | 0 => fun _ _ _ _ _ => none
  | n + 1 => fun q x1_ x2_ x3_ u => match q with
    | 0 => fX12_tryNext_L0_0  (fX12_tryNext_L0  n) x1_ x2_ x3_ u
    | _ => none
def fX12_tryNext_L1_0 (rec : Nat → Int32 → Int32 → St → Option (Int32 × St)) (x1_ : Int32) (x2_ : Int32) (u : St) : Option (Int32 × St) :=
bd (ld u 169 400 x1_) fun v33 =>
if v33 < 0 then
(bd (ld u 150 400 x2_) fun v35 =>
fX12_tryNext_L0 FU 0 x1_ x2_ v35 u)
else
bd (ld u 169 400 x1_) fun v36 =>
bd (ld u 152 400 v36) fun v37 =>
bd (st u 169 400 x1_ v37) fun u38 =>
b2 (fX12_reduces x2_ v36 u38) fun r40 u39 =>
if r40 = 0 then
(if (gI u39 100 98) = 0 then
(if (gI u39 100 99) = 0 then
(bd (fX12_restore x1_ u39) fun u44 =>
rec 0 x1_ x2_ u44)
else
some (0, u39))
else
some (0, u39))
else
some (1, u39)
def fX12_tryNext_L1 : Nat → Nat → Int32 → Int32 → St → Option (Int32 × St)
  | 0 => fun _ _ _ _ => none
  | n + 1 => fun q x1_ x2_ u => match q with
    | 0 => fX12_tryNext_L1_0  (fX12_tryNext_L1  n) x1_ x2_ u
    | _ => none
def fX12_tryNext (u : St) : Option (Int32 × St) :=
lt ((gI u 100 120) - 1 : Int32) fun x45 =>
bd (fX12_restore x45 u) fun u46 =>
bd (ld u46 168 400 x45) fun v47 =>
fX12_tryNext_L1 FU 0 x45 v47 u46
def fX12_solve_L0_0 (rec : Nat → Int32 → Int32 → St → Option (Int32 × St)) (x2_ : Int32) (u : St) : Option (Int32 × St) :=
if x2_ < 0 then
(some (1, u))
else
lt (0 : Int32) fun x2 =>
b2 (fX12_repeats x2_ u) fun r4 u3 =>
if r4 = 0 then
(bd (fX12_enter x2_ u3) fun u6 =>
b2 (fX12_tryNext u6) fun r8 u7 =>
rec 1 0 r8 u7)
else
rec 1 0 x2 u3
def fX12_solve_L0_1 (rec : Nat → Int32 → Int32 → St → Option (Int32 × St)) (x3_ : Int32) (u : St) : Option (Int32 × St) :=
if x3_ = 0 then
(if (gI u 100 120) ≤ 0 then
(rec 2 0 x3_ u)
else
if (gI u 100 98) = 0 then
(if (gI u 100 99) = 0 then
(b2 (fX12_tryNext u) fun r14 u13 =>
rec 1 0 r14 u13)
else
rec 2 0 x3_ u)
else
rec 2 0 x3_ u)
else
rec 2 0 x3_ u
def fX12_solve_L0_2 (rec : Nat → Int32 → Int32 → St → Option (Int32 × St)) (x3_ : Int32) (u : St) : Option (Int32 × St) :=
if x3_ = 0 then
(some (0, u))
else
if (gI u 100 98) = 0 then
(if (gI u 100 99) = 0 then
(lt (gI u 100 130 : Int32) fun x18 =>
rec 0 x18 0 u)
else
some (0, u))
else
some (0, u)
def fX12_solve_L0 : Nat → Nat → Int32 → Int32 → St → Option (Int32 × St)
  | 0 => fun _ _ _ _ => none
  | n + 1 => fun q x2_ x3_ u => match q with
    | 0 => fX12_solve_L0_0  (fX12_solve_L0  n) x2_ u
    | 1 => fX12_solve_L0_1  (fX12_solve_L0  n) x3_ u
    | 2 => fX12_solve_L0_2  (fX12_solve_L0  n) x3_ u
    | _ => none
def fX12_solve (a0 : Int32) (u : St) : Option (Int32 × St) :=
lt (uI u 100 120 0) fun u19 =>
fX12_solve_L0 FU 0 a0 0 u19
def fX12_startWith (a0 : Int32) (u : St) : Option (Int32 × St) :=
b2 (fX12_mayStep u) fun r2 u1 =>
if r2 = 0 then
(some (0, u1))
else
lt (uI u1 100 93 0) fun u4 =>
lt (uI u4 100 92 0) fun u5 =>
lt (uI u5 100 89 0) fun u6 =>
lt (uI u6 100 110 0) fun u7 =>
lt (uI u7 100 105 0) fun u8 =>
bd (ld u8 108 101 a0) fun v9 =>
bd (fX12_newVariables v9 u8) fun u10 =>
b2 (fX12_tooMuch a0 u10) fun r12 u11 =>
if r12 = 0 then
(bd (fX12_moved 0 a0 (-1) (-1) u11) fun u14 =>
b2 (fX12_comes a0 (-1) (-1) 0 (-1) u14) fun r16 u15 =>
b2 (fX12_solve r16 u15) fun r18 u17 =>
bd (zb r18) fun z19 =>
some (r18, u17))
else
some (0, u11)
def fX12_search_j166 (u : St) : Option (Int32 × St) :=
lt (uI u 100 105 0) fun u1 =>
if (gI u1 100 98) = 0 then
(some ((-6), u1))
else
some ((-7), u1)
def fX12_search_L0_0 (rec : Nat → Int32 → Int32 → Int32 → Int32 → St → Option (Int32 × St)) (x1_ : Int32) (u : St) : Option (Int32 × St) :=
if x1_ < (gI u 100 104) then
(some ((-5), u))
else
lt (uI u 100 103 (gI u 100 104)) fun u4 =>
lt (uI u4 100 100 0) fun u5 =>
lt (0 : Int32) fun x6 =>
rec 1 x1_ x6 0 0 u5
def fX12_search_L0_1 (rec : Nat → Int32 → Int32 → Int32 → Int32 → St → Option (Int32 × St)) (x1_ : Int32) (x3_ : Int32) (u : St) : Option (Int32 × St) :=
if (gI u 100 10) ≤ x3_ then
(lt (uI u 100 105 0) fun u8 =>
if (gI u8 100 100) = 0 then
(some (0, u8))
else
lt (uI u8 100 104 ((gI u8 100 104) + 1)) fun u10 =>
rec 0 x1_ 0 0 0 u10)
else
lt (1 : Int32) fun x11 =>
lt (0 : Int32) fun x12 =>
rec 2 x1_ x3_ x11 x12 u
def fX12_search_L0_2 (rec : Nat → Int32 → Int32 → Int32 → Int32 → St → Option (Int32 × St)) (x1_ : Int32) (x3_ : Int32) (x4_ : Int32) (x5_ : Int32) (u : St) : Option (Int32 × St) :=
bd (ld u 107 101 x3_) fun v13 =>
if v13 ≤ x5_ then
(if x4_ = 0 then
(rec 3 x1_ x3_ 0 0 u)
else
b2 (fX12_startWith x3_ u) fun r17 u16 =>
if r17 = 0 then
(rec 3 x1_ x3_ 0 0 u16)
else
some (1, u16))
else
if x4_ = 0 then
(lt (0 : Int32) fun x20 =>
lt (x5_ + 1 : Int32) fun x21 =>
rec 2 x1_ x3_ x20 x21 u)
else
bd (ld u 106 101 x3_) fun v22 =>
bd (ld u 109 1300 (v22 + x5_)) fun v23 =>
if v23 = 0 then
(lt (1 : Int32) fun x27 =>
lt (x5_ + 1 : Int32) fun x28 =>
rec 2 x1_ x3_ x27 x28 u)
else
lt (0 : Int32) fun x25 =>
lt (x5_ + 1 : Int32) fun x26 =>
rec 2 x1_ x3_ x25 x26 u
def fX12_search_L0_3 (rec : Nat → Int32 → Int32 → Int32 → Int32 → St → Option (Int32 × St)) (x1_ : Int32) (x3_ : Int32) (u : St) : Option (Int32 × St) :=
if (gI u 100 98) = 0 then
(if (gI u 100 99) = 0 then
(lt (x3_ + 1 : Int32) fun x31 =>
rec 1 x1_ x31 0 0 u)
else
fX12_search_j166 u)
else
fX12_search_j166 u
def fX12_search_L0 : Nat → Nat → Int32 → Int32 → Int32 → Int32 → St → Option (Int32 × St)
  | 0 => fun _ _ _ _ _ _ => none
  | n + 1 => fun q x1_ x3_ x4_ x5_ u => match q with
    | 0 => fX12_search_L0_0  (fX12_search_L0  n) x1_ u
    | 1 => fX12_search_L0_1  (fX12_search_L0  n) x1_ x3_ u
    | 2 => fX12_search_L0_2  (fX12_search_L0  n) x1_ x3_ x4_ x5_ u
    | 3 => fX12_search_L0_3  (fX12_search_L0  n) x1_ x3_ u
    | _ => none
def fX12_search (a0 : Int32) (a1 : Int32) (u : St) : Option (Int32 × St) :=
lt (uI u 100 0 0) fun u32 =>
b2 (fX12_in a0 1 20 u32) fun r34 u33 =>
if r34 = 0 then
(some ((-2), u33))
else
b2 (fX12_in a1 0 20000 u33) fun r37 u36 =>
if r37 = 0 then
(some ((-2), u36))
else
lt (uI u36 100 101 0) fun u39 =>
lt (uI u39 100 102 a1) fun u40 =>
lt (uI u40 100 98 0) fun u41 =>
lt (uI u41 100 99 0) fun u42 =>
lt (uI u42 100 104 1) fun u43 =>
fX12_search_L0 FU 0 a0 0 0 0 u43
def fX12_written_L0_0 (rec : Nat → Int32 → St → Option (Int32 × St)) (x1_ : Int32) (u : St) : Option (Int32 × St) :=
if (gI u 100 78) ≤ x1_ then
(lt (uI u 100 76 (gI u 100 78)) fun u2 =>
some (gI u2 100 76, u2))
else
bd (ld u 145 4100 x1_) fun v3 =>
bd (stB u 144 4100 x1_ v3) fun u4 =>
lt (x1_ + 1 : Int32) fun x5 =>
rec 0 x5 u4
def fX12_written_L0 : Nat → Nat → Int32 → St → Option (Int32 × St)
  | 0 => fun _ _ _ => none
  | n + 1 => fun q x1_ u => match q with
    | 0 => fX12_written_L0_0  (fX12_written_L0  n) x1_ u
    | _ => none
def fX12_written (u : St) : Option (Int32 × St) :=
lt (0 : Int32) fun x6 =>
fX12_written_L0 FU 0 x6 u
def fX12_show_j80 (u : St) : Option (Int32 × St) :=
if (gI u 100 78) ≤ 4000 then
(b2 (fX12_written u) fun r3 u2 =>
some (r3, u2))
else
some ((-4), u)
def fX12_show (a0 : Int32) (u : St) : Option (Int32 × St) :=
lt (uI u 100 0 0) fun u4 =>
b2 (fX12_in a0 0 ((gI u4 100 105) - 1) u4) fun r6 u5 =>
if r6 = 0 then
(some ((-1), u5))
else
lt (uI u5 100 78 0) fun u8 =>
lt (uI u8 100 79 0) fun u9 =>
bd (ld u9 157 400 a0) fun v10 =>
if v10 = 0 then
(bd (ld u9 158 400 a0) fun v17 =>
bd (fX12_clauseOut v17 0 u9) fun u18 =>
fX12_show_j80 u18)
else
bd (ld u9 160 400 a0) fun v12 =>
bd (ld u9 150 400 v12) fun v13 =>
bd (ld u9 160 400 a0) fun v14 =>
bd (ld u9 151 400 v14) fun v15 =>
bd (fX12_literalOut v13 v15 u9) fun u16 =>
fX12_show_j80 u16
def fX12_told (a0 : Int32) (u : St) : Option (Int32 × St) :=
lt (uI u 100 0 0) fun u1 =>
if a0 = 0 then
(some (gI u1 100 101, u1))
else
if a0 = 1 then
(some (gI u1 100 103, u1))
else
if a0 = 2 then
(some (gI u1 100 105, u1))
else
some ((-2), u1)
def fX12_write (a0 : Int32) (u : St) : Option (Int32 × St) :=
lt (uI u 100 0 0) fun u1 =>
b2 (fX12_in a0 0 ((gI u1 100 10) - 1) u1) fun r3 u2 =>
if r3 = 0 then
(some ((-1), u2))
else
lt (uI u2 100 78 0) fun u5 =>
bd (fX12_clauseOut a0 (-1) u5) fun u6 =>
b2 (fX12_written u6) fun r8 u7 =>
some (r8, u7)
