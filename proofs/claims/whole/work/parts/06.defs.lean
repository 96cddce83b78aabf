-- X0_copyFrom: copyFrom (LDownAmongFences$Air;)V, depth 0
def gX0_copyFrom_2_Ls (k0 : Nat) (k1 : Nat) (j2 : Int32 → Mm → Option Mm) (v2 : Int32) (u : Mm) : Option Mm :=
  if v2 < 8 then
  (gd (ix v2 8) <|
   gd (ix v2 8) <|
   letv (stm u (k0 + 1) (ixn v2) (u (k1 + 1) (ixn v2))) fun (u3 : Mm) =>
   gd (ix v2 8) <|
   gd (ix v2 8) <|
   letv (stm u3 (k0 + 2) (ixn v2) (u3 (k1 + 2) (ixn v2))) fun (u6 : Mm) =>
   letv (v2 + 1) fun (v2_8 : Int32) =>
   j2 v2_8 u6)
  else
  (some u)
def gX0_copyFrom_2_L (k0 : Nat) (k1 : Nat) : Nat → Int32 → Mm → Option Mm
  | 0 => fun _ _ => none
  | n + 1 => gX0_copyFrom_2_Ls k0 k1 (gX0_copyFrom_2_L k0 k1 n)
def gX0_copyFrom_b (k0 : Nat) (k1 : Nat) (u : Mm) : Option Mm :=
  gX0_copyFrom_2_L k0 k1 FU 0 u
def gX0_copyFrom (k0 : Nat) (k1 : Nat) (u : Mm) : Option Mm := gX0_copyFrom_b k0 k1 u
-- X10_isLayer: isLayer (I)Z, depth 0
def gX10_isLayer_b (v0 : Int32) : Option Int32 :=
  if v0 < 0 then
  (some 0)
  else
  (if v0 < 8 then
   (some 1)
   else
   (some 0))
def gX10_isLayer (v0 : Int32) : Option Int32 := gX10_isLayer_b v0
-- X0_sideOf: sideOf (I)I, depth 1
def gX0_sideOf_b (k0 : Nat) (v1 : Int32) (u : Mm) : Option Int32 :=
  (gX10_isLayer v1).bind fun (r1 : Int32) =>
  if r1 = 0 then
  (some 0)
  else
  (gd (ix v1 8) <|
   some (u (k0 + 1) (ixn v1)))
def gX0_sideOf (k0 : Nat) (v1 : Int32) (u : Mm) : Option Int32 := gX0_sideOf_b k0 v1 u
-- X0_aheadOf: aheadOf (I)I, depth 1
def gX0_aheadOf_b (k0 : Nat) (v1 : Int32) (u : Mm) : Option Int32 :=
  (gX10_isLayer v1).bind fun (r1 : Int32) =>
  if r1 = 0 then
  (some 0)
  else
  (gd (ix v1 8) <|
   some (u (k0 + 2) (ixn v1)))
def gX0_aheadOf (k0 : Nat) (v1 : Int32) (u : Mm) : Option Int32 := gX0_aheadOf_b k0 v1 u
-- X0_blow: blow (III)V, depth 1
def gX0_blow_b (k0 : Nat) (v1 : Int32) (v2 : Int32) (v3 : Int32) (u : Mm) : Option Mm :=
  (gX10_isLayer v1).bind fun (r1 : Int32) =>
  if r1 = 0 then
  (some u)
  else
  (gd (ix v1 8) <|
   letv (stm u (k0 + 1) (ixn v1) v2) fun (u3 : Mm) =>
   gd (ix v1 8) <|
   letv (stm u3 (k0 + 2) (ixn v1) v3) fun (u5 : Mm) =>
   some u5)
def gX0_blow (k0 : Nat) (v1 : Int32) (v2 : Int32) (v3 : Int32) (u : Mm) : Option Mm := gX0_blow_b k0 v1 v2 v3 u
-- X0_turnAbout: turnAbout ()V, depth 0
def gX0_turnAbout_2_Ls (k0 : Nat) (j2 : Int32 → Mm → Option Mm) (v1 : Int32) (u : Mm) : Option Mm :=
  if v1 < 8 then
  (gd (ix v1 8) <|
   gd (ix v1 8) <|
   letv (stm u (k0 + 1) (ixn v1) (-(u (k0 + 1) (ixn v1)))) fun (u3 : Mm) =>
   letv (v1 + 1) fun (v1_5 : Int32) =>
   j2 v1_5 u3)
  else
  (some u)
def gX0_turnAbout_2_L (k0 : Nat) : Nat → Int32 → Mm → Option Mm
  | 0 => fun _ _ => none
  | n + 1 => gX0_turnAbout_2_Ls k0 (gX0_turnAbout_2_L k0 n)
def gX0_turnAbout_b (k0 : Nat) (u : Mm) : Option Mm :=
  gX0_turnAbout_2_L k0 FU 0 u
def gX0_turnAbout (k0 : Nat) (u : Mm) : Option Mm := gX0_turnAbout_b k0 u
-- X0_dragOf: dragOf (II)I, depth 1
def gX0_dragOf_b (k0 : Nat) (v1 : Int32) (v2 : Int32) (u : Mm) : Option Int32 :=
  some (imax 0 (((4 * v1) + (3 * ((iabs (u (k0 + 1) (ixn 0))) + (u (k0 + 2) (ixn 0))))) - (2 * v2)))
def gX0_dragOf (k0 : Nat) (v1 : Int32) (v2 : Int32) (u : Mm) : Option Int32 := gX0_dragOf_b k0 v1 v2 u
-- X0_speedTo: speedTo (II)I, depth 2
def gX0_speedTo_b (k0 : Nat) (v1 : Int32) (v2 : Int32) (u : Mm) : Option Int32 :=
  if v1 = 2 then
  ((gX0_aheadOf k0 v2 u).bind fun (r5 : Int32) =>
   some r5)
  else
  (if v1 = 0 then
   ((gX0_sideOf k0 v2 u).bind fun (r4 : Int32) =>
    some r4)
   else
   ((gX0_sideOf k0 v2 u).bind fun (r3 : Int32) =>
    some (-r3)))
def gX0_speedTo (k0 : Nat) (v1 : Int32) (v2 : Int32) (u : Mm) : Option Int32 := gX0_speedTo_b k0 v1 v2 u
-- X0_layerFarthest: layerFarthest (I)I, depth 3
def gX0_layerFarthest_30 (k0 : Nat) (j4 : Int32 → Int32 → Option Int32) (v1 : Int32) (v3 : Int32) (s0 : Int32) (u : Mm) : Option Int32 :=
  letv (v3 + 1) fun (v3_1 : Int32) =>
  j4 s0 v3_1
def gX0_layerFarthest_4_Ls (k0 : Nat) (v1 : Int32) (u : Mm) (j4 : Int32 → Int32 → Option Int32) (v2 : Int32) (v3 : Int32) : Option Int32 :=
  if v3 < 8 then
  ((gX0_speedTo k0 v1 v3 u).bind fun (r2 : Int32) =>
   (gX0_speedTo k0 v1 v2 u).bind fun (r3 : Int32) =>
   if r3 < r2 then
   (gX0_layerFarthest_30 k0 j4 v1 v3 v3 u)
   else
   (gX0_layerFarthest_30 k0 j4 v1 v3 v2 u))
  else
  (some v2)
def gX0_layerFarthest_4_L (k0 : Nat) (v1 : Int32) (u : Mm) : Nat → Int32 → Int32 → Option Int32
  | 0 => fun _ _ => none
  | n + 1 => gX0_layerFarthest_4_Ls k0 v1 u (gX0_layerFarthest_4_L k0 v1 u n)
def gX0_layerFarthest_b (k0 : Nat) (v1 : Int32) (u : Mm) : Option Int32 :=
  gX0_layerFarthest_4_L k0 v1 u FU 0 1
def gX0_layerFarthest (k0 : Nat) (v1 : Int32) (u : Mm) : Option Int32 := gX0_layerFarthest_b k0 v1 u
-- X0_layersFor: layersFor (III)I, depth 0
def gX0_layersFor_23_Ls (k0 : Nat) (j3 : Int32 → Option Int32) (j13 : Int32 → Option Int32) (v1 : Int32) (v2 : Int32) (v3 : Int32) (v4 : Int32) (v5 : Int32) (u : Mm) (j23 : Int32 → Option Int32) (v6 : Int32) : Option Int32 :=
  if v1 < v6 then
  (letv (v5 + 1) fun (v5_2 : Int32) =>
   j13 v5_2)
  else
  (letv (v1 - v6) fun (v7_3 : Int32) =>
   gd (ix v4 8) <|
   gd (ix v5 8) <|
   if ((v6 * (u (k0 + 1) (ixn v4))) + (v7_3 * (u (k0 + 1) (ixn v5)))) = v2 then
   (gd (ix v4 8) <|
    gd (ix v5 8) <|
    if ((v6 * (u (k0 + 2) (ixn v4))) + (v7_3 * (u (k0 + 2) (ixn v5)))) = v3 then
    (some (((10000 * v4) + (1000 * v5)) + v6))
    else
    (letv (v6 + 1) fun (v6_11 : Int32) =>
     j23 v6_11))
   else
   (letv (v6 + 1) fun (v6_7 : Int32) =>
    j23 v6_7))
def gX0_layersFor_23_L (k0 : Nat) (j3 : Int32 → Option Int32) (j13 : Int32 → Option Int32) (v1 : Int32) (v2 : Int32) (v3 : Int32) (v4 : Int32) (v5 : Int32) (u : Mm) : Nat → Int32 → Option Int32
  | 0 => fun _ => none
  | n + 1 => gX0_layersFor_23_Ls k0 j3 j13 v1 v2 v3 v4 v5 u (gX0_layersFor_23_L k0 j3 j13 v1 v2 v3 v4 v5 u n)
def gX0_layersFor_13_Ls (k0 : Nat) (j3 : Int32 → Option Int32) (v1 : Int32) (v2 : Int32) (v3 : Int32) (v4 : Int32) (u : Mm) (j13 : Int32 → Option Int32) (v5 : Int32) : Option Int32 :=
  if v5 < 8 then
  (gX0_layersFor_23_L k0 j3 j13 v1 v2 v3 v4 v5 u FU 0)
  else
  (letv (v4 + 1) fun (v4_2 : Int32) =>
   j3 v4_2)
def gX0_layersFor_13_L (k0 : Nat) (j3 : Int32 → Option Int32) (v1 : Int32) (v2 : Int32) (v3 : Int32) (v4 : Int32) (u : Mm) : Nat → Int32 → Option Int32
  | 0 => fun _ => none
  | n + 1 => gX0_layersFor_13_Ls k0 j3 v1 v2 v3 v4 u (gX0_layersFor_13_L k0 j3 v1 v2 v3 v4 u n)
def gX0_layersFor_3_Ls (k0 : Nat) (v1 : Int32) (v2 : Int32) (v3 : Int32) (u : Mm) (j3 : Int32 → Option Int32) (v4 : Int32) : Option Int32 :=
  if v4 < 8 then
  (gX0_layersFor_13_L k0 j3 v1 v2 v3 v4 u FU 0)
  else
  (some (-9))
def gX0_layersFor_3_L (k0 : Nat) (v1 : Int32) (v2 : Int32) (v3 : Int32) (u : Mm) : Nat → Int32 → Option Int32
  | 0 => fun _ => none
  | n + 1 => gX0_layersFor_3_Ls k0 v1 v2 v3 u (gX0_layersFor_3_L k0 v1 v2 v3 u n)
def gX0_layersFor_b (k0 : Nat) (v1 : Int32) (v2 : Int32) (v3 : Int32) (u : Mm) : Option Int32 :=
  gX0_layersFor_3_L k0 v1 v2 v3 u FU 0
def gX0_layersFor (k0 : Nat) (v1 : Int32) (v2 : Int32) (v3 : Int32) (u : Mm) : Option Int32 := gX0_layersFor_b k0 v1 v2 v3 u
-- X0_fewestSteps: fewestSteps (II)I, depth 1
def gX0_fewestSteps_2_Ls (k0 : Nat) (v1 : Int32) (v2 : Int32) (u : Mm) (j2 : Int32 → Option Int32) (v3 : Int32) : Option Int32 :=
  if 40 < v3 then
  (some (-9))
  else
  ((gX0_layersFor k0 v3 v1 v2 u).bind fun (r2 : Int32) =>
   if r2 = (-9) then
   (letv (v3 + 1) fun (v3_4 : Int32) =>
    j2 v3_4)
   else
   (some v3))
def gX0_fewestSteps_2_L (k0 : Nat) (v1 : Int32) (v2 : Int32) (u : Mm) : Nat → Int32 → Option Int32
  | 0 => fun _ => none
  | n + 1 => gX0_fewestSteps_2_Ls k0 v1 v2 u (gX0_fewestSteps_2_L k0 v1 v2 u n)
def gX0_fewestSteps_b (k0 : Nat) (v1 : Int32) (v2 : Int32) (u : Mm) : Option Int32 :=
  gX0_fewestSteps_2_L k0 v1 v2 u FU 0
def gX0_fewestSteps (k0 : Nat) (v1 : Int32) (v2 : Int32) (u : Mm) : Option Int32 := gX0_fewestSteps_b k0 v1 v2 u
-- X7_at: at (I)I, depth 0
def gX7_at_b (k0 : Nat) (v1 : Int32) (u : Mm) : Option Int32 :=
  if v1 < 0 then
  (some (-1))
  else
  (if v1 < (u k0 0) then
   (if v1 < (nI (sz (k0 + 1))) then
    (gd (ix v1 (sz (k0 + 1))) <|
     some (u (k0 + 1) (ixn v1)))
    else
    (some (-1)))
   else
   (some (-1)))
def gX7_at (k0 : Nat) (v1 : Int32) (u : Mm) : Option Int32 := gX7_at_b k0 v1 u
-- X0_layersOfPair: layersOfPair (LDownAmongFences$Row;I)I, depth 1
def gX0_layersOfPair_5_Ls (k0 : Nat) (k1 : Nat) (v2 : Int32) (u : Mm) (j5 : Int32 → Int32 → Option Int32) (v3 : Int32) (v4 : Int32) : Option Int32 :=
  if v4 < 8 then
  (gd (ix v4 8) <|
   (gX7_at k1 v2 u).bind fun (r3 : Int32) =>
   if (u (k0 + 1) (ixn v4)) = (r3 - 50) then
   (gd (ix v4 8) <|
    (gX7_at k1 (v2 + 1) u).bind fun (r7 : Int32) =>
    if (u (k0 + 2) (ixn v4)) = r7 then
    (letv (v3 ||| (shl 1 v4)) fun (v3_10 : Int32) =>
     letv (v4 + 1) fun (v4_11 : Int32) =>
     j5 v3_10 v4_11)
    else
    (letv (v4 + 1) fun (v4_9 : Int32) =>
     j5 v3 v4_9))
   else
   (letv (v4 + 1) fun (v4_5 : Int32) =>
    j5 v3 v4_5))
  else
  (some v3)
def gX0_layersOfPair_5_L (k0 : Nat) (k1 : Nat) (v2 : Int32) (u : Mm) : Nat → Int32 → Int32 → Option Int32
  | 0 => fun _ _ => none
  | n + 1 => gX0_layersOfPair_5_Ls k0 k1 v2 u (gX0_layersOfPair_5_L k0 k1 v2 u n)
def gX0_layersOfPair_b (k0 : Nat) (k1 : Nat) (v2 : Int32) (u : Mm) : Option Int32 :=
  gX0_layersOfPair_5_L k0 k1 v2 u FU 0 0
def gX0_layersOfPair (k0 : Nat) (k1 : Nat) (v2 : Int32) (u : Mm) : Option Int32 := gX0_layersOfPair_b k0 k1 v2 u
-- X0_layersThatFit: layersThatFit (LDownAmongFences$Row;)I, depth 2
def gX0_layersThatFit_4_Ls (k0 : Nat) (k1 : Nat) (u : Mm) (j4 : Int32 → Int32 → Option Int32) (v2 : Int32) (v3 : Int32) : Option Int32 :=
  if (v3 + 1) < (u k1 0) then
  ((gX0_layersOfPair k0 k1 v3 u).bind fun (r2 : Int32) =>
   letv (v2 ||| r2) fun (v2_3 : Int32) =>
   letv (v3 + 2) fun (v3_4 : Int32) =>
   j4 v2_3 v3_4)
  else
  (some v2)
def gX0_layersThatFit_4_L (k0 : Nat) (k1 : Nat) (u : Mm) : Nat → Int32 → Int32 → Option Int32
  | 0 => fun _ _ => none
  | n + 1 => gX0_layersThatFit_4_Ls k0 k1 u (gX0_layersThatFit_4_L k0 k1 u n)
def gX0_layersThatFit_b (k0 : Nat) (k1 : Nat) (u : Mm) : Option Int32 :=
  gX0_layersThatFit_4_L k0 k1 u FU 0 0
def gX0_layersThatFit (k0 : Nat) (k1 : Nat) (u : Mm) : Option Int32 := gX0_layersThatFit_b k0 k1 u
-- X0_firstPairWithoutLayer: firstPairWithoutLayer (LDownAmongFences$Row;)I, depth 2
def gX0_firstPairWithoutLayer_2_Ls (k0 : Nat) (k1 : Nat) (u : Mm) (j2 : Int32 → Option Int32) (v2 : Int32) : Option Int32 :=
  if (v2 + 1) < (u k1 0) then
  ((gX0_layersOfPair k0 k1 v2 u).bind fun (r2 : Int32) =>
   if r2 = 0 then
   (some (v2 / 2))
   else
   (letv (v2 + 2) fun (v2_4 : Int32) =>
    j2 v2_4))
  else
  (some (-9))
def gX0_firstPairWithoutLayer_2_L (k0 : Nat) (k1 : Nat) (u : Mm) : Nat → Int32 → Option Int32
  | 0 => fun _ => none
  | n + 1 => gX0_firstPairWithoutLayer_2_Ls k0 k1 u (gX0_firstPairWithoutLayer_2_L k0 k1 u n)
def gX0_firstPairWithoutLayer_b (k0 : Nat) (k1 : Nat) (u : Mm) : Option Int32 :=
  gX0_firstPairWithoutLayer_2_L k0 k1 u FU 0
def gX0_firstPairWithoutLayer (k0 : Nat) (k1 : Nat) (u : Mm) : Option Int32 := gX0_firstPairWithoutLayer_b k0 k1 u
-- X1_copyFrom: copyFrom (LDownAmongFences$Fields;)V, depth 0
def gX1_copyFrom_10_Ls (k0 : Nat) (k1 : Nat) (j10 : Int32 → Mm → Option Mm) (v2 : Int32) (u : Mm) : Option Mm :=
  if v2 < 8 then
  (gd (ix v2 8) <|
   gd (ix v2 8) <|
   letv (stm u (k0 + 1) (ixn v2) (u (k1 + 1) (ixn v2))) fun (u3 : Mm) =>
   gd (ix v2 8) <|
   gd (ix v2 8) <|
   letv (stm u3 (k0 + 2) (ixn v2) (u3 (k1 + 2) (ixn v2))) fun (u6 : Mm) =>
   gd (ix v2 8) <|
   gd (ix v2 8) <|
   letv (stm u6 (k0 + 3) (ixn v2) (u6 (k1 + 3) (ixn v2))) fun (u9 : Mm) =>
   gd (ix v2 8) <|
   gd (ix v2 8) <|
   letv (stm u9 (k0 + 4) (ixn v2) (u9 (k1 + 4) (ixn v2))) fun (u12 : Mm) =>
   gd (ix v2 8) <|
   gd (ix v2 8) <|
   letv (stm u12 (k0 + 5) (ixn v2) (u12 (k1 + 5) (ixn v2))) fun (u15 : Mm) =>
   letv (v2 + 1) fun (v2_17 : Int32) =>
   j10 v2_17 u15)
  else
  (some u)
def gX1_copyFrom_10_L (k0 : Nat) (k1 : Nat) : Nat → Int32 → Mm → Option Mm
  | 0 => fun _ _ => none
  | n + 1 => gX1_copyFrom_10_Ls k0 k1 (gX1_copyFrom_10_L k0 k1 n)
def gX1_copyFrom_b (k0 : Nat) (k1 : Nat) (u : Mm) : Option Mm :=
  letv (stm u k0 0 (u k1 0)) fun (u1 : Mm) =>
  gX1_copyFrom_10_L k0 k1 FU 0 u1
def gX1_copyFrom (k0 : Nat) (k1 : Nat) (u : Mm) : Option Mm := gX1_copyFrom_b k0 k1 u
-- X1_isFull: isFull ()Z, depth 0
def gX1_isFull_b (k0 : Nat) (u : Mm) : Option Int32 :=
  if (u k0 0) < 8 then
  (some 0)
  else
  (some 1)
def gX1_isFull (k0 : Nat) (u : Mm) : Option Int32 := gX1_isFull_b k0 u
-- X1_add: add (IIIII)V, depth 0
def gX1_add_b (k0 : Nat) (v1 : Int32) (v2 : Int32) (v3 : Int32) (v4 : Int32) (v5 : Int32) (u : Mm) : Option Mm :=
  if (u k0 0) < 0 then
  (some u)
  else
  (if (u k0 0) < 8 then
   (gd (ix (u k0 0) 8) <|
    letv (stm u (k0 + 1) (ixn (u k0 0)) v1) fun (u3 : Mm) =>
    gd (ix (u3 k0 0) 8) <|
    letv (stm u3 (k0 + 2) (ixn (u3 k0 0)) v2) fun (u5 : Mm) =>
    gd (ix (u5 k0 0) 8) <|
    letv (stm u5 (k0 + 3) (ixn (u5 k0 0)) v3) fun (u7 : Mm) =>
    gd (ix (u7 k0 0) 8) <|
    letv (stm u7 (k0 + 4) (ixn (u7 k0 0)) v4) fun (u9 : Mm) =>
    gd (ix (u9 k0 0) 8) <|
    letv (stm u9 (k0 + 5) (ixn (u9 k0 0)) v5) fun (u11 : Mm) =>
    letv (stm u11 k0 0 ((u11 k0 0) + 1)) fun (u13 : Mm) =>
    some u13)
   else
   (some u))
def gX1_add (k0 : Nat) (v1 : Int32) (v2 : Int32) (v3 : Int32) (v4 : Int32) (v5 : Int32) (u : Mm) : Option Mm := gX1_add_b k0 v1 v2 v3 v4 v5 u
-- X1_tellOf: tellOf (II)I, depth 0
def gX1_tellOf_b (k0 : Nat) (v1 : Int32) (v2 : Int32) (u : Mm) : Option Int32 :=
  if v1 < 0 then
  (some (-9))
  else
  (if v1 < 8 then
   (if v2 = 0 then
    (gd (ix v1 8) <|
     some (u (k0 + 1) (ixn v1)))
    else if v2 = 1 then
    (gd (ix v1 8) <|
     some (u (k0 + 2) (ixn v1)))
    else if v2 = 2 then
    (gd (ix v1 8) <|
     some (u (k0 + 3) (ixn v1)))
    else if v2 = 3 then
    (gd (ix v1 8) <|
     some (u (k0 + 4) (ixn v1)))
    else 
    (gd (ix v1 8) <|
     some (u (k0 + 5) (ixn v1))))
   else
   (some (-9)))
def gX1_tellOf (k0 : Nat) (v1 : Int32) (v2 : Int32) (u : Mm) : Option Int32 := gX1_tellOf_b k0 v1 v2 u
-- X1_fieldAt: fieldAt (II)I, depth 0
def gX1_fieldAt_2_Ls (k0 : Nat) (v1 : Int32) (v2 : Int32) (u : Mm) (j2 : Int32 → Option Int32) (v3 : Int32) : Option Int32 :=
  if v3 < (u k0 0) then
  (if v3 < 8 then
   (gd (ix v3 8) <|
    if v1 < (u (k0 + 3) (ixn v3)) then
    (letv (v3 + 1) fun (v3_5 : Int32) =>
     j2 v3_5)
    else
    (gd (ix v3 8) <|
     gd (ix v3 8) <|
     if v1 < ((u (k0 + 3) (ixn v3)) + (u (k0 + 5) (ixn v3))) then
     (gd (ix v3 8) <|
      if v2 < (u (k0 + 4) (ixn v3)) then
      (letv (v3 + 1) fun (v3_12 : Int32) =>
       j2 v3_12)
      else
      (gd (ix v3 8) <|
       gd (ix v3 8) <|
       if v2 < ((u (k0 + 4) (ixn v3)) + (u (k0 + 5) (ixn v3))) then
       (some v3)
       else
       (letv (v3 + 1) fun (v3_16 : Int32) =>
        j2 v3_16)))
     else
     (letv (v3 + 1) fun (v3_9 : Int32) =>
      j2 v3_9)))
   else
   (some (-9)))
  else
  (some (-9))
def gX1_fieldAt_2_L (k0 : Nat) (v1 : Int32) (v2 : Int32) (u : Mm) : Nat → Int32 → Option Int32
  | 0 => fun _ => none
  | n + 1 => gX1_fieldAt_2_Ls k0 v1 v2 u (gX1_fieldAt_2_L k0 v1 v2 u n)
def gX1_fieldAt_b (k0 : Nat) (v1 : Int32) (v2 : Int32) (u : Mm) : Option Int32 :=
  gX1_fieldAt_2_L k0 v1 v2 u FU 0
def gX1_fieldAt (k0 : Nat) (v1 : Int32) (v2 : Int32) (u : Mm) : Option Int32 := gX1_fieldAt_b k0 v1 v2 u
-- X1_costOf: costOf (III)I, depth 0
def gX1_costOf_33 (k0 : Nat) (v1 : Int32) (v3 : Int32) (s0 : Int32) (u : Mm) : Option Int32 :=
  gd (ix v1 8) <|
  letv (u (k0 + 2) (ixn v1)) fun (v5_2 : Int32) =>
  letv (s0 + (3 * v5_2)) fun (v6_3 : Int32) =>
  letv ((s0 + v5_2) + 5) fun (v7_4 : Int32) =>
  gd (ix v1 8) <|
  if (u (k0 + 1) (ixn v1)) = 1 then
  (some v7_4)
  else if (u (k0 + 1) (ixn v1)) = 2 then
  (some v6_3)
  else if (u (k0 + 1) (ixn v1)) = 3 then
  (some (s0 + v5_2))
  else if (u (k0 + 1) (ixn v1)) = 4 then
  (gd (ix v1 8) <|
   if (10 * (u (k0 + 5) (ixn v1))) < v3 then
   (some (v6_3 + 20))
   else
   (some v6_3))
  else if (u (k0 + 1) (ixn v1)) = 5 then
  (some (v7_4 / 2))
  else 
  (some s0)
def gX1_costOf_b (k0 : Nat) (v1 : Int32) (v2 : Int32) (v3 : Int32) (u : Mm) : Option Int32 :=
  if v1 < 0 then
  (some 40)
  else
  (if v1 < (u k0 0) then
   (if v1 < 8 then
    (if 3 < v2 then
     (gX1_costOf_33 k0 v1 v3 (2 * v2) u)
     else
     (gX1_costOf_33 k0 v1 v3 v2 u))
    else
    (some 40))
   else
   (some 40))
def gX1_costOf (k0 : Nat) (v1 : Int32) (v2 : Int32) (v3 : Int32) (u : Mm) : Option Int32 := gX1_costOf_b k0 v1 v2 v3 u
-- X2_copyFrom: copyFrom (LDownAmongFences$Flight;)V, depth 0
def gX2_copyFrom_b (k0 : Nat) (k1 : Nat) (u : Mm) : Option Mm :=
  letv (stm u k0 0 (u k1 0)) fun (u1 : Mm) =>
  letv (stm u1 k0 1 (u1 k1 1)) fun (u2 : Mm) =>
  letv (stm u2 k0 2 (u2 k1 2)) fun (u3 : Mm) =>
  letv (stm u3 k0 3 (u3 k1 3)) fun (u4 : Mm) =>
  letv (stm u4 k0 4 (u4 k1 4)) fun (u5 : Mm) =>
  letv (stm u5 k0 5 (u5 k1 5)) fun (u6 : Mm) =>
  letv (stm u6 k0 6 (u6 k1 6)) fun (u7 : Mm) =>
  letv (stm u7 k0 7 (u7 k1 7)) fun (u8 : Mm) =>
  letv (stm u8 k0 8 (u8 k1 8)) fun (u9 : Mm) =>
  letv (stm u9 k0 9 (u9 k1 9)) fun (u10 : Mm) =>
  some u10
def gX2_copyFrom (k0 : Nat) (k1 : Nat) (u : Mm) : Option Mm := gX2_copyFrom_b k0 k1 u
-- X2_leastOf: leastOf (I)I, depth 0
def gX2_leastOf_b (v0 : Int32) : Option Int32 :=
  if v0 = 3 then
  (some 1)
  else
  (some 0)
def gX2_leastOf (v0 : Int32) : Option Int32 := gX2_leastOf_b v0
-- X2_mostOf: mostOf (I)I, depth 0
def gX2_mostOf_b (v0 : Int32) : Option Int32 :=
  if v0 = 0 then
  (some 39)
  else if v0 = 1 then
  (some 60)
  else if v0 = 2 then
  (some 60)
  else if v0 = 3 then
  (some 6)
  else 
  (some 5)
def gX2_mostOf (v0 : Int32) : Option Int32 := gX2_mostOf_b v0
-- X2_valueOf: valueOf (I)I, depth 0
def gX2_valueOf_b (k0 : Nat) (v1 : Int32) (u : Mm) : Option Int32 :=
  if v1 = 0 then
  (some (u k0 0))
  else if v1 = 1 then
  (some (u k0 3))
  else if v1 = 2 then
  (some (u k0 4))
  else if v1 = 3 then
  (some (u k0 5))
  else 
  (some (u k0 6))
def gX2_valueOf (k0 : Nat) (v1 : Int32) (u : Mm) : Option Int32 := gX2_valueOf_b k0 v1 u
-- X2_loseWork: loseWork ()V, depth 0
def gX2_loseWork_b (k0 : Nat) (u : Mm) : Option Mm :=
  letv (stm u k0 9 0) fun (u1 : Mm) =>
  some u1
def gX2_loseWork (k0 : Nat) (u : Mm) : Option Mm := gX2_loseWork_b k0 u
-- X2_changeLag: changeLag (I)V, depth 1
def gX2_changeLag_b (k0 : Nat) (v1 : Int32) (u : Mm) : Option Mm :=
  if v1 = (u k0 6) then
  (letv (stm u k0 6 v1) fun (u2 : Mm) =>
   some u2)
  else
  ((gX2_loseWork k0 u).bind fun (u3 : Mm) =>
   letv (stm u3 k0 6 v1) fun (u4 : Mm) =>
   some u4)
def gX2_changeLag (k0 : Nat) (v1 : Int32) (u : Mm) : Option Mm := gX2_changeLag_b k0 v1 u
-- X2_change: change (II)V, depth 2
def gX2_change_b (k0 : Nat) (v1 : Int32) (v2 : Int32) (u : Mm) : Option Mm :=
  if v1 = 0 then
  (letv (stm u k0 0 v2) fun (u2 : Mm) =>
   some u2)
  else if v1 = 1 then
  (letv (stm u k0 3 v2) fun (u4 : Mm) =>
   some u4)
  else if v1 = 2 then
  (letv (stm u k0 4 v2) fun (u6 : Mm) =>
   some u6)
  else if v1 = 3 then
  (letv (stm u k0 5 v2) fun (u8 : Mm) =>
   some u8)
  else 
  ((gX2_changeLag k0 v2 u).bind fun (u9 : Mm) =>
   some u9)
def gX2_change (k0 : Nat) (v1 : Int32) (v2 : Int32) (u : Mm) : Option Mm := gX2_change_b k0 v1 v2 u
-- X2_balance: balance ()I, depth 0
def gX2_balance_b (k0 : Nat) (u : Mm) : Option Int32 :=
  some (12 + (2 * (u k0 5)))
def gX2_balance (k0 : Nat) (u : Mm) : Option Int32 := gX2_balance_b k0 u
-- X2_climb: climb ()I, depth 1
def gX2_climb_b (k0 : Nat) (u : Mm) : Option Int32 :=
  (gX2_balance k0 u).bind fun (r1 : Int32) =>
  some (((u k0 3) - r1) / 4)
def gX2_climb (k0 : Nat) (u : Mm) : Option Int32 := gX2_climb_b k0 u
-- X2_peopleWhoCanLeave: peopleWhoCanLeave ()I, depth 1
def gX2_peopleWhoCanLeave_2_Ls (k0 : Nat) (u : Mm) (j2 : Int32 → Option Int32) (v1 : Int32) : Option Int32 :=
  if v1 < (u k0 5) then
  ((gX2_balance k0 u).bind fun (r2 : Int32) =>
   if 0 < ((((u k0 3) - r2) + (2 * (v1 + 1))) / 4) then
   (some v1)
   else
   (letv (v1 + 1) fun (v1_4 : Int32) =>
    j2 v1_4))
  else
  (some v1)
def gX2_peopleWhoCanLeave_2_L (k0 : Nat) (u : Mm) : Nat → Int32 → Option Int32
  | 0 => fun _ => none
  | n + 1 => gX2_peopleWhoCanLeave_2_Ls k0 u (gX2_peopleWhoCanLeave_2_L k0 u n)
def gX2_peopleWhoCanLeave_b (k0 : Nat) (u : Mm) : Option Int32 :=
  gX2_peopleWhoCanLeave_2_L k0 u FU 0
def gX2_peopleWhoCanLeave (k0 : Nat) (u : Mm) : Option Int32 := gX2_peopleWhoCanLeave_b k0 u
-- X2_workOf: workOf (I)I, depth 0
def gX2_workOf_b (v0 : Int32) : Option Int32 :=
  if v0 = 1 then
  (some 4)
  else
  (if v0 = 2 then
   (some (-5))
   else
   (some 0))
def gX2_workOf (v0 : Int32) : Option Int32 := gX2_workOf_b v0
-- X10_between: between (III)I, depth 0
def gX10_between_b (v0 : Int32) (v1 : Int32) (v2 : Int32) : Option Int32 :=
  if v1 < v0 then
  (some v0)
  else
  (if v2 < v1 then
   (some v2)
   else
   (some v1))
def gX10_between (v0 : Int32) (v1 : Int32) (v2 : Int32) : Option Int32 := gX10_between_b v0 v1 v2
-- X2_fly: fly (ILDownAmongFences$Air;)V, depth 2
def gX2_fly_181 (k0 : Nat) (k2 : Nat) (u : Mm) : Option Mm :=
  letv (stm u k0 7 ((u k0 7) + 1)) fun (u1 : Mm) =>
  some u1
def gX2_fly_119 (k0 : Nat) (k2 : Nat) (s0 : Int32) (u : Mm) : Option Mm :=
  letv (stm u k0 8 s0) fun (u1 : Mm) =>
  if 0 < (u1 k0 0) then
  (letv ((u1 k0 0) / 5) fun (v6_3 : Int32) =>
   (gX0_sideOf k2 v6_3 u1).bind fun (r4 : Int32) =>
   (gX10_between 0 ((u1 k0 1) + r4) 999).bind fun (r5 : Int32) =>
   letv (stm u1 k0 1 r5) fun (u6 : Mm) =>
   (gX0_aheadOf k2 v6_3 u6).bind fun (r7 : Int32) =>
   (gX10_between 0 ((u6 k0 2) + r7) 999).bind fun (r8 : Int32) =>
   letv (stm u6 k0 2 r8) fun (u9 : Mm) =>
   gX2_fly_181 k0 k2 u9)
  else
  (gX2_fly_181 k0 k2 u1)
def gX2_fly_118 (k0 : Nat) (k2 : Nat) (u : Mm) : Option Mm :=
  gX2_fly_119 k0 k2 0 u
def gX2_fly_15 (k0 : Nat) (k2 : Nat) (v1 : Int32) (u : Mm) : Option Mm :=
  letv (stm u k0 9 ((u k0 9) ||| (shl v1 (2 * (u k0 6))))) fun (u1 : Mm) =>
  (gX2_workOf ((u1 k0 9) &&& 3)).bind fun (r2 : Int32) =>
  letv (stm u1 k0 9 (shr (u1 k0 9) 2)) fun (u3 : Mm) =>
  (gX10_between 0 (((u3 k0 3) - 1) + r2) 60).bind fun (r4 : Int32) =>
  letv (stm u3 k0 3 r4) fun (u5 : Mm) =>
  letv (u5 k0 0) fun (v4_6 : Int32) =>
  (gX2_climb k0 u5).bind fun (r7 : Int32) =>
  (gX10_between 0 ((u5 k0 0) + r7) 39).bind fun (r8 : Int32) =>
  letv (stm u5 k0 0 r8) fun (u9 : Mm) =>
  if 0 < v4_6 then
  (if (u9 k0 0) = 0 then
   (gX2_fly_119 k0 k2 (-r7) u9)
   else
   (gX2_fly_118 k0 k2 u9))
  else
  (gX2_fly_118 k0 k2 u9)
def gX2_fly_b (k0 : Nat) (k2 : Nat) (v1 : Int32) (u : Mm) : Option Mm :=
  if v1 = 1 then
  (letv (stm u k0 4 ((u k0 4) - 1)) fun (u2 : Mm) =>
   gX2_fly_15 k0 k2 v1 u2)
  else
  (gX2_fly_15 k0 k2 v1 u)
def gX2_fly (k0 : Nat) (v1 : Int32) (k2 : Nat) (u : Mm) : Option Mm := gX2_fly_b k0 k2 v1 u
-- X2_able: able (I)I, depth 0
def gX2_able_b (k0 : Nat) (v1 : Int32) (u : Mm) : Option Int32 :=
  if v1 = 1 then
  (if 0 < (u k0 4) then
   (some v1)
   else
   (some 0))
  else
  (some v1)
def gX2_able (k0 : Nat) (v1 : Int32) (u : Mm) : Option Int32 := gX2_able_b k0 v1 u
-- X2_holdAct: holdAct ()I, depth 1
def gX2_holdAct_53 (k0 : Nat) (s0 : Int32) (u : Mm) : Option Int32 :=
  (gX2_able k0 s0 u).bind fun (r1 : Int32) =>
  some r1
def gX2_holdAct_4_Ls (k0 : Nat) (u : Mm) (j4 : Int32 → Int32 → Option Int32) (v1 : Int32) (v2 : Int32) : Option Int32 :=
  if v2 < (u k0 6) then
  ((gX2_workOf ((shr (u k0 9) (2 * v2)) &&& 3)).bind fun (r4 : Int32) =>
   letv (v1 + r4) fun (v1_5 : Int32) =>
   letv (v2 + 1) fun (v2_6 : Int32) =>
   j4 v1_5 v2_6)
  else
  ((gX2_balance k0 u).bind fun (r2 : Int32) =>
   if ((u k0 3) + v1) < r2 then
   (gX2_holdAct_53 k0 1 u)
   else
   (gX2_holdAct_53 k0 0 u))
def gX2_holdAct_4_L (k0 : Nat) (u : Mm) : Nat → Int32 → Int32 → Option Int32
  | 0 => fun _ _ => none
  | n + 1 => gX2_holdAct_4_Ls k0 u (gX2_holdAct_4_L k0 u n)
def gX2_holdAct_b (k0 : Nat) (u : Mm) : Option Int32 :=
  gX2_holdAct_4_L k0 u FU 0 0
def gX2_holdAct (k0 : Nat) (u : Mm) : Option Int32 := gX2_holdAct_b k0 u
-- X2_feltAct: feltAct ()I, depth 2
def gX2_feltAct_b (k0 : Nat) (u : Mm) : Option Int32 :=
  (gX2_climb k0 u).bind fun (r1 : Int32) =>
  if r1 < 0 then
  ((gX2_able k0 1 u).bind fun (r4 : Int32) =>
   some r4)
  else
  (if 0 < r1 then
   (some 2)
   else
   (some 0))
def gX2_feltAct (k0 : Nat) (u : Mm) : Option Int32 := gX2_feltAct_b k0 u
-- X3_rewind: rewind ()V, depth 1
def gX3_rewind_b (u : Mm) : Option Mm :=
  letv (stm u 67 8 0) fun (u1 : Mm) =>
  (gX2_copyFrom 68 67 u1).bind fun (u2 : Mm) =>
  letv (stm u2 57 4 0) fun (u3 : Mm) =>
  some u3
def gX3_rewind (u : Mm) : Option Mm := gX3_rewind_b u
-- X3_begin: begin (LDownAmongFences$World;)V, depth 2
def gX3_begin_b (k1 : Nat) (u : Mm) : Option Mm :=
  (gX0_copyFrom 58 (k1 + 1) u).bind fun (u1 : Mm) =>
  (gX1_copyFrom 61 (k1 + 4) u1).bind fun (u2 : Mm) =>
  (gX2_copyFrom 67 (k1 + 12) u2).bind fun (u3 : Mm) =>
  (gX3_rewind u3).bind fun (u4 : Mm) =>
  some u4
def gX3_begin (k1 : Nat) (u : Mm) : Option Mm := gX3_begin_b k1 u
-- X3_takePeople: takePeople (I)V, depth 2
def gX3_takePeople_b (v1 : Int32) (u : Mm) : Option Mm :=
  letv (stm u 67 5 v1) fun (u1 : Mm) =>
  (gX3_rewind u1).bind fun (u2 : Mm) =>
  some u2
def gX3_takePeople (v1 : Int32) (u : Mm) : Option Mm := gX3_takePeople_b v1 u
-- X3_takeGas: takeGas (I)V, depth 2
def gX3_takeGas_b (v1 : Int32) (u : Mm) : Option Mm :=
  letv (stm u 67 4 v1) fun (u1 : Mm) =>
  (gX3_rewind u1).bind fun (u2 : Mm) =>
  some u2
def gX3_takeGas (v1 : Int32) (u : Mm) : Option Mm := gX3_takeGas_b v1 u
-- X3_takeLag: takeLag (I)V, depth 2
def gX3_takeLag_b (v1 : Int32) (u : Mm) : Option Mm :=
  (gX2_changeLag 67 v1 u).bind fun (u1 : Mm) =>
  (gX3_rewind u1).bind fun (u2 : Mm) =>
  some u2
def gX3_takeLag (v1 : Int32) (u : Mm) : Option Mm := gX3_takeLag_b v1 u
-- X3_takeSide: takeSide (I)V, depth 2
def gX3_takeSide_b (v1 : Int32) (u : Mm) : Option Mm :=
  letv ((u 67 0) / 5) fun (v2_1 : Int32) =>
  (gX0_aheadOf 58 v2_1 u).bind fun (r2 : Int32) =>
  (gX0_blow 58 v2_1 v1 r2 u).bind fun (u3 : Mm) =>
  (gX3_rewind u3).bind fun (u4 : Mm) =>
  some u4
def gX3_takeSide (v1 : Int32) (u : Mm) : Option Mm := gX3_takeSide_b v1 u
-- X3_holdFirst: holdFirst (I)V, depth 3
def gX3_holdFirst_2_Ls (v1 : Int32) (j2 : Int32 → Mm → Option Mm) (v2 : Int32) (u : Mm) : Option Mm :=
  if v2 < v1 then
  ((gX2_holdAct 67 u).bind fun (r3 : Int32) =>
   (gX2_fly 67 r3 58 u).bind fun (u4 : Mm) =>
   letv (v2 + 1) fun (v2_5 : Int32) =>
   j2 v2_5 u4)
  else
  ((gX3_rewind u).bind fun (u2 : Mm) =>
   some u2)
def gX3_holdFirst_2_L (v1 : Int32) : Nat → Int32 → Mm → Option Mm
  | 0 => fun _ _ => none
  | n + 1 => gX3_holdFirst_2_Ls v1 (gX3_holdFirst_2_L v1 n)
def gX3_holdFirst_b (v1 : Int32) (u : Mm) : Option Mm :=
  gX3_holdFirst_2_L v1 FU 0 u
def gX3_holdFirst (v1 : Int32) (u : Mm) : Option Mm := gX3_holdFirst_b v1 u
-- X3_holdTo: holdTo (I)V, depth 3
def gX3_holdTo_48 (j12 : Mm → Option Mm) (v1 : Int32) (u : Mm) : Option Mm :=
  letv (stm u 57 4 ((u 57 4) + 1)) fun (u1 : Mm) =>
  j12 u1
def gX3_holdTo_12_Ls (v1 : Int32) (j12 : Mm → Option Mm) (u : Mm) : Option Mm :=
  if (u 57 4) < v1 then
  (if 0 < (u 68 0) then
   ((gX2_holdAct 68 u).bind fun (r3 : Int32) =>
    (gX2_fly 68 r3 58 u).bind fun (u4 : Mm) =>
    gX3_holdTo_48 j12 v1 u4)
   else
   (gX3_holdTo_48 j12 v1 u))
  else
  (some u)
def gX3_holdTo_12_L (v1 : Int32) : Nat → Mm → Option Mm
  | 0 => fun _ => none
  | n + 1 => gX3_holdTo_12_Ls v1 (gX3_holdTo_12_L v1 n)
def gX3_holdTo_b (v1 : Int32) (u : Mm) : Option Mm :=
  if v1 < (u 57 4) then
  ((gX3_rewind u).bind fun (u2 : Mm) =>
   gX3_holdTo_12_L v1 FU u2)
  else
  (gX3_holdTo_12_L v1 FU u)
def gX3_holdTo (v1 : Int32) (u : Mm) : Option Mm := gX3_holdTo_b v1 u
-- X3_follow: follow (II)Z, depth 4
def gX3_follow_89 (u : Mm) : Option (Int32 × Mm) :=
  if (u 69 0) = 0 then
  (some (1, u))
  else
  (some (0, u))
def gX3_follow_55_Ls (j55 : Int32 → Mm → Option (Int32 × Mm)) (v3 : Int32) (u : Mm) : Option (Int32 × Mm) :=
  if v3 < 60 then
  (if 0 < (u 69 0) then
   ((gX2_fly 69 0 58 u).bind fun (u3 : Mm) =>
    letv (v3 + 1) fun (v3_4 : Int32) =>
    j55 v3_4 u3)
   else
   (gX3_follow_89 u))
  else
  (gX3_follow_89 u)
def gX3_follow_55_L : Nat → Int32 → Mm → Option (Int32 × Mm)
  | 0 => fun _ _ => none
  | n + 1 => gX3_follow_55_Ls (gX3_follow_55_L n)
def gX3_follow_51 (v1 : Int32) (v2 : Int32) (u : Mm) : Option (Int32 × Mm) :=
  letv (v1 + v2) fun (v3_1 : Int32) =>
  gX3_follow_55_L FU v3_1 u
def gX3_follow_18_Ls (v1 : Int32) (v2 : Int32) (j18 : Int32 → Mm → Option (Int32 × Mm)) (v3 : Int32) (u : Mm) : Option (Int32 × Mm) :=
  if v3 < v2 then
  (if 0 < (u 69 0) then
   ((gX2_fly 69 2 58 u).bind fun (u3 : Mm) =>
    letv (v3 + 1) fun (v3_4 : Int32) =>
    j18 v3_4 u3)
   else
   (gX3_follow_51 v1 v2 u))
  else
  (gX3_follow_51 v1 v2 u)
def gX3_follow_18_L (v1 : Int32) (v2 : Int32) : Nat → Int32 → Mm → Option (Int32 × Mm)
  | 0 => fun _ _ => none
  | n + 1 => gX3_follow_18_Ls v1 v2 (gX3_follow_18_L v1 v2 n)
def gX3_follow_b (v1 : Int32) (v2 : Int32) (u : Mm) : Option (Int32 × Mm) :=
  (gX3_holdTo v1 u).bind fun (u1 : Mm) =>
  (gX2_copyFrom 69 68 u1).bind fun (u2 : Mm) =>
  gX3_follow_18_L v1 v2 FU 0 u2
def gX3_follow (v1 : Int32) (v2 : Int32) (u : Mm) : Option (Int32 × Mm) := gX3_follow_b v1 v2 u
-- X3_stepsFlown: stepsFlown ()I, depth 0
def gX3_stepsFlown_b (u : Mm) : Option Int32 :=
  some ((u 69 7) - (u 67 7))
def gX3_stepsFlown (u : Mm) : Option Int32 := gX3_stepsFlown_b u
-- X3_fieldThere: fieldThere ()I, depth 1
def gX3_fieldThere_b (u : Mm) : Option Int32 :=
  (gX1_fieldAt 61 (u 69 1) (u 69 2) u).bind fun (r1 : Int32) =>
  some r1
def gX3_fieldThere (u : Mm) : Option Int32 := gX3_fieldThere_b u
-- X3_costThere: costThere ()I, depth 2
def gX3_costThere_b (u : Mm) : Option Int32 :=
  (gX3_fieldThere u).bind fun (r1 : Int32) =>
  (gX0_dragOf 58 (u 69 8) (u 69 5) u).bind fun (r2 : Int32) =>
  (gX1_costOf 61 r1 (u 69 8) r2 u).bind fun (r3 : Int32) =>
  some r3
def gX3_costThere (u : Mm) : Option Int32 := gX3_costThere_b u
-- X3_leadsInto: leadsInto (III)Z, depth 5
def gX3_leadsInto_b (v1 : Int32) (v2 : Int32) (v3 : Int32) (u : Mm) : Option (Int32 × Mm) :=
  bI (gX3_follow v2 v3 u) fun (r2 : Int32) (u1 : Mm) =>
  if r2 = 0 then
  (some (0, u1))
  else
  ((gX3_fieldThere u1).bind fun (r4 : Int32) =>
   if r4 = v1 then
   (some (1, u1))
   else
   (some (0, u1)))
def gX3_leadsInto (v1 : Int32) (v2 : Int32) (v3 : Int32) (u : Mm) : Option (Int32 × Mm) := gX3_leadsInto_b v1 v2 v3 u
-- X3_seekPlansInto: seekPlansInto (I)V, depth 5
def gX3_seekPlansInto_116 (j21 : Int32 → Int32 → Mm → Option Mm) (j30 : Int32 → Int32 → Mm → Option Mm) (v1 : Int32) (v2 : Int32) (v3 : Int32) (v4 : Int32) (u : Mm) : Option Mm :=
  letv (stm u 57 6 ((u 57 6) + 1)) fun (u1 : Mm) =>
  letv (v4 + 1) fun (v4_2 : Int32) =>
  j30 v2 v4_2 u1
def gX3_seekPlansInto_97 (j21 : Int32 → Int32 → Mm → Option Mm) (j30 : Int32 → Int32 → Mm → Option Mm) (v1 : Int32) (v3 : Int32) (v4 : Int32) (u : Mm) : Option Mm :=
  letv (u 69 8) fun (v2_1 : Int32) =>
  letv (stm u 57 8 ((10 * v3) + v4)) fun (u2 : Mm) =>
  gX3_seekPlansInto_116 j21 j30 v1 v2_1 v3 v4 u2
def gX3_seekPlansInto_76 (j21 : Int32 → Int32 → Mm → Option Mm) (j30 : Int32 → Int32 → Mm → Option Mm) (v1 : Int32) (v2 : Int32) (v3 : Int32) (v4 : Int32) (s0 : Int32) (u : Mm) : Option Mm :=
  letv (stm u 57 7 s0) fun (u1 : Mm) =>
  if (u1 57 6) = 0 then
  (gX3_seekPlansInto_97 j21 j30 v1 v3 v4 u1)
  else
  (if (u1 69 8) < v2 then
   (gX3_seekPlansInto_97 j21 j30 v1 v3 v4 u1)
   else
   (gX3_seekPlansInto_116 j21 j30 v1 v2 v3 v4 u1))
def gX3_seekPlansInto_30_Ls (j21 : Int32 → Int32 → Mm → Option Mm) (v1 : Int32) (v3 : Int32) (j30 : Int32 → Int32 → Mm → Option Mm) (v2 : Int32) (v4 : Int32) (u : Mm) : Option Mm :=
  if 5 < v4 then
  (letv (v3 + 1) fun (v3_2 : Int32) =>
   j21 v2 v3_2 u)
  else
  (bI (gX3_follow v3 v4 u) fun (r4 : Int32) (u3 : Mm) =>
   if r4 = 0 then
   (letv (v4 + 1) fun (v4_6 : Int32) =>
    j30 v2 v4_6 u3)
   else
   ((gX3_fieldThere u3).bind fun (r7 : Int32) =>
    if r7 = v1 then
    (if (u3 57 6) = 0 then
     (gX3_seekPlansInto_76 j21 j30 v1 v2 v3 v4 ((10 * v3) + v4) u3)
     else
     (gX3_seekPlansInto_76 j21 j30 v1 v2 v3 v4 (u3 57 7) u3))
    else
    (letv (v4 + 1) fun (v4_9 : Int32) =>
     j30 v2 v4_9 u3)))
def gX3_seekPlansInto_30_L (j21 : Int32 → Int32 → Mm → Option Mm) (v1 : Int32) (v3 : Int32) : Nat → Int32 → Int32 → Mm → Option Mm
  | 0 => fun _ _ _ => none
  | n + 1 => gX3_seekPlansInto_30_Ls j21 v1 v3 (gX3_seekPlansInto_30_L j21 v1 v3 n)
def gX3_seekPlansInto_21_Ls (v1 : Int32) (j21 : Int32 → Int32 → Mm → Option Mm) (v2 : Int32) (v3 : Int32) (u : Mm) : Option Mm :=
  if 30 < v3 then
  (some u)
  else
  (gX3_seekPlansInto_30_L j21 v1 v3 FU v2 0 u)
def gX3_seekPlansInto_21_L (v1 : Int32) : Nat → Int32 → Int32 → Mm → Option Mm
  | 0 => fun _ _ _ => none
  | n + 1 => gX3_seekPlansInto_21_Ls v1 (gX3_seekPlansInto_21_L v1 n)
def gX3_seekPlansInto_b (v1 : Int32) (u : Mm) : Option Mm :=
  letv (stm u 57 6 0) fun (u1 : Mm) =>
  letv (stm u1 57 7 (-9)) fun (u2 : Mm) =>
  letv (stm u2 57 8 (-9)) fun (u3 : Mm) =>
  gX3_seekPlansInto_21_L v1 FU 0 0 u3
def gX3_seekPlansInto (v1 : Int32) (u : Mm) : Option Mm := gX3_seekPlansInto_b v1 u
-- X3_seekCheapest: seekCheapest ()V, depth 5
def gX3_seekCheapest_58 (j14 : Int32 → Mm → Option Mm) (j22 : Int32 → Mm → Option Mm) (v1 : Int32) (v2 : Int32) (v3 : Int32) (u : Mm) : Option Mm :=
  letv (stm u 57 9 ((10 * v1) + v2)) fun (u1 : Mm) =>
  letv (stm u1 57 10 v3) fun (u2 : Mm) =>
  letv (v2 + 1) fun (v2_3 : Int32) =>
  j22 v2_3 u2
def gX3_seekCheapest_22_Ls (j14 : Int32 → Mm → Option Mm) (v1 : Int32) (j22 : Int32 → Mm → Option Mm) (v2 : Int32) (u : Mm) : Option Mm :=
  if 5 < v2 then
  (letv (v1 + 1) fun (v1_2 : Int32) =>
   j14 v1_2 u)
  else
  (bI (gX3_follow v1 v2 u) fun (r4 : Int32) (u3 : Mm) =>
   if r4 = 0 then
   (letv (v2 + 1) fun (v2_6 : Int32) =>
    j22 v2_6 u3)
   else
   ((gX3_costThere u3).bind fun (r7 : Int32) =>
    if (u3 57 9) = (-9) then
    (gX3_seekCheapest_58 j14 j22 v1 v2 r7 u3)
    else
    (if r7 < (u3 57 10) then
     (gX3_seekCheapest_58 j14 j22 v1 v2 r7 u3)
     else
     (letv (v2 + 1) fun (v2_10 : Int32) =>
      j22 v2_10 u3))))
def gX3_seekCheapest_22_L (j14 : Int32 → Mm → Option Mm) (v1 : Int32) : Nat → Int32 → Mm → Option Mm
  | 0 => fun _ _ => none
  | n + 1 => gX3_seekCheapest_22_Ls j14 v1 (gX3_seekCheapest_22_L j14 v1 n)
def gX3_seekCheapest_14_Ls (j14 : Int32 → Mm → Option Mm) (v1 : Int32) (u : Mm) : Option Mm :=
  if 30 < v1 then
  (some u)
  else
  (gX3_seekCheapest_22_L j14 v1 FU 0 u)
def gX3_seekCheapest_14_L : Nat → Int32 → Mm → Option Mm
  | 0 => fun _ _ => none
  | n + 1 => gX3_seekCheapest_14_Ls (gX3_seekCheapest_14_L n)
def gX3_seekCheapest_b (u : Mm) : Option Mm :=
  letv (stm u 57 9 (-9)) fun (u1 : Mm) =>
  letv (stm u1 57 10 (-9)) fun (u2 : Mm) =>
  gX3_seekCheapest_14_L FU 0 u2
def gX3_seekCheapest (u : Mm) : Option Mm := gX3_seekCheapest_b u
-- X3_fieldsWithin: fieldsWithin ()I, depth 5
def gX3_fieldsWithin_51 (j4 : Int32 → Int32 → Mm → Option (Int32 × Mm)) (j12 : Int32 → Int32 → Mm → Option (Int32 × Mm)) (v2 : Int32) (v3 : Int32) (s0 : Int32) (s1 : Int32) (u : Mm) : Option (Int32 × Mm) :=
  letv (s1 ||| s0) fun (v1_1 : Int32) =>
  letv (v3 + 1) fun (v3_2 : Int32) =>
  j12 v1_1 v3_2 u
def gX3_fieldsWithin_35 (j4 : Int32 → Int32 → Mm → Option (Int32 × Mm)) (j12 : Int32 → Int32 → Mm → Option (Int32 × Mm)) (v1 : Int32) (v2 : Int32) (v3 : Int32) (s0 : Int32) (u : Mm) : Option (Int32 × Mm) :=
  if s0 < 0 then
  (gX3_fieldsWithin_51 j4 j12 v2 v3 0 v1 u)
  else
  (gX3_fieldsWithin_51 j4 j12 v2 v3 (shl 1 s0) v1 u)
def gX3_fieldsWithin_12_Ls (j4 : Int32 → Int32 → Mm → Option (Int32 × Mm)) (v2 : Int32) (j12 : Int32 → Int32 → Mm → Option (Int32 × Mm)) (v1 : Int32) (v3 : Int32) (u : Mm) : Option (Int32 × Mm) :=
  if 5 < v3 then
  (letv (v2 + 1) fun (v2_2 : Int32) =>
   j4 v1 v2_2 u)
  else
  (bI (gX3_follow v2 v3 u) fun (r4 : Int32) (u3 : Mm) =>
   if r4 = 0 then
   (gX3_fieldsWithin_35 j4 j12 v1 v2 v3 (-9) u3)
   else
   ((gX3_fieldThere u3).bind fun (r6 : Int32) =>
    gX3_fieldsWithin_35 j4 j12 v1 v2 v3 r6 u3))
def gX3_fieldsWithin_12_L (j4 : Int32 → Int32 → Mm → Option (Int32 × Mm)) (v2 : Int32) : Nat → Int32 → Int32 → Mm → Option (Int32 × Mm)
  | 0 => fun _ _ _ => none
  | n + 1 => gX3_fieldsWithin_12_Ls j4 v2 (gX3_fieldsWithin_12_L j4 v2 n)
def gX3_fieldsWithin_4_Ls (j4 : Int32 → Int32 → Mm → Option (Int32 × Mm)) (v1 : Int32) (v2 : Int32) (u : Mm) : Option (Int32 × Mm) :=
  if 30 < v2 then
  (some (v1, u))
  else
  (gX3_fieldsWithin_12_L j4 v2 FU v1 0 u)
def gX3_fieldsWithin_4_L : Nat → Int32 → Int32 → Mm → Option (Int32 × Mm)
  | 0 => fun _ _ _ => none
  | n + 1 => gX3_fieldsWithin_4_Ls (gX3_fieldsWithin_4_L n)
def gX3_fieldsWithin_b (u : Mm) : Option (Int32 × Mm) :=
  gX3_fieldsWithin_4_L FU 0 0 u
def gX3_fieldsWithin (u : Mm) : Option (Int32 × Mm) := gX3_fieldsWithin_b u
-- X3_somePlanLeadsInto: somePlanLeadsInto (I)Z, depth 5
def gX3_somePlanLeadsInto_10_Ls (j2 : Int32 → Mm → Option (Int32 × Mm)) (v1 : Int32) (v2 : Int32) (j10 : Int32 → Mm → Option (Int32 × Mm)) (v3 : Int32) (u : Mm) : Option (Int32 × Mm) :=
  if 5 < v3 then
  (letv (v2 + 1) fun (v2_2 : Int32) =>
   j2 v2_2 u)
  else
  (bI (gX3_follow v2 v3 u) fun (r4 : Int32) (u3 : Mm) =>
   if r4 = 0 then
   (letv (v3 + 1) fun (v3_6 : Int32) =>
    j10 v3_6 u3)
   else
   ((gX3_fieldThere u3).bind fun (r7 : Int32) =>
    if r7 = v1 then
    (some (1, u3))
    else
    (letv (v3 + 1) fun (v3_9 : Int32) =>
     j10 v3_9 u3)))
def gX3_somePlanLeadsInto_10_L (j2 : Int32 → Mm → Option (Int32 × Mm)) (v1 : Int32) (v2 : Int32) : Nat → Int32 → Mm → Option (Int32 × Mm)
  | 0 => fun _ _ => none
  | n + 1 => gX3_somePlanLeadsInto_10_Ls j2 v1 v2 (gX3_somePlanLeadsInto_10_L j2 v1 v2 n)
def gX3_somePlanLeadsInto_2_Ls (v1 : Int32) (j2 : Int32 → Mm → Option (Int32 × Mm)) (v2 : Int32) (u : Mm) : Option (Int32 × Mm) :=
  if 30 < v2 then
  (some (0, u))
  else
  (gX3_somePlanLeadsInto_10_L j2 v1 v2 FU 0 u)
def gX3_somePlanLeadsInto_2_L (v1 : Int32) : Nat → Int32 → Mm → Option (Int32 × Mm)
  | 0 => fun _ _ => none
  | n + 1 => gX3_somePlanLeadsInto_2_Ls v1 (gX3_somePlanLeadsInto_2_L v1 n)
def gX3_somePlanLeadsInto_b (v1 : Int32) (u : Mm) : Option (Int32 × Mm) :=
  gX3_somePlanLeadsInto_2_L v1 FU 0 u
def gX3_somePlanLeadsInto (v1 : Int32) (u : Mm) : Option (Int32 × Mm) := gX3_somePlanLeadsInto_b v1 u
-- X3_hasGasOver: hasGasOver ()Z, depth 0
def gX3_hasGasOver_b (u : Mm) : Option Int32 :=
  if (u 57 4) = 30 then
  (if 0 < (u 68 4) then
   (some 1)
   else
   (some 0))
  else
  (some 0)
def gX3_hasGasOver (u : Mm) : Option Int32 := gX3_hasGasOver_b u
-- X3_answerEach: answerEach (I)V, depth 3
def gX3_answerEach_71 (j25 : Int32 → Int32 → Mm → Option Mm) (v1 : Int32) (v3 : Int32) (s0 : Int32) (u : Mm) : Option Mm :=
  letv (iabs ((u 69 0) - (u 67 0))) fun (v4_1 : Int32) =>
  if v3 < 20 then
  (letv (stm u 57 11 (imax (u 57 11) v4_1)) fun (u5 : Mm) =>
   letv (v3 + 1) fun (v3_6 : Int32) =>
   j25 s0 v3_6 u5)
  else
  (letv (stm u 57 12 (imax (u 57 12) v4_1)) fun (u3 : Mm) =>
   letv (v3 + 1) fun (v3_4 : Int32) =>
   j25 s0 v3_4 u3)
def gX3_answerEach_50 (j25 : Int32 → Int32 → Mm → Option Mm) (v1 : Int32) (v2 : Int32) (v3 : Int32) (s0 : Int32) (u : Mm) : Option Mm :=
  (gX2_fly 69 s0 58 u).bind fun (u1 : Mm) =>
  if (v2 + 1) < v1 then
  (gX3_answerEach_71 j25 v1 v3 (v2 + 1) u1)
  else
  (gX3_answerEach_71 j25 v1 v3 0 u1)
def gX3_answerEach_25_Ls (v1 : Int32) (j25 : Int32 → Int32 → Mm → Option Mm) (v2 : Int32) (v3 : Int32) (u : Mm) : Option Mm :=
  if v3 < 40 then
  (if v2 = 0 then
   ((gX2_feltAct 69 u).bind fun (r3 : Int32) =>
    gX3_answerEach_50 j25 v1 v2 v3 r3 u)
   else
   (gX3_answerEach_50 j25 v1 v2 v3 0 u))
  else
  (some u)
def gX3_answerEach_25_L (v1 : Int32) : Nat → Int32 → Int32 → Mm → Option Mm
  | 0 => fun _ _ _ => none
  | n + 1 => gX3_answerEach_25_Ls v1 (gX3_answerEach_25_L v1 n)
def gX3_answerEach_b (v1 : Int32) (u : Mm) : Option Mm :=
  letv (stm u 57 11 0) fun (u1 : Mm) =>
  letv (stm u1 57 12 0) fun (u2 : Mm) =>
  (gX2_copyFrom 69 67 u2).bind fun (u3 : Mm) =>
  gX3_answerEach_25_L v1 FU 0 0 u3
def gX3_answerEach (v1 : Int32) (u : Mm) : Option Mm := gX3_answerEach_b v1 u
-- X3_swingGrows: swingGrows ()Z, depth 0
def gX3_swingGrows_b (u : Mm) : Option Int32 :=
  if (u 57 11) < (u 57 12) then
  (some 1)
  else
  (some 0)
def gX3_swingGrows (u : Mm) : Option Int32 := gX3_swingGrows_b u
-- X3_firstHeightUnlike: firstHeightUnlike (LDownAmongFences$Row;)I, depth 3
def gX3_firstHeightUnlike_13_Ls (k1 : Nat) (j13 : Int32 → Mm → Option (Int32 × Mm)) (v2 : Int32) (u : Mm) : Option (Int32 × Mm) :=
  if v2 < (u k1 0) then
  ((gX2_holdAct 69 u).bind fun (r2 : Int32) =>
   (gX2_fly 69 r2 58 u).bind fun (u3 : Mm) =>
   (gX7_at k1 v2 u3).bind fun (r4 : Int32) =>
   if (u3 69 0) = r4 then
   (letv (v2 + 1) fun (v2_6 : Int32) =>
    j13 v2_6 u3)
   else
   (some (v2, u3)))
  else
  (some ((-9), u))
def gX3_firstHeightUnlike_13_L (k1 : Nat) : Nat → Int32 → Mm → Option (Int32 × Mm)
  | 0 => fun _ _ => none
  | n + 1 => gX3_firstHeightUnlike_13_Ls k1 (gX3_firstHeightUnlike_13_L k1 n)
def gX3_firstHeightUnlike_b (k1 : Nat) (u : Mm) : Option (Int32 × Mm) :=
  (gX2_copyFrom 69 67 u).bind fun (u1 : Mm) =>
  gX3_firstHeightUnlike_13_L k1 FU 0 u1
def gX3_firstHeightUnlike (k1 : Nat) (u : Mm) : Option (Int32 × Mm) := gX3_firstHeightUnlike_b k1 u
-- X3_flyActs: flyActs (LDownAmongFences$Row;)V, depth 3
def gX3_flyActs_13_Ls (k1 : Nat) (j13 : Int32 → Mm → Option Mm) (v2 : Int32) (u : Mm) : Option Mm :=
  if v2 < (u k1 0) then
  ((gX7_at k1 v2 u).bind fun (r2 : Int32) =>
   (gX2_able 69 (irm r2 3) u).bind fun (r3 : Int32) =>
   (gX2_fly 69 r3 58 u).bind fun (u4 : Mm) =>
   letv (v2 + 1) fun (v2_5 : Int32) =>
   j13 v2_5 u4)
  else
  (some u)
def gX3_flyActs_13_L (k1 : Nat) : Nat → Int32 → Mm → Option Mm
  | 0 => fun _ _ => none
  | n + 1 => gX3_flyActs_13_Ls k1 (gX3_flyActs_13_L k1 n)
def gX3_flyActs_b (k1 : Nat) (u : Mm) : Option Mm :=
  (gX2_copyFrom 69 67 u).bind fun (u1 : Mm) =>
  gX3_flyActs_13_L k1 FU 0 u1
def gX3_flyActs (k1 : Nat) (u : Mm) : Option Mm := gX3_flyActs_b k1 u
-- X3_flyOneByLot: flyOneByLot (I)I, depth 3
def gX3_flyOneByLot_84 (j18 : Int32 → Int32 → Int32 → Mm → Option (Int32 × Mm)) (v2 : Int32) (v4 : Int32) (s0 : Int32) (u : Mm) : Option (Int32 × Mm) :=
  letv (v4 + 1) fun (v4_1 : Int32) =>
  j18 v2 s0 v4_1 u
def gX3_flyOneByLot_18_Ls (j18 : Int32 → Int32 → Int32 → Mm → Option (Int32 × Mm)) (v2 : Int32) (v3 : Int32) (v4 : Int32) (u : Mm) : Option (Int32 × Mm) :=
  if v4 < 40 then
  (if v3 = 0 then
   (letv ((v2 * 1103515245) + 12345) fun (v2_3 : Int32) =>
    letv (irm ((v2_3 &&& 2147483647) / 65536) 3) fun (v5_4 : Int32) =>
    (gX2_able 69 v5_4 u).bind fun (r5 : Int32) =>
    (gX2_fly 69 r5 58 u).bind fun (u6 : Mm) =>
    if (u6 69 0) = 0 then
    (gX3_flyOneByLot_84 j18 v2_3 v4 1 u6)
    else
    (gX3_flyOneByLot_84 j18 v2_3 v4 0 u6))
   else
   (some (v2, u)))
  else
  (some (v2, u))
def gX3_flyOneByLot_18_L : Nat → Int32 → Int32 → Int32 → Mm → Option (Int32 × Mm)
  | 0 => fun _ _ _ _ => none
  | n + 1 => gX3_flyOneByLot_18_Ls (gX3_flyOneByLot_18_L n)
def gX3_flyOneByLot_b (v1 : Int32) (u : Mm) : Option (Int32 × Mm) :=
  (gX2_copyFrom 69 67 u).bind fun (u1 : Mm) =>
  gX3_flyOneByLot_18_L FU v1 0 0 u1
def gX3_flyOneByLot (v1 : Int32) (u : Mm) : Option (Int32 × Mm) := gX3_flyOneByLot_b v1 u
-- X3_flyByLot: flyByLot (II)V, depth 4
def gX3_flyByLot_91 (j15 : Int32 → Int32 → Mm → Option Mm) (v1 : Int32) (v3 : Int32) (v4 : Int32) (s0 : Int32) (s1 : Int32) (u : Mm) : Option Mm :=
  letv (stm u 57 13 (s1 + s0)) fun (u1 : Mm) =>
  letv (v4 + 1) fun (v4_2 : Int32) =>
  j15 v3 v4_2 u1
def gX3_flyByLot_90 (j15 : Int32 → Int32 → Mm → Option Mm) (v1 : Int32) (v3 : Int32) (v4 : Int32) (s0 : Int32) (u : Mm) : Option Mm :=
  gX3_flyByLot_91 j15 v1 v3 v4 0 s0 u
def gX3_flyByLot_63 (j15 : Int32 → Int32 → Mm → Option Mm) (v1 : Int32) (v3 : Int32) (v4 : Int32) (v5 : Int32) (s0 : Int32) (s1 : Int32) (u : Mm) : Option Mm :=
  letv (stm u 57 14 (s1 + s0)) fun (u1 : Mm) =>
  if v5 = 0 then
  (gX3_flyByLot_90 j15 v1 v3 v4 (u1 57 13) u1)
  else
  ((gX3_fieldThere u1).bind fun (r3 : Int32) =>
   if r3 = (-9) then
   (gX3_flyByLot_90 j15 v1 v3 v4 (u1 57 13) u1)
   else
   (gX3_flyByLot_91 j15 v1 v3 v4 1 (u1 57 13) u1))
def gX3_flyByLot_42 (j15 : Int32 → Int32 → Mm → Option Mm) (v1 : Int32) (v3 : Int32) (v4 : Int32) (s0 : Int32) (u : Mm) : Option Mm :=
  if s0 = 0 then
  (gX3_flyByLot_63 j15 v1 v3 v4 s0 40 (u 57 14) u)
  else
  ((gX3_costThere u).bind fun (r2 : Int32) =>
   gX3_flyByLot_63 j15 v1 v3 v4 s0 r2 (u 57 14) u)
def gX3_flyByLot_15_Ls (v1 : Int32) (j15 : Int32 → Int32 → Mm → Option Mm) (v3 : Int32) (v4 : Int32) (u : Mm) : Option Mm :=
  if v4 < v1 then
  (bI (gX3_flyOneByLot v3 u) fun (r3 : Int32) (u2 : Mm) =>
   if (u2 69 0) = 0 then
   (gX3_flyByLot_42 j15 v1 r3 v4 1 u2)
   else
   (gX3_flyByLot_42 j15 v1 r3 v4 0 u2))
  else
  (some u)
def gX3_flyByLot_15_L (v1 : Int32) : Nat → Int32 → Int32 → Mm → Option Mm
  | 0 => fun _ _ _ => none
  | n + 1 => gX3_flyByLot_15_Ls v1 (gX3_flyByLot_15_L v1 n)
def gX3_flyByLot_b (v1 : Int32) (v2 : Int32) (u : Mm) : Option Mm :=
  letv (stm u 57 13 0) fun (u1 : Mm) =>
  letv (stm u1 57 14 0) fun (u2 : Mm) =>
  gX3_flyByLot_15_L v1 FU v2 0 u2
def gX3_flyByLot (v1 : Int32) (v2 : Int32) (u : Mm) : Option Mm := gX3_flyByLot_b v1 v2 u
-- X3_climbAll: climbAll ()V, depth 3
def gX3_climbAll_29_Ls (j29 : Int32 → Mm → Option Mm) (v1 : Int32) (u : Mm) : Option Mm :=
  if 60 < v1 then
  (some u)
  else
  ((gX2_able 69 1 u).bind fun (r2 : Int32) =>
   (gX2_fly 69 r2 58 u).bind fun (u3 : Mm) =>
   if (u3 57 15) < (u3 69 0) then
   (letv (stm u3 57 15 (u3 69 0)) fun (u6 : Mm) =>
    letv (stm u6 57 16 v1) fun (u7 : Mm) =>
    letv (v1 + 1) fun (v1_8 : Int32) =>
    j29 v1_8 u7)
   else
   (letv (v1 + 1) fun (v1_5 : Int32) =>
    j29 v1_5 u3))
def gX3_climbAll_29_L : Nat → Int32 → Mm → Option Mm
  | 0 => fun _ _ => none
  | n + 1 => gX3_climbAll_29_Ls (gX3_climbAll_29_L n)
def gX3_climbAll_b (u : Mm) : Option Mm :=
  (gX2_copyFrom 69 67 u).bind fun (u1 : Mm) =>
  letv (stm u1 57 15 (u1 69 0)) fun (u2 : Mm) =>
  letv (stm u2 57 16 0) fun (u3 : Mm) =>
  gX3_climbAll_29_L FU 1 u3
def gX3_climbAll (u : Mm) : Option Mm := gX3_climbAll_b u
-- X3_playGame: playGame ()V, depth 5
def gX3_playGame_43 (j2 : Int32 → Mm → Option Mm) (j9 : Int32 → Mm → Option Mm) (v1 : Int32) (v2 : Int32) (s0 : Int32) (s1 : Int32) (u : Mm) : Option Mm :=
  gd (ix s1 6) <|
  letv (stm u 70 (ixn s1) s0) fun (u1 : Mm) =>
  letv (v2 + 1) fun (v2_3 : Int32) =>
  j9 v2_3 u1
def gX3_playGame_9_Ls (j2 : Int32 → Mm → Option Mm) (v1 : Int32) (j9 : Int32 → Mm → Option Mm) (v2 : Int32) (u : Mm) : Option Mm :=
  if v2 < 3 then
  (bI (gX3_follow (5 * v2) 1 u) fun (r6 : Int32) (u5 : Mm) =>
   if r6 = 0 then
   (gX3_playGame_43 j2 j9 v1 v2 40 ((v2 * 2) + v1) u5)
   else
   ((gX3_costThere u5).bind fun (r8 : Int32) =>
    gX3_playGame_43 j2 j9 v1 v2 r8 ((v2 * 2) + v1) u5))
  else
  ((gX0_turnAbout 58 u).bind fun (u2 : Mm) =>
   (gX3_rewind u2).bind fun (u3 : Mm) =>
   letv (v1 + 1) fun (v1_4 : Int32) =>
   j2 v1_4 u3)
def gX3_playGame_9_L (j2 : Int32 → Mm → Option Mm) (v1 : Int32) : Nat → Int32 → Mm → Option Mm
  | 0 => fun _ _ => none
  | n + 1 => gX3_playGame_9_Ls j2 v1 (gX3_playGame_9_L j2 v1 n)
def gX3_playGame_2_Ls (j2 : Int32 → Mm → Option Mm) (v1 : Int32) (u : Mm) : Option Mm :=
  if v1 < 2 then
  (gX3_playGame_9_L j2 v1 FU 0 u)
  else
  (some u)
def gX3_playGame_2_L : Nat → Int32 → Mm → Option Mm
  | 0 => fun _ _ => none
  | n + 1 => gX3_playGame_2_Ls (gX3_playGame_2_L n)
def gX3_playGame_b (u : Mm) : Option Mm :=
  gX3_playGame_2_L FU 0 u
def gX3_playGame (u : Mm) : Option Mm := gX3_playGame_b u
-- X3_lossBy: lossBy (II)I, depth 0
def gX3_lossBy_b (v1 : Int32) (v2 : Int32) (u : Mm) : Option Int32 :=
  if v1 < 0 then
  (some (-9))
  else
  (if v1 < 3 then
   (if v2 < 0 then
    (some (-9))
    else
    (if v2 < 2 then
     (gd (ix ((v1 * 2) + v2) 6) <|
      some (u 70 (ixn ((v1 * 2) + v2))))
     else
     (some (-9))))
   else
   (some (-9)))
def gX3_lossBy (v1 : Int32) (v2 : Int32) (u : Mm) : Option Int32 := gX3_lossBy_b v1 v2 u
-- X3_surestLoss: surestLoss ()I, depth 1
def gX3_surestLoss_18_Ls (u : Mm) (j18 : Int32 → Int32 → Option Int32) (v1 : Int32) (v2 : Int32) : Option Int32 :=
  if v2 < 3 then
  ((gX3_lossBy v2 0 u).bind fun (r2 : Int32) =>
   (gX3_lossBy v2 1 u).bind fun (r3 : Int32) =>
   letv (imin v1 (imax r2 r3)) fun (v1_4 : Int32) =>
   letv (v2 + 1) fun (v2_5 : Int32) =>
   j18 v1_4 v2_5)
  else
  (some v1)
def gX3_surestLoss_18_L (u : Mm) : Nat → Int32 → Int32 → Option Int32
  | 0 => fun _ _ => none
  | n + 1 => gX3_surestLoss_18_Ls u (gX3_surestLoss_18_L u n)
def gX3_surestLoss_b (u : Mm) : Option Int32 :=
  (gX3_lossBy 0 0 u).bind fun (r1 : Int32) =>
  (gX3_lossBy 0 1 u).bind fun (r2 : Int32) =>
  letv (imax r1 r2) fun (v1_3 : Int32) =>
  gX3_surestLoss_18_L u FU v1_3 1
def gX3_surestLoss (u : Mm) : Option Int32 := gX3_surestLoss_b u
-- X3_leastLossIf: leastLossIf (I)I, depth 1
def gX3_leastLossIf_9_Ls (v1 : Int32) (u : Mm) (j9 : Int32 → Int32 → Option Int32) (v2 : Int32) (v3 : Int32) : Option Int32 :=
  if v3 < 3 then
  ((gX3_lossBy v3 v1 u).bind fun (r2 : Int32) =>
   letv (imin v2 r2) fun (v2_3 : Int32) =>
   letv (v3 + 1) fun (v3_4 : Int32) =>
   j9 v2_3 v3_4)
  else
  (some v2)
def gX3_leastLossIf_9_L (v1 : Int32) (u : Mm) : Nat → Int32 → Int32 → Option Int32
  | 0 => fun _ _ => none
  | n + 1 => gX3_leastLossIf_9_Ls v1 u (gX3_leastLossIf_9_L v1 u n)
def gX3_leastLossIf_b (v1 : Int32) (u : Mm) : Option Int32 :=
  (gX3_lossBy 0 v1 u).bind fun (r1 : Int32) =>
  gX3_leastLossIf_9_L v1 u FU r1 1
def gX3_leastLossIf (v1 : Int32) (u : Mm) : Option Int32 := gX3_leastLossIf_b v1 u
-- X3_steadyPair: steadyPair ()I, depth 2
def gX3_steadyPair_9_Ls (j2 : Int32 → Option Int32) (v1 : Int32) (u : Mm) (j9 : Int32 → Option Int32) (v2 : Int32) : Option Int32 :=
  if v2 < 2 then
  ((gX3_lossBy v1 v2 u).bind fun (r3 : Int32) =>
   (gX3_lossBy v1 (1 - v2) u).bind fun (r4 : Int32) =>
   if r3 < r4 then
   (letv (v2 + 1) fun (v2_6 : Int32) =>
    j9 v2_6)
   else
   ((gX3_leastLossIf v2 u).bind fun (r7 : Int32) =>
    if r7 < r3 then
    (letv (v2 + 1) fun (v2_9 : Int32) =>
     j9 v2_9)
    else
    (some ((10 * v1) + v2))))
  else
  (letv (v1 + 1) fun (v1_2 : Int32) =>
   j2 v1_2)
def gX3_steadyPair_9_L (j2 : Int32 → Option Int32) (v1 : Int32) (u : Mm) : Nat → Int32 → Option Int32
  | 0 => fun _ => none
  | n + 1 => gX3_steadyPair_9_Ls j2 v1 u (gX3_steadyPair_9_L j2 v1 u n)
def gX3_steadyPair_2_Ls (u : Mm) (j2 : Int32 → Option Int32) (v1 : Int32) : Option Int32 :=
  if v1 < 3 then
  (gX3_steadyPair_9_L j2 v1 u FU 0)
  else
  (some (-9))
def gX3_steadyPair_2_L (u : Mm) : Nat → Int32 → Option Int32
  | 0 => fun _ => none
  | n + 1 => gX3_steadyPair_2_Ls u (gX3_steadyPair_2_L u n)
def gX3_steadyPair_b (u : Mm) : Option Int32 :=
  gX3_steadyPair_2_L u FU 0
def gX3_steadyPair (u : Mm) : Option Int32 := gX3_steadyPair_b u
-- X4_slotOfLatest: slotOfLatest ()LDownAmongFences$Flight;, depth 0
def gX4_slotOfLatest_b (u : Mm) : Option Nat :=
  if (u 41 1) < 0 then
  (some 0)
  else
  (if (u 41 1) < 8 then
   (gd (ix (u 41 1) 8) <|
    some (42 + 1 + ixn (u 41 1)))
   else
   (some 0))
def gX4_slotOfLatest (u : Mm) : Option Nat := gX4_slotOfLatest_b u
-- X4_add: add (LDownAmongFences$Flight;)V, depth 1
def gX4_add_27 (k1 : Nat) (u : Mm) : Option Mm :=
  letv (stm u 41 0 (imin ((u 41 0) + 1) 8)) fun (u1 : Mm) =>
  some u1
def gX4_add_b (k1 : Nat) (u : Mm) : Option Mm :=
  letv (stm u 41 1 (irm ((u 41 1) + 1) 8)) fun (u1 : Mm) =>
  (gX4_slotOfLatest u1).bind fun (r2 : Nat) =>
  if r2 = 0 then
  (gX4_add_27 k1 u1)
  else
  (gd (kd r2 = 5) <|
  (gX2_copyFrom r2 k1 u1).bind fun (u5 : Mm) =>
  gX4_add_27 k1 u5)
def gX4_add (k1 : Nat) (u : Mm) : Option Mm := gX4_add_b k1 u
-- X4_takeBack: takeBack (LDownAmongFences$Flight;)V, depth 1
def gX4_takeBack_14 (k1 : Nat) (u : Mm) : Option Mm :=
  letv (stm u 41 1 (irm (((u 41 1) + 8) - 1) 8)) fun (u1 : Mm) =>
  letv (stm u1 41 0 (imax ((u1 41 0) - 1) 0)) fun (u2 : Mm) =>
  some u2
def gX4_takeBack_b (k1 : Nat) (u : Mm) : Option Mm :=
  (gX4_slotOfLatest u).bind fun (r1 : Nat) =>
  if r1 = 0 then
  (gX4_takeBack_14 k1 u)
  else
  (gd (kd r1 = 5) <|
  (gX2_copyFrom k1 r1 u).bind fun (u4 : Mm) =>
  gX4_takeBack_14 k1 u4)
def gX4_takeBack (k1 : Nat) (u : Mm) : Option Mm := gX4_takeBack_b k1 u
-- X4_forget: forget ()V, depth 0
def gX4_forget_b (u : Mm) : Option Mm :=
  letv (stm u 41 0 0) fun (u1 : Mm) =>
  some u1
def gX4_forget (u : Mm) : Option Mm := gX4_forget_b u
-- X5_isDigit: isDigit (I)Z, depth 1
def gX5_isDigit_b (v1 : Int32) (u : Mm) : Option Int32 :=
  (gX7_at 52 v1 u).bind fun (r1 : Int32) =>
  if r1 < 48 then
  (some 0)
  else
  ((gX7_at 52 v1 u).bind fun (r3 : Int32) =>
   if 57 < r3 then
   (some 0)
   else
   (some 1))
def gX5_isDigit (v1 : Int32) (u : Mm) : Option Int32 := gX5_isDigit_b v1 u
-- X5_number: number (II)I, depth 1
def gX5_number_5_Ls (v1 : Int32) (v2 : Int32) (u : Mm) (j5 : Int32 → Int32 → Option Int32) (v3 : Int32) (v4 : Int32) : Option Int32 :=
  if v4 < v2 then
  ((gX7_at 52 (v1 + v4) u).bind fun (r2 : Int32) =>
   letv (((10 * v3) + r2) - 48) fun (v3_3 : Int32) =>
   letv (v4 + 1) fun (v4_4 : Int32) =>
   j5 v3_3 v4_4)
  else
  (some v3)
def gX5_number_5_L (v1 : Int32) (v2 : Int32) (u : Mm) : Nat → Int32 → Int32 → Option Int32
  | 0 => fun _ _ => none
  | n + 1 => gX5_number_5_Ls v1 v2 u (gX5_number_5_L v1 v2 u n)
def gX5_number_b (v1 : Int32) (v2 : Int32) (u : Mm) : Option Int32 :=
  gX5_number_5_L v1 v2 u FU 0 0
def gX5_number (v1 : Int32) (v2 : Int32) (u : Mm) : Option Int32 := gX5_number_b v1 v2 u
-- X5_endOfDigits: endOfDigits (III)I, depth 2
def gX5_endOfDigits_26 (v1 : Int32) (v2 : Int32) (v4 : Int32) (u : Mm) : Option Int32 :=
  if v4 < (v1 + v2) then
  (some ((-1) - v4))
  else
  ((gX7_at 52 v4 u).bind fun (r2 : Int32) =>
   if r2 = 59 then
   (some v4)
   else
   (some ((-1) - v4)))
def gX5_endOfDigits_3_Ls (v1 : Int32) (v2 : Int32) (v3 : Int32) (u : Mm) (j3 : Int32 → Option Int32) (v4 : Int32) : Option Int32 :=
  if v4 < (v1 + v3) then
  ((gX5_isDigit v4 u).bind fun (r2 : Int32) =>
   if r2 = 0 then
   (gX5_endOfDigits_26 v1 v2 v4 u)
   else
   (letv (v4 + 1) fun (v4_4 : Int32) =>
    j3 v4_4))
  else
  (gX5_endOfDigits_26 v1 v2 v4 u)
def gX5_endOfDigits_3_L (v1 : Int32) (v2 : Int32) (v3 : Int32) (u : Mm) : Nat → Int32 → Option Int32
  | 0 => fun _ => none
  | n + 1 => gX5_endOfDigits_3_Ls v1 v2 v3 u (gX5_endOfDigits_3_L v1 v2 v3 u n)
def gX5_endOfDigits_b (v1 : Int32) (v2 : Int32) (v3 : Int32) (u : Mm) : Option Int32 :=
  gX5_endOfDigits_3_L v1 v2 v3 u FU v1
def gX5_endOfDigits (v1 : Int32) (v2 : Int32) (v3 : Int32) (u : Mm) : Option Int32 := gX5_endOfDigits_b v1 v2 v3 u
-- X5_endOfWind: endOfWind (I)I, depth 3
def gX5_endOfWind_45 (v1 : Int32) (u : Mm) : Option Int32 :=
  (gX5_endOfDigits (v1 + 3) 2 2 u).bind fun (r1 : Int32) =>
  some r1
def gX5_endOfWind_b (v1 : Int32) (u : Mm) : Option Int32 :=
  (gX5_isDigit (v1 + 1) u).bind fun (r1 : Int32) =>
  if r1 = 0 then
  (some ((-1) - (v1 + 1)))
  else
  ((gX7_at 52 (v1 + 2) u).bind fun (r3 : Int32) =>
   if r3 = 43 then
   (gX5_endOfWind_45 v1 u)
   else
   (if r3 = 45 then
    (gX5_endOfWind_45 v1 u)
    else
    (some ((-1) - (v1 + 2)))))
def gX5_endOfWind (v1 : Int32) (u : Mm) : Option Int32 := gX5_endOfWind_b v1 u
-- X5_endOf: endOf (I)I, depth 4
def gX5_endOf_b (v1 : Int32) (u : Mm) : Option Int32 :=
  (gX7_at 52 v1 u).bind fun (r1 : Int32) =>
  if r1 = 97 then
  ((gX5_endOfDigits (v1 + 1) 1 9 u).bind fun (r3 : Int32) =>
   some r3)
  else if r1 = 98 then
  ((gX5_endOfDigits (v1 + 1) 5 5 u).bind fun (r5 : Int32) =>
   some r5)
  else if r1 = 99 then
  (some ((-1) - v1))
  else if r1 = 100 then
  (some ((-1) - v1))
  else if r1 = 101 then
  (some ((-1) - v1))
  else if r1 = 102 then
  ((gX5_endOfDigits (v1 + 1) 10 10 u).bind fun (r10 : Int32) =>
   some r10)
  else if r1 = 103 then
  (some ((-1) - v1))
  else if r1 = 104 then
  ((gX5_endOfDigits (v1 + 1) 2 2 u).bind fun (r13 : Int32) =>
   some r13)
  else if r1 = 105 then
  (some ((-1) - v1))
  else if r1 = 106 then
  (some ((-1) - v1))
  else if r1 = 107 then
  (some ((-1) - v1))
  else if r1 = 108 then
  ((gX5_endOfDigits (v1 + 1) 1 1 u).bind fun (r18 : Int32) =>
   some r18)
  else if r1 = 109 then
  (some ((-1) - v1))
  else if r1 = 110 then
  (some ((-1) - v1))
  else if r1 = 111 then
  (some ((-1) - v1))
  else if r1 = 112 then
  (some ((-1) - v1))
  else if r1 = 113 then
  (some ((-1) - v1))
  else if r1 = 114 then
  ((gX5_endOfDigits (v1 + 1) 4 4 u).bind fun (r25 : Int32) =>
   some r25)
  else if r1 = 115 then
  (some ((-1) - v1))
  else if r1 = 116 then
  (some ((-1) - v1))
  else if r1 = 117 then
  (some ((-1) - v1))
  else if r1 = 118 then
  (some ((-1) - v1))
  else if r1 = 119 then
  ((gX5_endOfWind v1 u).bind fun (r31 : Int32) =>
   some r31)
  else 
  (some ((-1) - v1))
def gX5_endOf (v1 : Int32) (u : Mm) : Option Int32 := gX5_endOf_b v1 u
-- X5_firstMisplaced: firstMisplaced ()I, depth 5
def gX5_firstMisplaced_25 (j4 : Int32 → Int32 → Option Int32) (v1 : Int32) (v2 : Int32) (u : Mm) : Option Int32 :=
  (gX5_endOf v1 u).bind fun (r1 : Int32) =>
  if r1 < 0 then
  (some ((-1) - r1))
  else
  (letv (r1 + 1) fun (v1_3 : Int32) =>
   letv (v2 + 1) fun (v2_4 : Int32) =>
   j4 v1_3 v2_4)
def gX5_firstMisplaced_4_Ls (u : Mm) (j4 : Int32 → Int32 → Option Int32) (v1 : Int32) (v2 : Int32) : Option Int32 :=
  if v2 < 96 then
  (if v1 = 0 then
   (gX5_firstMisplaced_25 j4 v1 v2 u)
   else
   (if v1 < (u 52 0) then
    (gX5_firstMisplaced_25 j4 v1 v2 u)
    else
    (some (-9))))
  else
  (some (-9))
def gX5_firstMisplaced_4_L (u : Mm) : Nat → Int32 → Int32 → Option Int32
  | 0 => fun _ _ => none
  | n + 1 => gX5_firstMisplaced_4_Ls u (gX5_firstMisplaced_4_L u n)
def gX5_firstMisplaced_b (u : Mm) : Option Int32 :=
  gX5_firstMisplaced_4_L u FU 0 0
def gX5_firstMisplaced (u : Mm) : Option Int32 := gX5_firstMisplaced_b u
-- X5_tellWind: tellWind (ILDownAmongFences$Air;)Z, depth 2
def gX5_tellWind_53 (k2 : Nat) (v1 : Int32) (s0 : Int32) (s1 : Int32) (u : Mm) : Option (Int32 × Mm) :=
  (gX5_number (v1 + 4) 1 u).bind fun (r1 : Int32) =>
  (gX0_blow k2 s1 s0 r1 u).bind fun (u2 : Mm) =>
  some (1, u2)
def gX5_tellWind_b (k2 : Nat) (v1 : Int32) (u : Mm) : Option (Int32 × Mm) :=
  (gX5_number (v1 + 1) 1 u).bind fun (r1 : Int32) =>
  (gX10_isLayer r1).bind fun (r2 : Int32) =>
  if r2 = 0 then
  (some (0, u))
  else
  ((gX5_number (v1 + 3) 1 u).bind fun (r4 : Int32) =>
   (gX7_at 52 (v1 + 2) u).bind fun (r5 : Int32) =>
   if r5 = 45 then
   (gX5_tellWind_53 k2 v1 (-r4) r1 u)
   else
   (gX5_tellWind_53 k2 v1 r4 r1 u))
def gX5_tellWind (v1 : Int32) (k2 : Nat) (u : Mm) : Option (Int32 × Mm) := gX5_tellWind_b k2 v1 u
-- X5_tellField: tellField (ILDownAmongFences$Fields;)Z, depth 2
def gX5_tellField_b (k2 : Nat) (v1 : Int32) (u : Mm) : Option (Int32 × Mm) :=
  (gX5_number (v1 + 1) 1 u).bind fun (r1 : Int32) =>
  (gX5_number (v1 + 9) 2 u).bind fun (r2 : Int32) =>
  if 5 < r1 then
  (some (0, u))
  else
  (if r2 < 1 then
   (some (0, u))
   else
   (if 30 < r2 then
    (some (0, u))
    else
    ((gX1_isFull k2 u).bind fun (r6 : Int32) =>
     if r6 = 0 then
     ((gX5_number (v1 + 2) 1 u).bind fun (r8 : Int32) =>
      (gX5_number (v1 + 3) 3 u).bind fun (r9 : Int32) =>
      (gX5_number (v1 + 6) 3 u).bind fun (r10 : Int32) =>
      (gX1_add k2 r1 r8 r9 r10 r2 u).bind fun (u11 : Mm) =>
      some (1, u11))
     else
     (some (0, u)))))
def gX5_tellField (v1 : Int32) (k2 : Nat) (u : Mm) : Option (Int32 × Mm) := gX5_tellField_b k2 v1 u
-- X10_isPlace: isPlace (I)Z, depth 0
def gX10_isPlace_b (v0 : Int32) : Option Int32 :=
  if v0 < 0 then
  (some 0)
  else
  (if v0 < 8 then
   (some 1)
   else
   (some 0))
def gX10_isPlace (v0 : Int32) : Option Int32 := gX10_isPlace_b v0
-- X10_areTwoPlaces: areTwoPlaces (II)Z, depth 1
def gX10_areTwoPlaces_b (v0 : Int32) (v1 : Int32) : Option Int32 :=
  (gX10_isPlace v0).bind fun (r1 : Int32) =>
  if r1 = 0 then
  (some 0)
  else
  ((gX10_isPlace v1).bind fun (r3 : Int32) =>
   if r3 = 0 then
   (some 0)
   else
   (if v0 = v1 then
    (some 0)
    else
    (some 1)))
def gX10_areTwoPlaces (v0 : Int32) (v1 : Int32) : Option Int32 := gX10_areTwoPlaces_b v0 v1
-- X6_lay: lay (III)V, depth 1
def gX6_lay_b (k0 : Nat) (v1 : Int32) (v2 : Int32) (v3 : Int32) (u : Mm) : Option Mm :=
  (gX10_isPlace v1).bind fun (r1 : Int32) =>
  if r1 = 0 then
  (some u)
  else
  ((gX10_isPlace v2).bind fun (r3 : Int32) =>
   if r3 = 0 then
   (some u)
   else
   (gd (ix ((v1 * 8) + v2) 64) <|
    letv (stm u (k0 + 1) (ixn ((v1 * 8) + v2)) v3) fun (u5 : Mm) =>
    gd (ix ((v2 * 8) + v1) 64) <|
    letv (stm u5 (k0 + 1) (ixn ((v2 * 8) + v1)) v3) fun (u7 : Mm) =>
    some u7))
def gX6_lay (k0 : Nat) (v1 : Int32) (v2 : Int32) (v3 : Int32) (u : Mm) : Option Mm := gX6_lay_b k0 v1 v2 v3 u
-- X5_tellRoad: tellRoad (ILDownAmongFences$Roads;)Z, depth 2
def gX5_tellRoad_b (k2 : Nat) (v1 : Int32) (u : Mm) : Option (Int32 × Mm) :=
  (gX5_number (v1 + 1) 1 u).bind fun (r1 : Int32) =>
  (gX5_number (v1 + 2) 1 u).bind fun (r2 : Int32) =>
  (gX10_areTwoPlaces r1 r2).bind fun (r3 : Int32) =>
  if r3 = 0 then
  (some (0, u))
  else
  ((gX5_number (v1 + 3) 2 u).bind fun (r5 : Int32) =>
   (gX6_lay k2 r1 r2 r5 u).bind fun (u6 : Mm) =>
   some (1, u6))
def gX5_tellRoad (v1 : Int32) (k2 : Nat) (u : Mm) : Option (Int32 × Mm) := gX5_tellRoad_b k2 v1 u
-- X5_tellBalloon: tellBalloon (ILDownAmongFences$Flight;)Z, depth 2
def gX5_tellBalloon_b (k2 : Nat) (v1 : Int32) (u : Mm) : Option (Int32 × Mm) :=
  (gX5_number (v1 + 1) 2 u).bind fun (r1 : Int32) =>
  (gX5_number (v1 + 3) 2 u).bind fun (r2 : Int32) =>
  (gX5_number (v1 + 5) 1 u).bind fun (r3 : Int32) =>
  if 60 < r1 then
  (some (0, u))
  else
  (if 60 < r2 then
   (some (0, u))
   else
   (if r3 < 1 then
    (some (0, u))
    else
    (if 6 < r3 then
     (some (0, u))
     else
     (letv (stm u k2 3 r1) fun (u8 : Mm) =>
      letv (stm u8 k2 4 r2) fun (u9 : Mm) =>
      letv (stm u9 k2 5 r3) fun (u10 : Mm) =>
      some (1, u10)))))
def gX5_tellBalloon (v1 : Int32) (k2 : Nat) (u : Mm) : Option (Int32 × Mm) := gX5_tellBalloon_b k2 v1 u
-- X5_tellHeight: tellHeight (ILDownAmongFences$Flight;)Z, depth 2
def gX5_tellHeight_b (k2 : Nat) (v1 : Int32) (u : Mm) : Option (Int32 × Mm) :=
  (gX5_number (v1 + 1) 2 u).bind fun (r1 : Int32) =>
  if 39 < r1 then
  (some (0, u))
  else
  (letv (stm u k2 0 r1) fun (u3 : Mm) =>
   some (1, u3))
def gX5_tellHeight (v1 : Int32) (k2 : Nat) (u : Mm) : Option (Int32 × Mm) := gX5_tellHeight_b k2 v1 u
-- X5_tellLag: tellLag (ILDownAmongFences$Flight;)Z, depth 2
def gX5_tellLag_b (k2 : Nat) (v1 : Int32) (u : Mm) : Option (Int32 × Mm) :=
  (gX5_number (v1 + 1) 1 u).bind fun (r1 : Int32) =>
  if 5 < r1 then
  (some (0, u))
  else
  (letv (stm u k2 6 r1) fun (u3 : Mm) =>
   (gX2_loseWork k2 u3).bind fun (u4 : Mm) =>
   some (1, u4))
def gX5_tellLag (v1 : Int32) (k2 : Nat) (u : Mm) : Option (Int32 × Mm) := gX5_tellLag_b k2 v1 u
-- X5_tellActs: tellActs (IILDownAmongFences$World;)Z, depth 3
def gX5_tellActs_11_Ls (k3 : Nat) (v2 : Int32) (j11 : Int32 → Mm → Option (Int32 × Mm)) (v5 : Int32) (u : Mm) : Option (Int32 × Mm) :=
  if v5 < v2 then
  ((gX5_number v5 1 u).bind fun (r2 : Int32) =>
   if 2 < r2 then
   (some (0, u))
   else
   ((gX2_able (k3 + 12) r2 u).bind fun (r4 : Int32) =>
    if r4 = r2 then
    (if (u (k3 + 12) 7) < 999 then
     ((gX2_fly (k3 + 12) r2 (k3 + 1) u).bind fun (u7 : Mm) =>
      letv (v5 + 1) fun (v5_8 : Int32) =>
      j11 v5_8 u7)
     else
     (some (0, u)))
    else
    (some (0, u))))
  else
  (some (1, u))
def gX5_tellActs_11_L (k3 : Nat) (v2 : Int32) : Nat → Int32 → Mm → Option (Int32 × Mm)
  | 0 => fun _ _ => none
  | n + 1 => gX5_tellActs_11_Ls k3 v2 (gX5_tellActs_11_L k3 v2 n)
def gX5_tellActs_b (k3 : Nat) (v1 : Int32) (v2 : Int32) (u : Mm) : Option (Int32 × Mm) :=
  letv (v1 + 1) fun (v5_1 : Int32) =>
  gX5_tellActs_11_L k3 v2 FU v5_1 u
def gX5_tellActs (v1 : Int32) (v2 : Int32) (k3 : Nat) (u : Mm) : Option (Int32 × Mm) := gX5_tellActs_b k3 v1 v2 u
-- X5_tellStatement: tellStatement (IILDownAmongFences$World;)Z, depth 4
def gX5_tellStatement_b (k3 : Nat) (v1 : Int32) (v2 : Int32) (u : Mm) : Option (Int32 × Mm) :=
  (gX7_at 52 v1 u).bind fun (r1 : Int32) =>
  if r1 = 98 then
  (bI (gX5_tellBalloon v1 (k3 + 12) u) fun (r4 : Int32) (u3 : Mm) =>
   gd (r4 = 0 ∨ r4 = 1) <|
   some (r4, u3))
  else if r1 = 102 then
  (bI (gX5_tellField v1 (k3 + 4) u) fun (r8 : Int32) (u7 : Mm) =>
   gd (r8 = 0 ∨ r8 = 1) <|
   some (r8, u7))
  else if r1 = 104 then
  (bI (gX5_tellHeight v1 (k3 + 12) u) fun (r12 : Int32) (u11 : Mm) =>
   gd (r12 = 0 ∨ r12 = 1) <|
   some (r12, u11))
  else if r1 = 108 then
  (bI (gX5_tellLag v1 (k3 + 12) u) fun (r16 : Int32) (u15 : Mm) =>
   gd (r16 = 0 ∨ r16 = 1) <|
   some (r16, u15))
  else if r1 = 114 then
  (bI (gX5_tellRoad v1 (k3 + 10) u) fun (r20 : Int32) (u19 : Mm) =>
   gd (r20 = 0 ∨ r20 = 1) <|
   some (r20, u19))
  else if r1 = 119 then
  (bI (gX5_tellWind v1 (k3 + 1) u) fun (r24 : Int32) (u23 : Mm) =>
   gd (r24 = 0 ∨ r24 = 1) <|
   some (r24, u23))
  else 
  (bI (gX5_tellActs v1 v2 k3 u) fun (r27 : Int32) (u26 : Mm) =>
   gd (r27 = 0 ∨ r27 = 1) <|
   some (r27, u26))
def gX5_tellStatement (v1 : Int32) (v2 : Int32) (k3 : Nat) (u : Mm) : Option (Int32 × Mm) := gX5_tellStatement_b k3 v1 v2 u
-- X5_tell: tell (LDownAmongFences$World;)I, depth 5
def gX5_tell_4_Ls (k1 : Nat) (j4 : Int32 → Int32 → Mm → Option (Int32 × Mm)) (v2 : Int32) (v3 : Int32) (u : Mm) : Option (Int32 × Mm) :=
  if v2 < 96 then
  (if v3 < (u 52 0) then
   ((gX5_endOf v3 u).bind fun (r3 : Int32) =>
    bI (gX5_tellStatement v3 r3 k1 u) fun (r5 : Int32) (u4 : Mm) =>
    if r5 = 0 then
    (some ((-2000) - v3, u4))
    else
    (letv (r3 + 1) fun (v3_7 : Int32) =>
     letv (v2 + 1) fun (v2_8 : Int32) =>
     j4 v2_8 v3_7 u4))
   else
   (some (v2, u)))
  else
  (some (v2, u))
def gX5_tell_4_L (k1 : Nat) : Nat → Int32 → Int32 → Mm → Option (Int32 × Mm)
  | 0 => fun _ _ _ => none
  | n + 1 => gX5_tell_4_Ls k1 (gX5_tell_4_L k1 n)
def gX5_tell_b (k1 : Nat) (u : Mm) : Option (Int32 × Mm) :=
  gX5_tell_4_L k1 FU 0 0 u
def gX5_tell (k1 : Nat) (u : Mm) : Option (Int32 × Mm) := gX5_tell_b k1 u
-- X6_copyFrom: copyFrom (LDownAmongFences$Roads;)V, depth 0
def gX6_copyFrom_10_Ls (k0 : Nat) (k1 : Nat) (j10 : Int32 → Mm → Option Mm) (v2 : Int32) (u : Mm) : Option Mm :=
  if v2 < 64 then
  (gd (ix v2 64) <|
   gd (ix v2 64) <|
   letv (stm u (k0 + 1) (ixn v2) (u (k1 + 1) (ixn v2))) fun (u3 : Mm) =>
   letv (v2 + 1) fun (v2_5 : Int32) =>
   j10 v2_5 u3)
  else
  (some u)
def gX6_copyFrom_10_L (k0 : Nat) (k1 : Nat) : Nat → Int32 → Mm → Option Mm
  | 0 => fun _ _ => none
  | n + 1 => gX6_copyFrom_10_Ls k0 k1 (gX6_copyFrom_10_L k0 k1 n)
def gX6_copyFrom_b (k0 : Nat) (k1 : Nat) (u : Mm) : Option Mm :=
  letv (stm u k0 0 (u k1 0)) fun (u1 : Mm) =>
  gX6_copyFrom_10_L k0 k1 FU 0 u1
def gX6_copyFrom (k0 : Nat) (k1 : Nat) (u : Mm) : Option Mm := gX6_copyFrom_b k0 k1 u
-- X6_between: between (II)I, depth 1
def gX6_between_b (k0 : Nat) (v1 : Int32) (v2 : Int32) (u : Mm) : Option Int32 :=
  (gX10_isPlace v1).bind fun (r1 : Int32) =>
  if r1 = 0 then
  (some 0)
  else
  ((gX10_isPlace v2).bind fun (r3 : Int32) =>
   if r3 = 0 then
   (some 0)
   else
   (gd (ix ((v1 * 8) + v2) 64) <|
    some (u (k0 + 1) (ixn ((v1 * 8) + v2)))))
def gX6_between (k0 : Nat) (v1 : Int32) (v2 : Int32) (u : Mm) : Option Int32 := gX6_between_b k0 v1 v2 u
-- X6_nearestTo: nearestTo (I)I, depth 1
def gX6_nearestTo_36 (j4 : Int32 → Int32 → Option Int32) (v0 : Int32) (v2 : Int32) (s0 : Int32) : Option Int32 :=
  letv (v2 + 1) fun (v2_1 : Int32) =>
  j4 s0 v2_1
def gX6_nearestTo_4_Ls (v0 : Int32) (j4 : Int32 → Int32 → Option Int32) (v1 : Int32) (v2 : Int32) : Option Int32 :=
  if v2 < 8 then
  (if (iabs (v0 - (100 * v2))) < (iabs (v0 - (100 * v1))) then
   (gX6_nearestTo_36 j4 v0 v2 v2)
   else
   (gX6_nearestTo_36 j4 v0 v2 v1))
  else
  (some v1)
def gX6_nearestTo_4_L (v0 : Int32) : Nat → Int32 → Int32 → Option Int32
  | 0 => fun _ _ => none
  | n + 1 => gX6_nearestTo_4_Ls v0 (gX6_nearestTo_4_L v0 n)
def gX6_nearestTo_b (v0 : Int32) : Option Int32 :=
  gX6_nearestTo_4_L v0 FU 0 1
def gX6_nearestTo (v0 : Int32) : Option Int32 := gX6_nearestTo_b v0
-- X7_isFull: isFull ()Z, depth 0
def gX7_isFull_b (k0 : Nat) (u : Mm) : Option Int32 :=
  if (u k0 0) < (nI (sz (k0 + 1))) then
  (some 0)
  else
  (some 1)
def gX7_isFull (k0 : Nat) (u : Mm) : Option Int32 := gX7_isFull_b k0 u
-- X7_add: add (I)I, depth 0
def gX7_add_b (k0 : Nat) (v1 : Int32) (u : Mm) : Option (Int32 × Mm) :=
  if (u k0 0) < 0 then
  (some (u k0 0, u))
  else
  (if (u k0 0) < (nI (sz (k0 + 1))) then
   (gd (ix (u k0 0) (sz (k0 + 1))) <|
    letv (stm u (k0 + 1) (ixn (u k0 0)) v1) fun (u3 : Mm) =>
    letv (stm u3 k0 0 ((u3 k0 0) + 1)) fun (u5 : Mm) =>
    some (u5 k0 0, u5))
   else
   (some (u k0 0, u)))
def gX7_add (k0 : Nat) (v1 : Int32) (u : Mm) : Option (Int32 × Mm) := gX7_add_b k0 v1 u
-- X7_sum: sum ()I, depth 1
def gX7_sum_4_Ls (k0 : Nat) (u : Mm) (j4 : Int32 → Int32 → Option Int32) (v1 : Int32) (v2 : Int32) : Option Int32 :=
  if v2 < (u k0 0) then
  ((gX7_at k0 v2 u).bind fun (r2 : Int32) =>
   letv (v1 + r2) fun (v1_3 : Int32) =>
   letv (v2 + 1) fun (v2_4 : Int32) =>
   j4 v1_3 v2_4)
  else
  (some v1)
def gX7_sum_4_L (k0 : Nat) (u : Mm) : Nat → Int32 → Int32 → Option Int32
  | 0 => fun _ _ => none
  | n + 1 => gX7_sum_4_Ls k0 u (gX7_sum_4_L k0 u n)
def gX7_sum_b (k0 : Nat) (u : Mm) : Option Int32 :=
  gX7_sum_4_L k0 u FU 0 0
def gX7_sum (k0 : Nat) (u : Mm) : Option Int32 := gX7_sum_b k0 u
-- X7_drop: drop ()V, depth 0
def gX7_drop_b (k0 : Nat) (u : Mm) : Option Mm :=
  letv (stm u k0 0 0) fun (u1 : Mm) =>
  some u1
def gX7_drop (k0 : Nat) (u : Mm) : Option Mm := gX7_drop_b k0 u
-- X8_takeRoads: takeRoads (LDownAmongFences$Roads;)V, depth 2
def gX8_takeRoads_55 (k1 : Nat) (j2 : Int32 → Mm → Option Mm) (j10 : Int32 → Mm → Option Mm) (v2 : Int32) (v3 : Int32) (s0 : Int32) (s1 : Int32) (u : Mm) : Option Mm :=
  gd (ix s1 64) <|
  letv (stm u 72 (ixn s1) s0) fun (u1 : Mm) =>
  letv (v3 + 1) fun (v3_3 : Int32) =>
  j10 v3_3 u1
def gX8_takeRoads_10_Ls (k1 : Nat) (j2 : Int32 → Mm → Option Mm) (v2 : Int32) (j10 : Int32 → Mm → Option Mm) (v3 : Int32) (u : Mm) : Option Mm :=
  if v3 < 8 then
  ((gX6_between k1 v2 v3 u).bind fun (r3 : Int32) =>
   if v2 = v3 then
   (gX8_takeRoads_55 k1 j2 j10 v2 v3 0 ((v2 * 8) + v3) u)
   else
   (if 0 < r3 then
    (gX8_takeRoads_55 k1 j2 j10 v2 v3 r3 ((v2 * 8) + v3) u)
    else
    (gX8_takeRoads_55 k1 j2 j10 v2 v3 1000000 ((v2 * 8) + v3) u)))
  else
  (letv (v2 + 1) fun (v2_2 : Int32) =>
   j2 v2_2 u)
def gX8_takeRoads_10_L (k1 : Nat) (j2 : Int32 → Mm → Option Mm) (v2 : Int32) : Nat → Int32 → Mm → Option Mm
  | 0 => fun _ _ => none
  | n + 1 => gX8_takeRoads_10_Ls k1 j2 v2 (gX8_takeRoads_10_L k1 j2 v2 n)
def gX8_takeRoads_2_Ls (k1 : Nat) (j2 : Int32 → Mm → Option Mm) (v2 : Int32) (u : Mm) : Option Mm :=
  if v2 < 8 then
  (gX8_takeRoads_10_L k1 j2 v2 FU 0 u)
  else
  (some u)
def gX8_takeRoads_2_L (k1 : Nat) : Nat → Int32 → Mm → Option Mm
  | 0 => fun _ _ => none
  | n + 1 => gX8_takeRoads_2_Ls k1 (gX8_takeRoads_2_L k1 n)
def gX8_takeRoads_b (k1 : Nat) (u : Mm) : Option Mm :=
  gX8_takeRoads_2_L k1 FU 0 u
def gX8_takeRoads (k1 : Nat) (u : Mm) : Option Mm := gX8_takeRoads_b k1 u
-- X8_joinRoads: joinRoads ()V, depth 0
def gX8_joinRoads_31_Ls (j2 : Int32 → Mm → Option Mm) (j10 : Int32 → Mm → Option Mm) (v1 : Int32) (v2 : Int32) (v3 : Int32) (j31 : Int32 → Mm → Option Mm) (v4 : Int32) (u : Mm) : Option Mm :=
  if v4 < 8 then
  (if v3 < 1000000 then
   (gd (ix ((v1 * 8) + v4) 64) <|
    letv (v3 + (u 72 (ixn ((v1 * 8) + v4)))) fun (v5_6 : Int32) =>
    gd (ix ((v2 * 8) + v4) 64) <|
    if v5_6 < (u 72 (ixn ((v2 * 8) + v4))) then
    (gd (ix ((v2 * 8) + v4) 64) <|
     letv (stm u 72 (ixn ((v2 * 8) + v4)) v5_6) fun (u10 : Mm) =>
     letv (v4 + 1) fun (v4_12 : Int32) =>
     j31 v4_12 u10)
    else
    (letv (v4 + 1) fun (v4_9 : Int32) =>
     j31 v4_9 u))
   else
   (letv (v2 + 1) fun (v2_4 : Int32) =>
    j10 v2_4 u))
  else
  (letv (v2 + 1) fun (v2_2 : Int32) =>
   j10 v2_2 u)
def gX8_joinRoads_31_L (j2 : Int32 → Mm → Option Mm) (j10 : Int32 → Mm → Option Mm) (v1 : Int32) (v2 : Int32) (v3 : Int32) : Nat → Int32 → Mm → Option Mm
  | 0 => fun _ _ => none
  | n + 1 => gX8_joinRoads_31_Ls j2 j10 v1 v2 v3 (gX8_joinRoads_31_L j2 j10 v1 v2 v3 n)
def gX8_joinRoads_10_Ls (j2 : Int32 → Mm → Option Mm) (v1 : Int32) (j10 : Int32 → Mm → Option Mm) (v2 : Int32) (u : Mm) : Option Mm :=
  if v2 < 8 then
  (gd (ix ((v2 * 8) + v1) 64) <|
   letv (u 72 (ixn ((v2 * 8) + v1))) fun (v3_4 : Int32) =>
   gX8_joinRoads_31_L j2 j10 v1 v2 v3_4 FU 0 u)
  else
  (letv (v1 + 1) fun (v1_2 : Int32) =>
   j2 v1_2 u)
def gX8_joinRoads_10_L (j2 : Int32 → Mm → Option Mm) (v1 : Int32) : Nat → Int32 → Mm → Option Mm
  | 0 => fun _ _ => none
  | n + 1 => gX8_joinRoads_10_Ls j2 v1 (gX8_joinRoads_10_L j2 v1 n)
def gX8_joinRoads_2_Ls (j2 : Int32 → Mm → Option Mm) (v1 : Int32) (u : Mm) : Option Mm :=
  if v1 < 8 then
  (gX8_joinRoads_10_L j2 v1 FU 0 u)
  else
  (some u)
def gX8_joinRoads_2_L : Nat → Int32 → Mm → Option Mm
  | 0 => fun _ _ => none
  | n + 1 => gX8_joinRoads_2_Ls (gX8_joinRoads_2_L n)
def gX8_joinRoads_b (u : Mm) : Option Mm :=
  gX8_joinRoads_2_L FU 0 u
def gX8_joinRoads (u : Mm) : Option Mm := gX8_joinRoads_b u
-- X8_measure: measure (LDownAmongFences$Roads;)V, depth 3
def gX8_measure_b (k1 : Nat) (u : Mm) : Option Mm :=
  (gX8_takeRoads k1 u).bind fun (u1 : Mm) =>
  (gX8_joinRoads u1).bind fun (u2 : Mm) =>
  some u2
def gX8_measure (k1 : Nat) (u : Mm) : Option Mm := gX8_measure_b k1 u
-- X8_measureWithout: measureWithout (LDownAmongFences$Roads;II)V, depth 3
def gX8_measureWithout_39 (k1 : Nat) (u : Mm) : Option Mm :=
  (gX8_joinRoads u).bind fun (u1 : Mm) =>
  some u1
def gX8_measureWithout_b (k1 : Nat) (v2 : Int32) (v3 : Int32) (u : Mm) : Option Mm :=
  (gX8_takeRoads k1 u).bind fun (u1 : Mm) =>
  (gX10_areTwoPlaces v2 v3).bind fun (r2 : Int32) =>
  if r2 = 0 then
  (gX8_measureWithout_39 k1 u1)
  else
  (gd (ix ((v2 * 8) + v3) 64) <|
   letv (stm u1 72 (ixn ((v2 * 8) + v3)) 1000000) fun (u4 : Mm) =>
   gd (ix ((v3 * 8) + v2) 64) <|
   letv (stm u4 72 (ixn ((v3 * 8) + v2)) 1000000) fun (u6 : Mm) =>
   gX8_measureWithout_39 k1 u6)
def gX8_measureWithout (k1 : Nat) (v2 : Int32) (v3 : Int32) (u : Mm) : Option Mm := gX8_measureWithout_b k1 v2 v3 u
-- X8_minutes: minutes (II)I, depth 1
def gX8_minutes_b (v1 : Int32) (v2 : Int32) (u : Mm) : Option Int32 :=
  (gX10_isPlace v1).bind fun (r1 : Int32) =>
  if r1 = 0 then
  (some 1000000)
  else
  ((gX10_isPlace v2).bind fun (r3 : Int32) =>
   if r3 = 0 then
   (some 1000000)
   else
   (gd (ix ((v1 * 8) + v2) 64) <|
    some (u 72 (ixn ((v1 * 8) + v2)))))
def gX8_minutes (v1 : Int32) (v2 : Int32) (u : Mm) : Option Int32 := gX8_minutes_b v1 v2 u
-- X8_minutesOrNone: minutesOrNone (II)I, depth 2
def gX8_minutesOrNone_b (v1 : Int32) (v2 : Int32) (u : Mm) : Option Int32 :=
  (gX8_minutes v1 v2 u).bind fun (r1 : Int32) =>
  if r1 < 1000000 then
  (some r1)
  else
  (some (-9))
def gX8_minutesOrNone (v1 : Int32) (v2 : Int32) (u : Mm) : Option Int32 := gX8_minutesOrNone_b v1 v2 u
-- X8_waitFrom: waitFrom (ILDownAmongFences$Row;)I, depth 2
def gX8_waitFrom_42 (k2 : Nat) (j5 : Int32 → Int32 → Option Int32) (v1 : Int32) (v4 : Int32) (s0 : Int32) (s1 : Int32) (s2 : Int32) (u : Mm) : Option Int32 :=
  letv (s2 + (s1 * s0)) fun (v3_1 : Int32) =>
  letv (v4 + 1) fun (v4_2 : Int32) =>
  j5 v3_1 v4_2
def gX8_waitFrom_5_Ls (k2 : Nat) (v1 : Int32) (u : Mm) (j5 : Int32 → Int32 → Option Int32) (v3 : Int32) (v4 : Int32) : Option Int32 :=
  if v4 < 8 then
  ((gX8_minutes v1 v4 u).bind fun (r2 : Int32) =>
   (gX7_at k2 v4 u).bind fun (r3 : Int32) =>
   if r2 < 1000000 then
   (gX8_waitFrom_42 k2 j5 v1 v4 r2 r3 v3 u)
   else
   (gX8_waitFrom_42 k2 j5 v1 v4 99 r3 v3 u))
  else
  (some v3)
def gX8_waitFrom_5_L (k2 : Nat) (v1 : Int32) (u : Mm) : Nat → Int32 → Int32 → Option Int32
  | 0 => fun _ _ => none
  | n + 1 => gX8_waitFrom_5_Ls k2 v1 u (gX8_waitFrom_5_L k2 v1 u n)
def gX8_waitFrom_b (k2 : Nat) (v1 : Int32) (u : Mm) : Option Int32 :=
  gX8_waitFrom_5_L k2 v1 u FU 0 0
def gX8_waitFrom (v1 : Int32) (k2 : Nat) (u : Mm) : Option Int32 := gX8_waitFrom_b k2 v1 u
-- X8_placeToWait: placeToWait (LDownAmongFences$Row;)I, depth 3
def gX8_placeToWait_12_Ls (k1 : Nat) (u : Mm) (j12 : Int32 → Int32 → Int32 → Option Int32) (v2 : Int32) (v3 : Int32) (v4 : Int32) : Option Int32 :=
  if v4 < 8 then
  ((gX8_waitFrom v4 k1 u).bind fun (r2 : Int32) =>
   if r2 < v3 then
   (letv (v4 + 1) fun (v4_5 : Int32) =>
    j12 v4 r2 v4_5)
   else
   (letv (v4 + 1) fun (v4_4 : Int32) =>
    j12 v2 v3 v4_4))
  else
  (some v2)
def gX8_placeToWait_12_L (k1 : Nat) (u : Mm) : Nat → Int32 → Int32 → Int32 → Option Int32
  | 0 => fun _ _ _ => none
  | n + 1 => gX8_placeToWait_12_Ls k1 u (gX8_placeToWait_12_L k1 u n)
def gX8_placeToWait_b (k1 : Nat) (u : Mm) : Option Int32 :=
  (gX8_waitFrom 0 k1 u).bind fun (r1 : Int32) =>
  gX8_placeToWait_12_L k1 u FU 0 r1 1
def gX8_placeToWait (k1 : Nat) (u : Mm) : Option Int32 := gX8_placeToWait_b k1 u
-- X8_restOf: restOf (II)I, depth 1
def gX8_restOf_b (v1 : Int32) (v2 : Int32) (u : Mm) : Option Int32 :=
  if v1 < 0 then
  (some 1000000)
  else
  (if v1 < 256 then
   ((gX10_isPlace v2).bind fun (r3 : Int32) =>
    if r3 = 0 then
    (some 1000000)
    else
    (gd (ix ((v1 * 8) + v2) 2048) <|
     some (u 73 (ixn ((v1 * 8) + v2)))))
   else
   (some 1000000))
def gX8_restOf (v1 : Int32) (v2 : Int32) (u : Mm) : Option Int32 := gX8_restOf_b v1 v2 u
-- X8_throughFirst: throughFirst (III)I, depth 2
def gX8_throughFirst_b (v1 : Int32) (v2 : Int32) (v3 : Int32) (u : Mm) : Option Int32 :=
  (gX8_minutes v1 v2 u).bind fun (r1 : Int32) =>
  (gX8_restOf (v3 &&& ((shl 1 v2) ^^^ (-1))) v2 u).bind fun (r2 : Int32) =>
  some (r1 + r2)
def gX8_throughFirst (v1 : Int32) (v2 : Int32) (v3 : Int32) (u : Mm) : Option Int32 := gX8_throughFirst_b v1 v2 v3 u
-- X8_fewestFrom: fewestFrom (II)I, depth 3
def gX8_fewestFrom_6_Ls (v1 : Int32) (v2 : Int32) (u : Mm) (j6 : Int32 → Int32 → Option Int32) (v3 : Int32) (v4 : Int32) : Option Int32 :=
  if v4 < 8 then
  (if ((shr v2 v4) &&& 1) = 1 then
   ((gX8_throughFirst v1 v4 v2 u).bind fun (r4 : Int32) =>
    letv (imin v3 r4) fun (v3_5 : Int32) =>
    letv (v4 + 1) fun (v4_6 : Int32) =>
    j6 v3_5 v4_6)
   else
   (letv (v4 + 1) fun (v4_3 : Int32) =>
    j6 v3 v4_3))
  else
  (some v3)
def gX8_fewestFrom_6_L (v1 : Int32) (v2 : Int32) (u : Mm) : Nat → Int32 → Int32 → Option Int32
  | 0 => fun _ _ => none
  | n + 1 => gX8_fewestFrom_6_Ls v1 v2 u (gX8_fewestFrom_6_L v1 v2 u n)
def gX8_fewestFrom_b (v1 : Int32) (v2 : Int32) (u : Mm) : Option Int32 :=
  gX8_fewestFrom_6_L v1 v2 u FU 1000000 0
def gX8_fewestFrom (v1 : Int32) (v2 : Int32) (u : Mm) : Option Int32 := gX8_fewestFrom_b v1 v2 u
-- X8_seekTours: seekTours (I)V, depth 4
def gX8_seekTours_49 (j2 : Int32 → Mm → Option Mm) (j11 : Int32 → Mm → Option Mm) (v1 : Int32) (v2 : Int32) (v3 : Int32) (s0 : Int32) (s1 : Int32) (u : Mm) : Option Mm :=
  gd (ix s1 2048) <|
  letv (stm u 73 (ixn s1) s0) fun (u1 : Mm) =>
  letv (v3 + 1) fun (v3_3 : Int32) =>
  j11 v3_3 u1
def gX8_seekTours_11_Ls (j2 : Int32 → Mm → Option Mm) (v1 : Int32) (v2 : Int32) (j11 : Int32 → Mm → Option Mm) (v3 : Int32) (u : Mm) : Option Mm :=
  if v3 < 8 then
  (if (v2 &&& (v1 ^^^ (-1))) = 0 then
   (if v2 = 0 then
    (gX8_seekTours_49 j2 j11 v1 v2 v3 0 ((v2 * 8) + v3) u)
    else
    ((gX8_fewestFrom v3 v2 u).bind fun (r6 : Int32) =>
     gX8_seekTours_49 j2 j11 v1 v2 v3 r6 ((v2 * 8) + v3) u))
   else
   (letv (v2 + 1) fun (v2_4 : Int32) =>
    j2 v2_4 u))
  else
  (letv (v2 + 1) fun (v2_2 : Int32) =>
   j2 v2_2 u)
def gX8_seekTours_11_L (j2 : Int32 → Mm → Option Mm) (v1 : Int32) (v2 : Int32) : Nat → Int32 → Mm → Option Mm
  | 0 => fun _ _ => none
  | n + 1 => gX8_seekTours_11_Ls j2 v1 v2 (gX8_seekTours_11_L j2 v1 v2 n)
def gX8_seekTours_2_Ls (v1 : Int32) (j2 : Int32 → Mm → Option Mm) (v2 : Int32) (u : Mm) : Option Mm :=
  if v2 < 256 then
  (gX8_seekTours_11_L j2 v1 v2 FU 0 u)
  else
  (some u)
def gX8_seekTours_2_L (v1 : Int32) : Nat → Int32 → Mm → Option Mm
  | 0 => fun _ _ => none
  | n + 1 => gX8_seekTours_2_Ls v1 (gX8_seekTours_2_L v1 n)
def gX8_seekTours_b (v1 : Int32) (u : Mm) : Option Mm :=
  gX8_seekTours_2_L v1 FU 0 u
def gX8_seekTours (v1 : Int32) (u : Mm) : Option Mm := gX8_seekTours_b v1 u
-- X8_tourMinutes: tourMinutes (II)I, depth 2
def gX8_tourMinutes_b (v1 : Int32) (v2 : Int32) (u : Mm) : Option Int32 :=
  (gX8_restOf v2 v1 u).bind fun (r1 : Int32) =>
  if r1 < 1000000 then
  (some r1)
  else
  (some (-9))
def gX8_tourMinutes (v1 : Int32) (v2 : Int32) (u : Mm) : Option Int32 := gX8_tourMinutes_b v1 v2 u
-- X8_tourFirst: tourFirst (II)I, depth 3
def gX8_tourFirst_10_Ls (v1 : Int32) (v2 : Int32) (v3 : Int32) (u : Mm) (j10 : Int32 → Option Int32) (v4 : Int32) : Option Int32 :=
  if v4 < 8 then
  (if v3 < 1000000 then
   (if ((shr v2 v4) &&& 1) = 1 then
    ((gX8_throughFirst v1 v4 v2 u).bind fun (r5 : Int32) =>
     if r5 = v3 then
     (some v4)
     else
     (letv (v4 + 1) fun (v4_7 : Int32) =>
      j10 v4_7))
    else
    (letv (v4 + 1) fun (v4_4 : Int32) =>
     j10 v4_4))
   else
   (some (-9)))
  else
  (some (-9))
def gX8_tourFirst_10_L (v1 : Int32) (v2 : Int32) (v3 : Int32) (u : Mm) : Nat → Int32 → Option Int32
  | 0 => fun _ => none
  | n + 1 => gX8_tourFirst_10_Ls v1 v2 v3 u (gX8_tourFirst_10_L v1 v2 v3 u n)
def gX8_tourFirst_b (v1 : Int32) (v2 : Int32) (u : Mm) : Option Int32 :=
  (gX8_restOf v2 v1 u).bind fun (r1 : Int32) =>
  gX8_tourFirst_10_L v1 v2 r1 u FU 0
def gX8_tourFirst (v1 : Int32) (v2 : Int32) (u : Mm) : Option Int32 := gX8_tourFirst_b v1 v2 u
-- X9_copyFrom: copyFrom (LDownAmongFences$World;)V, depth 1
def gX9_copyFrom_b (k0 : Nat) (k1 : Nat) (u : Mm) : Option Mm :=
  (gX0_copyFrom (k0 + 1) (k1 + 1) u).bind fun (u1 : Mm) =>
  (gX1_copyFrom (k0 + 4) (k1 + 4) u1).bind fun (u2 : Mm) =>
  (gX6_copyFrom (k0 + 10) (k1 + 10) u2).bind fun (u3 : Mm) =>
  (gX2_copyFrom (k0 + 12) (k1 + 12) u3).bind fun (u4 : Mm) =>
  some u4
def gX9_copyFrom (k0 : Nat) (k1 : Nat) (u : Mm) : Option Mm := gX9_copyFrom_b k0 k1 u
-- X10_refuse: refuse (I)I, depth 0
def gX10_refuse_b (v1 : Int32) (u : Mm) : Option (Int32 × Mm) :=
  letv (-v1) fun (v2_1 : Int32) =>
  if 0 < v2_1 then
  (if v2_1 < (nI 7) then
   (gd (ix v2_1 7) <|
    gd (ix v2_1 7) <|
    letv (stm u 56 (ixn v2_1) ((u 56 (ixn v2_1)) + 1)) fun (u5 : Mm) =>
    some (v1, u5))
   else
   (some (v1, u)))
  else
  (some (v1, u))
def gX10_refuse (v1 : Int32) (u : Mm) : Option (Int32 × Mm) := gX10_refuse_b v1 u
-- X10_feed: feed (I)I, depth 1
def gX10_feed_31 (u : Mm) : Option (Int32 × Mm) :=
  bI (gX10_refuse (-6) u) fun (r2 : Int32) (u1 : Mm) =>
  some (r2, u1)
def gX10_feed_b (v1 : Int32) (u : Mm) : Option (Int32 × Mm) :=
  if v1 < 0 then
  (bI (gX10_refuse (-4) u) fun (r8 : Int32) (u7 : Mm) =>
   some (r8, u7))
  else
  (if 255 < v1 then
   (gX10_feed_31 u)
   else
   ((gX7_isFull 52 u).bind fun (r3 : Int32) =>
    if r3 = 0 then
    (bI (gX7_add 52 v1 u) fun (r6 : Int32) (u5 : Mm) =>
     some (r6, u5))
    else
    (gX10_feed_31 u)))
def gX10_feed (v1 : Int32) (u : Mm) : Option (Int32 × Mm) := gX10_feed_b v1 u
-- X10_land: land ()I, depth 6
def gX10_land_44 (s0 : Int32) (u : Mm) : Option (Int32 × Mm) :=
  (gX7_drop 52 u).bind fun (u1 : Mm) =>
  if s0 < 0 then
  (some (s0, u1))
  else
  ((gX9_copyFrom 2 15 u1).bind fun (u3 : Mm) =>
   (gX4_forget u3).bind fun (u4 : Mm) =>
   some (s0, u4))
def gX10_land_b (u : Mm) : Option (Int32 × Mm) :=
  (gX9_copyFrom 15 2 u).bind fun (u1 : Mm) =>
  (gX5_firstMisplaced u1).bind fun (r2 : Int32) =>
  if r2 = (-9) then
  (bI (gX5_tell 15 u1) fun (r5 : Int32) (u4 : Mm) =>
   gX10_land_44 r5 u4)
  else
  (gX10_land_44 ((-1000) - r2) u1)
def gX10_land (u : Mm) : Option (Int32 × Mm) := gX10_land_b u
-- X10_layer: layer (II)I, depth 2
def gX10_layer_25 (u : Mm) : Option (Int32 × Mm) :=
  bI (gX10_refuse (-2) u) fun (r2 : Int32) (u1 : Mm) =>
  some (1000000000 - r2, u1)
def gX10_layer_b (v1 : Int32) (v2 : Int32) (u : Mm) : Option (Int32 × Mm) :=
  (gX10_isLayer v1).bind fun (r1 : Int32) =>
  if r1 = 0 then
  (bI (gX10_refuse (-1) u) fun (r9 : Int32) (u8 : Mm) =>
   some (1000000000 - r9, u8))
  else
  (if v2 < 0 then
   (gX10_layer_25 u)
   else
   (if 1 < v2 then
    (gX10_layer_25 u)
    else
    (if v2 = 0 then
     ((gX0_sideOf 3 v1 u).bind fun (r7 : Int32) =>
      some (r7, u))
     else
     ((gX0_aheadOf 3 v1 u).bind fun (r6 : Int32) =>
      some (r6, u)))))
def gX10_layer (v1 : Int32) (v2 : Int32) (u : Mm) : Option (Int32 × Mm) := gX10_layer_b v1 v2 u
-- X10_wind: wind (III)I, depth 2
def gX10_wind_23 (u : Mm) : Option (Int32 × Mm) :=
  bI (gX10_refuse (-4) u) fun (r2 : Int32) (u1 : Mm) =>
  some (r2, u1)
def gX10_wind_42 (u : Mm) : Option (Int32 × Mm) :=
  bI (gX10_refuse (-6) u) fun (r2 : Int32) (u1 : Mm) =>
  some (r2, u1)
def gX10_wind_b (v1 : Int32) (v2 : Int32) (v3 : Int32) (u : Mm) : Option (Int32 × Mm) :=
  (gX10_isLayer v1).bind fun (r1 : Int32) =>
  if r1 = 0 then
  (bI (gX10_refuse (-1) u) fun (r13 : Int32) (u12 : Mm) =>
   some (r13, u12))
  else
  (if v2 < (-9) then
   (gX10_wind_23 u)
   else
   (if v3 < 0 then
    (gX10_wind_23 u)
    else
    (if 9 < v2 then
     (gX10_wind_42 u)
     else
     (if 9 < v3 then
      (gX10_wind_42 u)
      else
      ((gX0_sideOf 3 v1 u).bind fun (r7 : Int32) =>
       (gX0_aheadOf 3 v1 u).bind fun (r8 : Int32) =>
       letv ((100 * (r7 + 9)) + r8) fun (v4_9 : Int32) =>
       (gX0_blow 3 v1 v2 v3 u).bind fun (u10 : Mm) =>
       (gX4_forget u10).bind fun (u11 : Mm) =>
       some (v4_9, u11))))))
def gX10_wind (v1 : Int32) (v2 : Int32) (v3 : Int32) (u : Mm) : Option (Int32 × Mm) := gX10_wind_b v1 v2 v3 u
-- X10_isField: isField (I)Z, depth 0
def gX10_isField_b (v1 : Int32) (u : Mm) : Option Int32 :=
  if v1 < 0 then
  (some 0)
  else
  (if v1 < (u 6 0) then
   (some 1)
   else
   (some 0))
def gX10_isField (v1 : Int32) (u : Mm) : Option Int32 := gX10_isField_b v1 u
-- X10_field: field (II)I, depth 1
def gX10_field_23 (u : Mm) : Option (Int32 × Mm) :=
  bI (gX10_refuse (-2) u) fun (r2 : Int32) (u1 : Mm) =>
  some (r2, u1)
def gX10_field_b (v1 : Int32) (v2 : Int32) (u : Mm) : Option (Int32 × Mm) :=
  (gX10_isField v1 u).bind fun (r1 : Int32) =>
  if r1 = 0 then
  (bI (gX10_refuse (-1) u) fun (r7 : Int32) (u6 : Mm) =>
   some (r7, u6))
  else
  (if v2 < 0 then
   (gX10_field_23 u)
   else
   (if 4 < v2 then
    (gX10_field_23 u)
    else
    ((gX1_tellOf 6 v1 v2 u).bind fun (r5 : Int32) =>
     some (r5, u))))
def gX10_field (v1 : Int32) (v2 : Int32) (u : Mm) : Option (Int32 × Mm) := gX10_field_b v1 v2 u
-- X10_cost: cost (II)I, depth 2
def gX10_cost_b (v1 : Int32) (v2 : Int32) (u : Mm) : Option (Int32 × Mm) :=
  (gX10_isField v1 u).bind fun (r1 : Int32) =>
  if r1 = 0 then
  (bI (gX10_refuse (-1) u) fun (r12 : Int32) (u11 : Mm) =>
   some (r12, u11))
  else
  (if v2 < 0 then
   (bI (gX10_refuse (-4) u) fun (r10 : Int32) (u9 : Mm) =>
    some (r10, u9))
   else
   (if 20 < v2 then
    (bI (gX10_refuse (-6) u) fun (r8 : Int32) (u7 : Mm) =>
     some (r8, u7))
    else
    ((gX0_dragOf 3 v2 (u 14 5) u).bind fun (r5 : Int32) =>
     (gX1_costOf 6 v1 v2 r5 u).bind fun (r6 : Int32) =>
     some (r6, u))))
def gX10_cost (v1 : Int32) (v2 : Int32) (u : Mm) : Option (Int32 × Mm) := gX10_cost_b v1 v2 u
-- X10_drag: drag (I)I, depth 2
def gX10_drag_b (v1 : Int32) (u : Mm) : Option (Int32 × Mm) :=
  if v1 < 0 then
  (bI (gX10_refuse (-4) u) fun (r7 : Int32) (u6 : Mm) =>
   some (r7, u6))
  else
  (if 20 < v1 then
   (bI (gX10_refuse (-6) u) fun (r5 : Int32) (u4 : Mm) =>
    some (r5, u4))
   else
   ((gX0_dragOf 3 v1 (u 14 5) u).bind fun (r3 : Int32) =>
    some (r3, u)))
def gX10_drag (v1 : Int32) (u : Mm) : Option (Int32 × Mm) := gX10_drag_b v1 u
-- X10_set: set (II)I, depth 3
def gX10_set_9 (u : Mm) : Option (Int32 × Mm) :=
  bI (gX10_refuse (-2) u) fun (r2 : Int32) (u1 : Mm) =>
  some (r2, u1)
def gX10_set_b (v1 : Int32) (v2 : Int32) (u : Mm) : Option (Int32 × Mm) :=
  if v1 < 0 then
  (gX10_set_9 u)
  else
  (if 4 < v1 then
   (gX10_set_9 u)
   else
   ((gX2_leastOf v1).bind fun (r3 : Int32) =>
    if v2 < r3 then
    (bI (gX10_refuse (-4) u) fun (r13 : Int32) (u12 : Mm) =>
     some (r13, u12))
    else
    ((gX2_mostOf v1).bind fun (r5 : Int32) =>
     if r5 < v2 then
     (bI (gX10_refuse (-6) u) fun (r11 : Int32) (u10 : Mm) =>
      some (r11, u10))
     else
     ((gX2_valueOf 14 v1 u).bind fun (r7 : Int32) =>
      (gX2_change 14 v1 v2 u).bind fun (u8 : Mm) =>
      (gX4_forget u8).bind fun (u9 : Mm) =>
      some (r7, u9)))))
def gX10_set (v1 : Int32) (v2 : Int32) (u : Mm) : Option (Int32 × Mm) := gX10_set_b v1 v2 u
-- X10_rising: rising ()I, depth 2
def gX10_rising_b (u : Mm) : Option Int32 :=
  (gX2_climb 14 u).bind fun (r1 : Int32) =>
  some r1
def gX10_rising (u : Mm) : Option Int32 := gX10_rising_b u
-- X10_go: go (I)I, depth 3
def gX10_go_9 (u : Mm) : Option (Int32 × Mm) :=
  bI (gX10_refuse (-2) u) fun (r2 : Int32) (u1 : Mm) =>
  some (r2, u1)
def gX10_go_41 (v1 : Int32) (u : Mm) : Option (Int32 × Mm) :=
  if (u 14 7) < 999 then
  ((gX4_add 14 u).bind fun (u2 : Mm) =>
   (gX2_fly 14 v1 3 u2).bind fun (u3 : Mm) =>
   some (u3 14 0, u3))
  else
  (bI (gX10_refuse (-6) u) fun (r5 : Int32) (u4 : Mm) =>
   some (r5, u4))
def gX10_go_b (v1 : Int32) (u : Mm) : Option (Int32 × Mm) :=
  if v1 < 0 then
  (gX10_go_9 u)
  else
  (if 2 < v1 then
   (gX10_go_9 u)
   else
   (if v1 = 1 then
    (if 0 < (u 14 4) then
     (gX10_go_41 v1 u)
     else
     (bI (gX10_refuse (-3) u) fun (r6 : Int32) (u5 : Mm) =>
      some (r6, u5)))
    else
    (gX10_go_41 v1 u)))
def gX10_go (v1 : Int32) (u : Mm) : Option (Int32 × Mm) := gX10_go_b v1 u
-- X10_back: back ()I, depth 2
def gX10_back_b (u : Mm) : Option (Int32 × Mm) :=
  if (u 41 0) = 0 then
  (bI (gX10_refuse (-3) u) fun (r4 : Int32) (u3 : Mm) =>
   some (r4, u3))
  else
  ((gX4_takeBack 14 u).bind fun (u2 : Mm) =>
   some (u2 14 7, u2))
def gX10_back (u : Mm) : Option (Int32 × Mm) := gX10_back_b u
-- X10_planRefusal: planRefusal (IIII)I, depth 0
def gX10_planRefusal_b (v0 : Int32) (v1 : Int32) (v2 : Int32) (v3 : Int32) : Option Int32 :=
  if v0 < 0 then
  (some (-4))
  else
  (if v1 < 0 then
   (some (-4))
   else
   (if 30 < v0 then
    (some (-6))
    else
    (if 5 < v1 then
     (some (-6))
     else
     (if v2 < 0 then
      (some (-2))
      else
      (if v3 < v2 then
       (some (-2))
       else
       (some 0))))))
def gX10_planRefusal (v0 : Int32) (v1 : Int32) (v2 : Int32) (v3 : Int32) : Option Int32 := gX10_planRefusal_b v0 v1 v2 v3
-- X10_plan: plan (III)I, depth 5
def gX10_plan_b (v1 : Int32) (v2 : Int32) (v3 : Int32) (u : Mm) : Option (Int32 × Mm) :=
  (gX10_planRefusal v1 v2 v3 5).bind fun (r1 : Int32) =>
  if r1 = 0 then
  ((gX3_begin 2 u).bind fun (u3 : Mm) =>
   bI (gX3_follow v1 v2 u3) fun (r5 : Int32) (u4 : Mm) =>
   if r5 = 0 then
   (some ((-9), u4))
   else
   (if v3 = 0 then
    (some (u4 69 1, u4))
    else if v3 = 1 then
    (some (u4 69 2, u4))
    else if v3 = 2 then
    (some (u4 69 8, u4))
    else if v3 = 3 then
    ((gX3_stepsFlown u4).bind fun (r11 : Int32) =>
     some (r11, u4))
    else if v3 = 4 then
    ((gX3_fieldThere u4).bind fun (r13 : Int32) =>
     some (r13, u4))
    else 
    ((gX3_costThere u4).bind fun (r14 : Int32) =>
     some (r14, u4))))
  else
  (bI (gX10_refuse r1 u) fun (r16 : Int32) (u15 : Mm) =>
   some (r16, u15))
def gX10_plan (v1 : Int32) (v2 : Int32) (v3 : Int32) (u : Mm) : Option (Int32 × Mm) := gX10_plan_b v1 v2 v3 u
-- X10_had: had (II)I, depth 6
def gX10_had_23 (u : Mm) : Option (Int32 × Mm) :=
  bI (gX10_refuse (-2) u) fun (r2 : Int32) (u1 : Mm) =>
  some (r2, u1)
def gX10_had_b (v1 : Int32) (v2 : Int32) (u : Mm) : Option (Int32 × Mm) :=
  (gX10_isField v1 u).bind fun (r1 : Int32) =>
  if r1 = 0 then
  (bI (gX10_refuse (-1) u) fun (r10 : Int32) (u9 : Mm) =>
   some (r10, u9))
  else
  (if v2 < 0 then
   (gX10_had_23 u)
   else
   (if 2 < v2 then
    (gX10_had_23 u)
    else
    ((gX3_begin 2 u).bind fun (u5 : Mm) =>
     (gX3_seekPlansInto v1 u5).bind fun (u6 : Mm) =>
     if v2 = 0 then
     (some (u6 57 6, u6))
     else
     (if v2 = 1 then
      (some (u6 57 7, u6))
      else
      (some (u6 57 8, u6))))))
def gX10_had (v1 : Int32) (v2 : Int32) (u : Mm) : Option (Int32 × Mm) := gX10_had_b v1 v2 u
-- X10_best: best (I)I, depth 6
def gX10_best_9 (u : Mm) : Option (Int32 × Mm) :=
  bI (gX10_refuse (-2) u) fun (r2 : Int32) (u1 : Mm) =>
  some (r2, u1)
def gX10_best_b (v1 : Int32) (u : Mm) : Option (Int32 × Mm) :=
  if v1 < 0 then
  (gX10_best_9 u)
  else
  (if 1 < v1 then
   (gX10_best_9 u)
   else
   ((gX3_begin 2 u).bind fun (u3 : Mm) =>
    (gX3_seekCheapest u3).bind fun (u4 : Mm) =>
    if v1 = 0 then
    (some (u4 57 9, u4))
    else
    (some (u4 57 10, u4))))
def gX10_best (v1 : Int32) (u : Mm) : Option (Int32 × Mm) := gX10_best_b v1 u
-- X10_left: left ()I, depth 6
def gX10_left_b (u : Mm) : Option (Int32 × Mm) :=
  (gX3_begin 2 u).bind fun (u1 : Mm) =>
  bI (gX3_fieldsWithin u1) fun (r3 : Int32) (u2 : Mm) =>
  some (r3, u2)
def gX10_left (u : Mm) : Option (Int32 × Mm) := gX10_left_b u
-- X10_keep: keep (I)I, depth 6
def gX10_keep_27_Ls (v1 : Int32) (j27 : Int32 → Mm → Option (Int32 × Mm)) (v2 : Int32) (u : Mm) : Option (Int32 × Mm) :=
  if 60 < v2 then
  (some ((-9), u))
  else
  ((gX3_takeGas v2 u).bind fun (u2 : Mm) =>
   bI (gX3_somePlanLeadsInto v1 u2) fun (r4 : Int32) (u3 : Mm) =>
   if r4 = 0 then
   ((gX3_hasGasOver u3).bind fun (r6 : Int32) =>
    if r6 = 0 then
    (letv (v2 + 1) fun (v2_8 : Int32) =>
     j27 v2_8 u3)
    else
    (some ((-9), u3)))
   else
   (some (v2, u3)))
def gX10_keep_27_L (v1 : Int32) : Nat → Int32 → Mm → Option (Int32 × Mm)
  | 0 => fun _ _ => none
  | n + 1 => gX10_keep_27_Ls v1 (gX10_keep_27_L v1 n)
def gX10_keep_b (v1 : Int32) (u : Mm) : Option (Int32 × Mm) :=
  (gX10_isField v1 u).bind fun (r1 : Int32) =>
  if r1 = 0 then
  (bI (gX10_refuse (-1) u) fun (r5 : Int32) (u4 : Mm) =>
   some (r5, u4))
  else
  ((gX3_begin 2 u).bind fun (u3 : Mm) =>
   gX10_keep_27_L v1 FU 0 u3)
def gX10_keep (v1 : Int32) (u : Mm) : Option (Int32 × Mm) := gX10_keep_b v1 u
-- X10_goingOn: goingOn (I)I, depth 6
def gX10_goingOn_b (v1 : Int32) (u : Mm) : Option (Int32 × Mm) :=
  if v1 < 0 then
  (bI (gX10_refuse (-4) u) fun (r14 : Int32) (u13 : Mm) =>
   some (1000000000 - r14, u13))
  else
  (if 20 < v1 then
   (bI (gX10_refuse (-6) u) fun (r12 : Int32) (u11 : Mm) =>
    some (1000000000 - r12, u11))
   else
   ((gX3_begin 2 u).bind fun (u3 : Mm) =>
    (gX3_seekCheapest u3).bind fun (u4 : Mm) =>
    letv (u4 57 10) fun (v2_5 : Int32) =>
    (gX3_holdFirst v1 u4).bind fun (u6 : Mm) =>
    (gX3_seekCheapest u6).bind fun (u7 : Mm) =>
    letv (u7 57 10) fun (v3_8 : Int32) =>
    if v2_5 = (-9) then
    (some (1000, u7))
    else
    (if v3_8 = (-9) then
     (some (1000, u7))
     else
     (some (v3_8 - v2_5, u7)))))
def gX10_goingOn (v1 : Int32) (u : Mm) : Option (Int32 × Mm) := gX10_goingOn_b v1 u
-- X10_blown: blown (I)I, depth 4
def gX10_blown_9 (u : Mm) : Option (Int32 × Mm) :=
  bI (gX10_refuse (-2) u) fun (r2 : Int32) (u1 : Mm) =>
  some (r2, u1)
def gX10_blown_b (v1 : Int32) (u : Mm) : Option (Int32 × Mm) :=
  if v1 < 0 then
  (gX10_blown_9 u)
  else
  (if 2 < v1 then
   (gX10_blown_9 u)
   else
   ((gX0_layerFarthest 3 v1 u).bind fun (r3 : Int32) =>
    some (r3, u)))
def gX10_blown (v1 : Int32) (u : Mm) : Option (Int32 × Mm) := gX10_blown_b v1 u
-- X10_two: two (III)I, depth 2
def gX10_two_10 (u : Mm) : Option (Int32 × Mm) :=
  bI (gX10_refuse (-4) u) fun (r2 : Int32) (u1 : Mm) =>
  some (r2, u1)
def gX10_two_29 (u : Mm) : Option (Int32 × Mm) :=
  bI (gX10_refuse (-6) u) fun (r2 : Int32) (u1 : Mm) =>
  some (r2, u1)
def gX10_two_45 (u : Mm) : Option (Int32 × Mm) :=
  bI (gX10_refuse (-2) u) fun (r2 : Int32) (u1 : Mm) =>
  some (r2, u1)
def gX10_two_b (v1 : Int32) (v2 : Int32) (v3 : Int32) (u : Mm) : Option (Int32 × Mm) :=
  if v1 < (-99) then
  (gX10_two_10 u)
  else
  (if v2 < 0 then
   (gX10_two_10 u)
   else
   (if 99 < v1 then
    (gX10_two_29 u)
    else
    (if 99 < v2 then
     (gX10_two_29 u)
     else
     (if v3 < 0 then
      (gX10_two_45 u)
      else
      (if 1 < v3 then
       (gX10_two_45 u)
       else
       ((gX0_fewestSteps 3 v1 v2 u).bind fun (r7 : Int32) =>
        if v3 = 0 then
        (some (r7, u))
        else
        (if r7 = (-9) then
         (some (r7, u))
         else
         ((gX0_layersFor 3 r7 v1 v2 u).bind fun (r10 : Int32) =>
          some (r10, u)))))))))
def gX10_two (v1 : Int32) (v2 : Int32) (v3 : Int32) (u : Mm) : Option (Int32 × Mm) := gX10_two_b v1 v2 v3 u
-- X10_swing: swing (I)I, depth 4
def gX10_swing_9 (u : Mm) : Option (Int32 × Mm) :=
  bI (gX10_refuse (-2) u) fun (r2 : Int32) (u1 : Mm) =>
  some (r2, u1)
def gX10_swing_b (v1 : Int32) (u : Mm) : Option (Int32 × Mm) :=
  if v1 < 0 then
  (gX10_swing_9 u)
  else
  (if 2 < v1 then
   (gX10_swing_9 u)
   else
   ((gX3_begin 2 u).bind fun (u3 : Mm) =>
    (gX3_answerEach 1 u3).bind fun (u4 : Mm) =>
    if v1 = 2 then
    ((gX3_swingGrows u4).bind fun (r7 : Int32) =>
     if r7 = 0 then
     (some (0, u4))
     else
     (some (1, u4)))
    else
    (if v1 = 0 then
     (some (u4 57 11, u4))
     else
     (some (u4 57 12, u4)))))
def gX10_swing (v1 : Int32) (u : Mm) : Option (Int32 × Mm) := gX10_swing_b v1 u
-- X10_calm: calm ()I, depth 4
def gX10_calm_13_Ls (j13 : Int32 → Mm → Option (Int32 × Mm)) (v1 : Int32) (u : Mm) : Option (Int32 × Mm) :=
  if 9 < v1 then
  (some ((-9), u))
  else
  ((gX3_answerEach v1 u).bind fun (u2 : Mm) =>
   (gX3_swingGrows u2).bind fun (r3 : Int32) =>
   if r3 = 0 then
   (some (v1, u2))
   else
   (letv (v1 + 1) fun (v1_5 : Int32) =>
    j13 v1_5 u2))
def gX10_calm_13_L : Nat → Int32 → Mm → Option (Int32 × Mm)
  | 0 => fun _ _ => none
  | n + 1 => gX10_calm_13_Ls (gX10_calm_13_L n)
def gX10_calm_b (u : Mm) : Option (Int32 × Mm) :=
  (gX3_begin 2 u).bind fun (u1 : Mm) =>
  gX10_calm_13_L FU 1 u1
def gX10_calm (u : Mm) : Option (Int32 × Mm) := gX10_calm_b u
-- X10_out: out ()I, depth 2
def gX10_out_b (u : Mm) : Option Int32 :=
  if 0 < (u 14 0) then
  (some (-9))
  else
  ((gX2_peopleWhoCanLeave 14 u).bind fun (r2 : Int32) =>
   some r2)
def gX10_out (u : Mm) : Option Int32 := gX10_out_b u
-- X10_road: road (III)I, depth 2
def gX10_road_b (v1 : Int32) (v2 : Int32) (v3 : Int32) (u : Mm) : Option (Int32 × Mm) :=
  (gX10_areTwoPlaces v1 v2).bind fun (r1 : Int32) =>
  if r1 = 0 then
  (bI (gX10_refuse (-1) u) fun (r13 : Int32) (u12 : Mm) =>
   some (r13, u12))
  else
  (if v3 < 0 then
   (bI (gX10_refuse (-4) u) fun (r11 : Int32) (u10 : Mm) =>
    some (r11, u10))
   else
   (if 99 < v3 then
    (bI (gX10_refuse (-6) u) fun (r9 : Int32) (u8 : Mm) =>
     some (r9, u8))
    else
    ((gX6_between 12 v1 v2 u).bind fun (r5 : Int32) =>
     (gX6_lay 12 v1 v2 v3 u).bind fun (u6 : Mm) =>
     (gX4_forget u6).bind fun (u7 : Mm) =>
     some (r5, u7))))
def gX10_road (v1 : Int32) (v2 : Int32) (v3 : Int32) (u : Mm) : Option (Int32 × Mm) := gX10_road_b v1 v2 v3 u
-- X10_car: car (I)I, depth 1
def gX10_car_b (v1 : Int32) (u : Mm) : Option (Int32 × Mm) :=
  (gX10_isPlace v1).bind fun (r1 : Int32) =>
  if r1 = 0 then
  (bI (gX10_refuse (-1) u) fun (r7 : Int32) (u6 : Mm) =>
   some (r7, u6))
  else
  (letv (u 12 0) fun (v2_3 : Int32) =>
   letv (stm u 12 0 v1) fun (u4 : Mm) =>
   (gX4_forget u4).bind fun (u5 : Mm) =>
   some (v2_3, u5))
def gX10_car (v1 : Int32) (u : Mm) : Option (Int32 × Mm) := gX10_car_b v1 u
-- X10_drive: drive (I)I, depth 4
def gX10_drive_b (v1 : Int32) (u : Mm) : Option (Int32 × Mm) :=
  (gX10_isPlace v1).bind fun (r1 : Int32) =>
  if r1 = 0 then
  (bI (gX10_refuse (-1) u) fun (r6 : Int32) (u5 : Mm) =>
   some (r6, u5))
  else
  ((gX8_measure 12 u).bind fun (u3 : Mm) =>
   (gX8_minutesOrNone (u3 12 0) v1 u3).bind fun (r4 : Int32) =>
   some (r4, u3))
def gX10_drive (v1 : Int32) (u : Mm) : Option (Int32 × Mm) := gX10_drive_b v1 u
-- X10_waitAt: waitAt ()I, depth 4
def gX10_waitAt_b (u : Mm) : Option (Int32 × Mm) :=
  if (u 54 0) = 8 then
  ((gX8_measure 12 u).bind fun (u2 : Mm) =>
   (gX8_placeToWait 54 u2).bind fun (r3 : Int32) =>
   some (r3, u2))
  else
  (bI (gX10_refuse (-3) u) fun (r5 : Int32) (u4 : Mm) =>
   some (r5, u4))
def gX10_waitAt (u : Mm) : Option (Int32 × Mm) := gX10_waitAt_b u
-- X10_sharedMeasure: sharedMeasure (II)I, depth 0
def gX10_sharedMeasure_7_Ls (j7 : Int32 → Int32 → Int32 → Option Int32) (v2 : Int32) (v3 : Int32) (v4 : Int32) : Option Int32 :=
  if v4 < 100 then
  (if 0 < v3 then
   (gd (¬ v3 = 0) <|
    letv (irm v2 v3) fun (v5_4 : Int32) =>
    letv (v4 + 1) fun (v4_5 : Int32) =>
    j7 v3 v5_4 v4_5)
   else
   (some v2))
  else
  (some v2)
def gX10_sharedMeasure_7_L : Nat → Int32 → Int32 → Int32 → Option Int32
  | 0 => fun _ _ _ => none
  | n + 1 => gX10_sharedMeasure_7_Ls (gX10_sharedMeasure_7_L n)
def gX10_sharedMeasure_b (v0 : Int32) (v1 : Int32) : Option Int32 :=
  gX10_sharedMeasure_7_L FU v0 v1 0
def gX10_sharedMeasure (v0 : Int32) (v1 : Int32) : Option Int32 := gX10_sharedMeasure_b v0 v1
-- X10_meanWait: meanWait (I)J, depth 4
def gX10_meanWait_33 (u : Mm) : Option (Int64 × Mm) :=
  bI (gX10_refuse (-2) u) fun (r2 : Int32) (u1 : Mm) =>
  some (4000000000000000000 - r2.toInt64, u1)
def gX10_meanWait_103 (v1 : Int32) (v2 : Int32) (v3 : Int32) (s0 : Int32) (u : Mm) : Option (Int64 × Mm) :=
  if 0 < s0 then
  (if v1 = 0 then
   (gd (¬ s0 = 0) <|
    some ((v2 / s0).toInt64, u))
   else
   (gd (¬ s0 = 0) <|
    some ((v3 / s0).toInt64, u)))
  else
  (some (v1.toInt64, u))
def gX10_meanWait_b (v1 : Int32) (u : Mm) : Option (Int64 × Mm) :=
  if (u 54 0) = 8 then
  (if v1 < 0 then
   (gX10_meanWait_33 u)
   else
   (if 1 < v1 then
    (gX10_meanWait_33 u)
    else
    ((gX8_measure 12 u).bind fun (u4 : Mm) =>
     (gX8_placeToWait 54 u4).bind fun (r5 : Int32) =>
     (gX8_waitFrom r5 54 u4).bind fun (r6 : Int32) =>
     (gX7_sum 54 u4).bind fun (r7 : Int32) =>
     if r7 = 0 then
     (gX10_meanWait_103 v1 r6 r7 0 u4)
     else
     ((gX10_sharedMeasure r6 r7).bind fun (r9 : Int32) =>
      gX10_meanWait_103 v1 r6 r7 r9 u4))))
  else
  (bI (gX10_refuse (-3) u) fun (r11 : Int32) (u10 : Mm) =>
   some (4000000000000000000 - r11.toInt64, u10))
def gX10_meanWait (v1 : Int32) (u : Mm) : Option (Int64 × Mm) := gX10_meanWait_b v1 u
-- X10_turned: turned (II)I, depth 4
def gX10_turned_b (v1 : Int32) (v2 : Int32) (u : Mm) : Option (Int32 × Mm) :=
  (gX10_areTwoPlaces v1 v2).bind fun (r1 : Int32) =>
  if r1 = 0 then
  (bI (gX10_refuse (-1) u) fun (r11 : Int32) (u10 : Mm) =>
   some (r11, u10))
  else
  ((gX6_between 12 v1 v2 u).bind fun (r3 : Int32) =>
   if r3 = 0 then
   (some ((-9), u))
   else
   ((gX8_measure 12 u).bind fun (u5 : Mm) =>
    (gX8_minutes v1 v2 u5).bind fun (r6 : Int32) =>
    (gX8_measureWithout 12 v1 v2 u5).bind fun (u7 : Mm) =>
    (gX8_minutes v1 v2 u7).bind fun (r8 : Int32) =>
    if r8 < 1000000 then
    (some (r8 - r6, u7))
    else
    (some ((-9), u7))))
def gX10_turned (v1 : Int32) (v2 : Int32) (u : Mm) : Option (Int32 × Mm) := gX10_turned_b v1 v2 u
-- X10_track: track (I)I, depth 3
def gX10_track_9 (u : Mm) : Option (Int32 × Mm) :=
  bI (gX10_refuse (-2) u) fun (r2 : Int32) (u1 : Mm) =>
  some (r2, u1)
def gX10_track_b (v1 : Int32) (u : Mm) : Option (Int32 × Mm) :=
  if v1 < 0 then
  (gX10_track_9 u)
  else
  (if 1 < v1 then
   (gX10_track_9 u)
   else
   (if (irm (u 54 0) 2) = 0 then
    (if v1 = 0 then
     ((gX0_layersThatFit 3 54 u).bind fun (r6 : Int32) =>
      some (r6, u))
     else
     ((gX0_firstPairWithoutLayer 3 54 u).bind fun (r5 : Int32) =>
      some (r5, u)))
    else
    (bI (gX10_refuse (-3) u) fun (r8 : Int32) (u7 : Mm) =>
     some (r8, u7))))
def gX10_track (v1 : Int32) (u : Mm) : Option (Int32 × Mm) := gX10_track_b v1 u
-- X10_row: row (I)I, depth 1
def gX10_row_27 (u : Mm) : Option (Int32 × Mm) :=
  bI (gX10_refuse (-6) u) fun (r2 : Int32) (u1 : Mm) =>
  some (r2, u1)
def gX10_row_b (v1 : Int32) (u : Mm) : Option (Int32 × Mm) :=
  if v1 < 0 then
  (bI (gX10_refuse (-4) u) fun (r8 : Int32) (u7 : Mm) =>
   some (r8, u7))
  else
  (if 99 < v1 then
   (gX10_row_27 u)
   else
   ((gX7_isFull 54 u).bind fun (r3 : Int32) =>
    if r3 = 0 then
    (bI (gX7_add 54 v1 u) fun (r6 : Int32) (u5 : Mm) =>
     some (r6, u5))
    else
    (gX10_row_27 u)))
def gX10_row (v1 : Int32) (u : Mm) : Option (Int32 × Mm) := gX10_row_b v1 u
-- X10_judge: judge ()I, depth 4
def gX10_judge_b (u : Mm) : Option (Int32 × Mm) :=
  (gX3_begin 2 u).bind fun (u1 : Mm) =>
  bI (gX3_firstHeightUnlike 54 u1) fun (r3 : Int32) (u2 : Mm) =>
  (gX7_drop 54 u2).bind fun (u4 : Mm) =>
  some (r3, u4)
def gX10_judge (u : Mm) : Option (Int32 × Mm) := gX10_judge_b u
-- X10_clear: clear ()I, depth 1
def gX10_clear_b (u : Mm) : Option (Int32 × Mm) :=
  letv (u 54 0) fun (v1_1 : Int32) =>
  (gX7_drop 54 u).bind fun (u2 : Mm) =>
  some (v1_1, u2)
def gX10_clear (u : Mm) : Option (Int32 × Mm) := gX10_clear_b u
-- X10_lots: lots (III)I, depth 5
def gX10_lots_34 (u : Mm) : Option (Int32 × Mm) :=
  bI (gX10_refuse (-2) u) fun (r2 : Int32) (u1 : Mm) =>
  some (r2, u1)
def gX10_lots_b (v1 : Int32) (v2 : Int32) (v3 : Int32) (u : Mm) : Option (Int32 × Mm) :=
  if v1 < 1 then
  (bI (gX10_refuse (-4) u) fun (r11 : Int32) (u10 : Mm) =>
   some (r11, u10))
  else
  (if 20 < v1 then
   (bI (gX10_refuse (-6) u) fun (r9 : Int32) (u8 : Mm) =>
    some (r9, u8))
   else
   (if v3 < 0 then
    (gX10_lots_34 u)
    else
    (if 1 < v3 then
     (gX10_lots_34 u)
     else
     ((gX3_begin 2 u).bind fun (u5 : Mm) =>
      (gX3_flyByLot v1 v2 u5).bind fun (u6 : Mm) =>
      if v3 = 0 then
      (some (u6 57 13, u6))
      else
      (some (u6 57 14, u6))))))
def gX10_lots (v1 : Int32) (v2 : Int32) (v3 : Int32) (u : Mm) : Option (Int32 × Mm) := gX10_lots_b v1 v2 v3 u
-- X10_crew: crew (I)I, depth 6
def gX10_crew_9 (u : Mm) : Option (Int32 × Mm) :=
  bI (gX10_refuse (-2) u) fun (r2 : Int32) (u1 : Mm) =>
  some (r2, u1)
def gX10_crew_88 (j36 : Int32 → Int32 → Int32 → Mm → Option (Int32 × Mm)) (v1 : Int32) (v4 : Int32) (u : Mm) : Option (Int32 × Mm) :=
  letv (u 57 10) fun (v3_1 : Int32) =>
  letv (v4 + 1) fun (v4_2 : Int32) =>
  j36 v4 v3_1 v4_2 u
def gX10_crew_36_Ls (v1 : Int32) (j36 : Int32 → Int32 → Int32 → Mm → Option (Int32 × Mm)) (v2 : Int32) (v3 : Int32) (v4 : Int32) (u : Mm) : Option (Int32 × Mm) :=
  if 6 < v4 then
  (if v1 = 0 then
   (some (v2, u))
   else
   (some (v3, u)))
  else
  ((gX3_takePeople v4 u).bind fun (u3 : Mm) =>
   (gX3_seekCheapest u3).bind fun (u4 : Mm) =>
   if (u4 57 10) = (-9) then
   (letv (v4 + 1) fun (v4_6 : Int32) =>
    j36 v2 v3 v4_6 u4)
   else
   (if v2 = (-9) then
    (gX10_crew_88 j36 v1 v4 u4)
    else
    (if (u4 57 10) < v3 then
     (gX10_crew_88 j36 v1 v4 u4)
     else
     (letv (v4 + 1) fun (v4_9 : Int32) =>
      j36 v2 v3 v4_9 u4))))
def gX10_crew_36_L (v1 : Int32) : Nat → Int32 → Int32 → Int32 → Mm → Option (Int32 × Mm)
  | 0 => fun _ _ _ _ => none
  | n + 1 => gX10_crew_36_Ls v1 (gX10_crew_36_L v1 n)
def gX10_crew_b (v1 : Int32) (u : Mm) : Option (Int32 × Mm) :=
  if v1 < 0 then
  (gX10_crew_9 u)
  else
  (if 1 < v1 then
   (gX10_crew_9 u)
   else
   ((gX3_begin 2 u).bind fun (u3 : Mm) =>
    gX10_crew_36_L v1 FU (-9) (-9) 1 u3))
def gX10_crew (v1 : Int32) (u : Mm) : Option (Int32 × Mm) := gX10_crew_b v1 u
-- X10_whichLag: whichLag ()I, depth 4
def gX10_whichLag_4_Ls (j4 : Int32 → Int32 → Mm → Option (Int32 × Mm)) (v1 : Int32) (v2 : Int32) (u : Mm) : Option (Int32 × Mm) :=
  if 5 < v2 then
  (some (v1, u))
  else
  ((gX3_begin 2 u).bind fun (u2 : Mm) =>
   (gX3_takeLag v2 u2).bind fun (u3 : Mm) =>
   bI (gX3_firstHeightUnlike 54 u3) fun (r5 : Int32) (u4 : Mm) =>
   if r5 = (-9) then
   (letv (v1 ||| (shl 1 v2)) fun (v1_8 : Int32) =>
    letv (v2 + 1) fun (v2_9 : Int32) =>
    j4 v1_8 v2_9 u4)
   else
   (letv (v2 + 1) fun (v2_7 : Int32) =>
    j4 v1 v2_7 u4))
def gX10_whichLag_4_L : Nat → Int32 → Int32 → Mm → Option (Int32 × Mm)
  | 0 => fun _ _ _ => none
  | n + 1 => gX10_whichLag_4_Ls (gX10_whichLag_4_L n)
def gX10_whichLag_b (u : Mm) : Option (Int32 × Mm) :=
  gX10_whichLag_4_L FU 0 0 u
def gX10_whichLag (u : Mm) : Option (Int32 × Mm) := gX10_whichLag_b u
-- X10_windFor: windFor (IIII)I, depth 6
def gX10_windFor_102 (j58 : Int32 → Int32 → Int32 → Mm → Option (Int32 × Mm)) (v1 : Int32) (v2 : Int32) (v3 : Int32) (v4 : Int32) (v6 : Int32) (v8 : Int32) (s0 : Int32) (u : Mm) : Option (Int32 × Mm) :=
  letv (v6 + 1) fun (v6_1 : Int32) =>
  letv (v8 + 1) fun (v8_2 : Int32) =>
  j58 v6_1 s0 v8_2 u
def gX10_windFor_58_Ls (v1 : Int32) (v2 : Int32) (v3 : Int32) (v4 : Int32) (j58 : Int32 → Int32 → Int32 → Mm → Option (Int32 × Mm)) (v6 : Int32) (v7 : Int32) (v8 : Int32) (u : Mm) : Option (Int32 × Mm) :=
  if 9 < v8 then
  (if v4 = 0 then
   (some (v6, u))
   else
   (some (v7, u)))
  else
  ((gX3_takeSide v8 u).bind fun (u3 : Mm) =>
   bI (gX3_leadsInto v1 v2 v3 u3) fun (r5 : Int32) (u4 : Mm) =>
   if r5 = 0 then
   (letv (v8 + 1) fun (v8_7 : Int32) =>
    j58 v6 v7 v8_7 u4)
   else
   (if v6 = 0 then
    (gX10_windFor_102 j58 v1 v2 v3 v4 v6 v8 (v8 + 9) u4)
    else
    (gX10_windFor_102 j58 v1 v2 v3 v4 v6 v8 v7 u4)))
def gX10_windFor_58_L (v1 : Int32) (v2 : Int32) (v3 : Int32) (v4 : Int32) : Nat → Int32 → Int32 → Int32 → Mm → Option (Int32 × Mm)
  | 0 => fun _ _ _ _ => none
  | n + 1 => gX10_windFor_58_Ls v1 v2 v3 v4 (gX10_windFor_58_L v1 v2 v3 v4 n)
def gX10_windFor_b (v1 : Int32) (v2 : Int32) (v3 : Int32) (v4 : Int32) (u : Mm) : Option (Int32 × Mm) :=
  (gX10_isField v1 u).bind fun (r1 : Int32) =>
  if r1 = 0 then
  (bI (gX10_refuse (-1) u) fun (r9 : Int32) (u8 : Mm) =>
   some (r9, u8))
  else
  ((gX10_planRefusal v2 v3 v4 1).bind fun (r3 : Int32) =>
   if r3 = 0 then
   ((gX3_begin 2 u).bind fun (u5 : Mm) =>
    gX10_windFor_58_L v1 v2 v3 v4 FU 0 (-9) (-9) u5)
   else
   (bI (gX10_refuse r3 u) fun (r7 : Int32) (u6 : Mm) =>
    some (r7, u6)))
def gX10_windFor (v1 : Int32) (v2 : Int32) (v3 : Int32) (v4 : Int32) (u : Mm) : Option (Int32 × Mm) := gX10_windFor_b v1 v2 v3 v4 u
-- X10_span: span (III)I, depth 6
def gX10_span_92 (j57 : Int32 → Int32 → Int32 → Mm → Option (Int32 × Mm)) (v1 : Int32) (v2 : Int32) (v3 : Int32) (v7 : Int32) (s0 : Int32) (u : Mm) : Option (Int32 × Mm) :=
  letv (v7 + 1) fun (v7_1 : Int32) =>
  j57 s0 v7 v7_1 u
def gX10_span_57_Ls (v1 : Int32) (v2 : Int32) (v3 : Int32) (j57 : Int32 → Int32 → Int32 → Mm → Option (Int32 × Mm)) (v5 : Int32) (v6 : Int32) (v7 : Int32) (u : Mm) : Option (Int32 × Mm) :=
  if 30 < v7 then
  (if v3 = 0 then
   (some (v5, u))
   else
   (some (v6, u)))
  else
  (bI (gX3_leadsInto v1 v7 v2 u) fun (r4 : Int32) (u3 : Mm) =>
   if r4 = 0 then
   (letv (v7 + 1) fun (v7_6 : Int32) =>
    j57 v5 v6 v7_6 u3)
   else
   (if v5 = (-9) then
    (gX10_span_92 j57 v1 v2 v3 v7 v7 u3)
    else
    (gX10_span_92 j57 v1 v2 v3 v7 v5 u3)))
def gX10_span_57_L (v1 : Int32) (v2 : Int32) (v3 : Int32) : Nat → Int32 → Int32 → Int32 → Mm → Option (Int32 × Mm)
  | 0 => fun _ _ _ _ => none
  | n + 1 => gX10_span_57_Ls v1 v2 v3 (gX10_span_57_L v1 v2 v3 n)
def gX10_span_b (v1 : Int32) (v2 : Int32) (v3 : Int32) (u : Mm) : Option (Int32 × Mm) :=
  (gX10_isField v1 u).bind fun (r1 : Int32) =>
  if r1 = 0 then
  (bI (gX10_refuse (-1) u) fun (r9 : Int32) (u8 : Mm) =>
   some (r9, u8))
  else
  ((gX10_planRefusal 0 v2 v3 1).bind fun (r3 : Int32) =>
   if r3 = 0 then
   ((gX3_begin 2 u).bind fun (u5 : Mm) =>
    gX10_span_57_L v1 v2 v3 FU (-9) (-9) 0 u5)
   else
   (bI (gX10_refuse r3 u) fun (r7 : Int32) (u6 : Mm) =>
    some (r7, u6)))
def gX10_span (v1 : Int32) (v2 : Int32) (v3 : Int32) (u : Mm) : Option (Int32 × Mm) := gX10_span_b v1 v2 v3 u
-- X10_flown: flown (I)I, depth 4
def gX10_flown_9 (u : Mm) : Option (Int32 × Mm) :=
  bI (gX10_refuse (-2) u) fun (r2 : Int32) (u1 : Mm) =>
  some (r2, u1)
def gX10_flown_b (v1 : Int32) (u : Mm) : Option (Int32 × Mm) :=
  if v1 < 0 then
  (gX10_flown_9 u)
  else
  (if 4 < v1 then
   (gX10_flown_9 u)
   else
   ((gX3_begin 2 u).bind fun (u3 : Mm) =>
    (gX3_flyActs 54 u3).bind fun (u4 : Mm) =>
    if v1 = 0 then
    (some (u4 69 0, u4))
    else if v1 = 1 then
    (some (u4 69 1, u4))
    else if v1 = 2 then
    (some (u4 69 2, u4))
    else if v1 = 3 then
    (some (u4 69 3, u4))
    else 
    (some (u4 69 4, u4))))
def gX10_flown (v1 : Int32) (u : Mm) : Option (Int32 × Mm) := gX10_flown_b v1 u
-- X10_ceiling: ceiling (I)I, depth 4
def gX10_ceiling_9 (u : Mm) : Option (Int32 × Mm) :=
  bI (gX10_refuse (-2) u) fun (r2 : Int32) (u1 : Mm) =>
  some (r2, u1)
def gX10_ceiling_b (v1 : Int32) (u : Mm) : Option (Int32 × Mm) :=
  if v1 < 0 then
  (gX10_ceiling_9 u)
  else
  (if 1 < v1 then
   (gX10_ceiling_9 u)
   else
   ((gX3_begin 2 u).bind fun (u3 : Mm) =>
    (gX3_climbAll u3).bind fun (u4 : Mm) =>
    if v1 = 0 then
    (some (u4 57 15, u4))
    else
    (some (u4 57 16, u4))))
def gX10_ceiling (v1 : Int32) (u : Mm) : Option (Int32 × Mm) := gX10_ceiling_b v1 u
-- X10_game: game (I)I, depth 6
def gX10_game_9 (u : Mm) : Option (Int32 × Mm) :=
  bI (gX10_refuse (-2) u) fun (r2 : Int32) (u1 : Mm) =>
  some (r2, u1)
def gX10_game_b (v1 : Int32) (u : Mm) : Option (Int32 × Mm) :=
  if v1 < 0 then
  (gX10_game_9 u)
  else
  (if 2 < v1 then
   (gX10_game_9 u)
   else
   ((gX3_begin 2 u).bind fun (u3 : Mm) =>
    (gX3_playGame u3).bind fun (u4 : Mm) =>
    if v1 = 2 then
    ((gX3_surestLoss u4).bind fun (r10 : Int32) =>
     some (r10, u4))
    else
    ((gX3_steadyPair u4).bind fun (r6 : Int32) =>
     if v1 = 0 then
     (some (r6, u4))
     else
     (if r6 = (-9) then
      (some (r6, u4))
      else
      ((gX3_lossBy (r6 / 10) (irm r6 10) u4).bind fun (r9 : Int32) =>
       some (r9, u4))))))
def gX10_game (v1 : Int32) (u : Mm) : Option (Int32 × Mm) := gX10_game_b v1 u
-- X10_another: another (III)I, depth 5
def gX10_another_13 (u : Mm) : Option (Int32 × Mm) :=
  bI (gX10_refuse (-4) u) fun (r2 : Int32) (u1 : Mm) =>
  some (r2, u1)
def gX10_another_37 (u : Mm) : Option (Int32 × Mm) :=
  bI (gX10_refuse (-6) u) fun (r2 : Int32) (u1 : Mm) =>
  some (r2, u1)
def gX10_another_b (v1 : Int32) (v2 : Int32) (v3 : Int32) (u : Mm) : Option (Int32 × Mm) :=
  if v1 < 0 then
  (gX10_another_13 u)
  else
  (if v2 < 0 then
   (gX10_another_13 u)
   else
   (if v3 < 1 then
    (gX10_another_13 u)
    else
    (if 30 < v1 then
     (gX10_another_37 u)
     else
     (if 5 < v2 then
      (gX10_another_37 u)
      else
      (if 6 < v3 then
       (gX10_another_37 u)
       else
       ((gX3_begin 2 u).bind fun (u7 : Mm) =>
        bI (gX3_follow v1 v2 u7) fun (r9 : Int32) (u8 : Mm) =>
        if r9 = 0 then
        (some ((-9), u8))
        else
        (letv (u8 69 1) fun (v4_11 : Int32) =>
         letv (u8 69 2) fun (v5_12 : Int32) =>
         (gX3_takePeople v3 u8).bind fun (u13 : Mm) =>
         bI (gX3_follow v1 v2 u13) fun (r15 : Int32) (u14 : Mm) =>
         if r15 = 0 then
         (some ((-9), u14))
         else
         (some ((iabs ((u14 69 1) - v4_11)) + (iabs ((u14 69 2) - v5_12)), u14)))))))))
def gX10_another (v1 : Int32) (v2 : Int32) (v3 : Int32) (u : Mm) : Option (Int32 × Mm) := gX10_another_b v1 v2 v3 u
-- X10_chase: chase (III)I, depth 5
def gX10_chase_b (v1 : Int32) (v2 : Int32) (v3 : Int32) (u : Mm) : Option (Int32 × Mm) :=
  (gX10_planRefusal v1 v2 v3 1).bind fun (r1 : Int32) =>
  if r1 = 0 then
  ((gX3_begin 2 u).bind fun (u3 : Mm) =>
   bI (gX3_follow v1 v2 u3) fun (r5 : Int32) (u4 : Mm) =>
   if r5 = 0 then
   (some ((-9), u4))
   else
   ((gX8_measure 12 u4).bind fun (u7 : Mm) =>
    (gX6_nearestTo (u7 69 1)).bind fun (r8 : Int32) =>
    (gX8_minutesOrNone (u7 12 0) r8 u7).bind fun (r9 : Int32) =>
    if v3 = 0 then
    (some (r9, u7))
    else
    (if r9 = (-9) then
     (some (r9, u7))
     else
     ((gX3_stepsFlown u7).bind fun (r12 : Int32) =>
      if (r12 / 6) < r9 then
      (some (0, u7))
      else
      (some (1, u7))))))
  else
  (bI (gX10_refuse r1 u) fun (r15 : Int32) (u14 : Mm) =>
   some (r15, u14))
def gX10_chase (v1 : Int32) (v2 : Int32) (v3 : Int32) (u : Mm) : Option (Int32 × Mm) := gX10_chase_b v1 v2 v3 u
-- X10_tour: tour (II)I, depth 5
def gX10_tour_34 (u : Mm) : Option (Int32 × Mm) :=
  bI (gX10_refuse (-2) u) fun (r2 : Int32) (u1 : Mm) =>
  some (r2, u1)
def gX10_tour_b (v1 : Int32) (v2 : Int32) (u : Mm) : Option (Int32 × Mm) :=
  if v1 < 0 then
  (bI (gX10_refuse (-4) u) fun (r15 : Int32) (u14 : Mm) =>
   some (r15, u14))
  else
  (if 255 < v1 then
   (bI (gX10_refuse (-6) u) fun (r13 : Int32) (u12 : Mm) =>
    some (r13, u12))
   else
   (if v2 < 0 then
    (gX10_tour_34 u)
    else
    (if 1 < v2 then
     (gX10_tour_34 u)
     else
     (letv (u 12 0) fun (v3_5 : Int32) =>
      letv (v1 &&& ((shl 1 v3_5) ^^^ (-1))) fun (v4_6 : Int32) =>
      (gX8_measure 12 u).bind fun (u7 : Mm) =>
      (gX8_seekTours v4_6 u7).bind fun (u8 : Mm) =>
      if v2 = 0 then
      ((gX8_tourMinutes v3_5 v4_6 u8).bind fun (r11 : Int32) =>
       some (r11, u8))
      else
      ((gX8_tourFirst v3_5 v4_6 u8).bind fun (r10 : Int32) =>
       some (r10, u8))))))
def gX10_tour (v1 : Int32) (v2 : Int32) (u : Mm) : Option (Int32 × Mm) := gX10_tour_b v1 v2 u
-- X10_twoCars: twoCars (I)I, depth 4
def gX10_twoCars_31_Ls (v1 : Int32) (j31 : Int32 → Int32 → Mm → Option (Int32 × Mm)) (v2 : Int32) (v3 : Int32) (u : Mm) : Option (Int32 × Mm) :=
  if v3 < 8 then
  ((gX8_minutes v1 v3 u).bind fun (r2 : Int32) =>
   (gX8_minutes (u 12 0) v3 u).bind fun (r3 : Int32) =>
   if r2 < r3 then
   (letv (v2 ||| (shl 1 v3)) fun (v2_6 : Int32) =>
    letv (v3 + 1) fun (v3_7 : Int32) =>
    j31 v2_6 v3_7 u)
   else
   (letv (v3 + 1) fun (v3_5 : Int32) =>
    j31 v2 v3_5 u))
  else
  (some (v2, u))
def gX10_twoCars_31_L (v1 : Int32) : Nat → Int32 → Int32 → Mm → Option (Int32 × Mm)
  | 0 => fun _ _ _ => none
  | n + 1 => gX10_twoCars_31_Ls v1 (gX10_twoCars_31_L v1 n)
def gX10_twoCars_b (v1 : Int32) (u : Mm) : Option (Int32 × Mm) :=
  (gX10_isPlace v1).bind fun (r1 : Int32) =>
  if r1 = 0 then
  (bI (gX10_refuse (-1) u) fun (r5 : Int32) (u4 : Mm) =>
   some (r5, u4))
  else
  ((gX8_measure 12 u).bind fun (u3 : Mm) =>
   gX10_twoCars_31_L v1 FU 0 0 u3)
def gX10_twoCars (v1 : Int32) (u : Mm) : Option (Int32 × Mm) := gX10_twoCars_b v1 u
-- X10_image: image ()I, depth 2
def gX10_image_b (u : Mm) : Option (Int32 × Mm) :=
  (gX9_copyFrom 28 2 u).bind fun (u1 : Mm) =>
  letv (stm u1 1 3 1) fun (u2 : Mm) =>
  some (u2 14 7, u2)
def gX10_image (u : Mm) : Option (Int32 × Mm) := gX10_image_b u
-- X10_restore: restore ()I, depth 2
def gX10_restore_b (u : Mm) : Option (Int32 × Mm) :=
  if (u 1 3) = 0 then
  (bI (gX10_refuse (-3) u) fun (r5 : Int32) (u4 : Mm) =>
   some (r5, u4))
  else
  ((gX9_copyFrom 2 28 u).bind fun (u2 : Mm) =>
   (gX4_forget u2).bind fun (u3 : Mm) =>
   some (u3 14 7, u3))
def gX10_restore (u : Mm) : Option (Int32 × Mm) := gX10_restore_b u
-- X10_count: count (I)I, depth 0
def gX10_count_229 (v1 : Int32) (u : Mm) : Option Int32 :=
  if v1 < 11 then
  (some (-9))
  else
  (if 16 < v1 then
   (some (-9))
   else
   (gd (ix (v1 - 10) 7) <|
    some (u 56 (ixn (v1 - 10)))))
def gX10_count_b (v1 : Int32) (u : Mm) : Option Int32 :=
  if v1 = 0 then
  (some (u 6 0))
  else if v1 = 1 then
  (some (u 14 0))
  else if v1 = 2 then
  (some (u 14 1))
  else if v1 = 3 then
  (some (u 14 2))
  else if v1 = 4 then
  (some (u 14 3))
  else if v1 = 5 then
  (some (u 14 4))
  else if v1 = 6 then
  (some (u 14 5))
  else if v1 = 7 then
  (some (u 14 6))
  else if v1 = 8 then
  (some (u 14 7))
  else if v1 = 9 then
  (some (u 52 0))
  else if v1 = 10 then
  (some (u 54 0))
  else if v1 = 11 then
  (gX10_count_229 v1 u)
  else if v1 = 12 then
  (gX10_count_229 v1 u)
  else if v1 = 13 then
  (gX10_count_229 v1 u)
  else if v1 = 14 then
  (gX10_count_229 v1 u)
  else if v1 = 15 then
  (gX10_count_229 v1 u)
  else if v1 = 16 then
  (gX10_count_229 v1 u)
  else if v1 = 17 then
  (some (u 12 0))
  else if v1 = 18 then
  (some (u 41 0))
  else 
  (gX10_count_229 v1 u)
def gX10_count (v1 : Int32) (u : Mm) : Option Int32 := gX10_count_b v1 u
-- X11_in: in (JJJ)Z, depth 0
def gX11_in_b (v0 : Int64) (v2 : Int64) (v4 : Int64) : Option Int32 :=
  if (lg_cmp v0 v2) < 0 then
  (some 0)
  else
  (if 0 < (lg_cmp v0 v4) then
   (some 0)
   else
   (some 1))
def gX11_in (v0 : Int64) (v2 : Int64) (v4 : Int64) : Option Int32 := gX11_in_b v0 v2 v4
-- X11_refuse: refuse (I)I, depth 0
def gX11_refuse_b (v1 : Int32) (u : Mm) : Option (Int32 × Mm) :=
  gd (ix (-v1) 7) <|
  gd (ix (-v1) 7) <|
  letv (stm u 84 (ixn (-v1)) ((u 84 (ixn (-v1))) + 1)) fun (u2 : Mm) =>
  some (v1, u2)
def gX11_refuse (v1 : Int32) (u : Mm) : Option (Int32 × Mm) := gX11_refuse_b v1 u
-- X11_wrongNumber: wrongNumber (III)I, depth 0
def gX11_wrongNumber_b (v0 : Int32) (v1 : Int32) (v2 : Int32) : Option Int32 :=
  if v0 < v1 then
  (some (-4))
  else
  (if v2 < v0 then
   (some (-6))
   else
   (some 0))
def gX11_wrongNumber (v0 : Int32) (v1 : Int32) (v2 : Int32) : Option Int32 := gX11_wrongNumber_b v0 v1 v2
-- X11_wrongBit: wrongBit (III)I, depth 1
def gX11_wrongBit_b (v0 : Int32) (v1 : Int32) (v2 : Int32) : Option Int32 :=
  if v0 = 0 then
  ((gX11_in v1.toInt64 0 v2.toInt64).bind fun (r2 : Int32) =>
   if r2 = 0 then
   (some (-2))
   else
   (some v0))
  else
  (some v0)
def gX11_wrongBit (v0 : Int32) (v1 : Int32) (v2 : Int32) : Option Int32 := gX11_wrongBit_b v0 v1 v2
-- X11_held: held (II)I, depth 0
def gX11_held_b (v0 : Int32) (v1 : Int32) : Option Int32 :=
  if v0 < 0 then
  (some 0)
  else
  (if v1 < v0 then
   (some v1)
   else
   (some v0))
def gX11_held (v0 : Int32) (v1 : Int32) : Option Int32 := gX11_held_b v0 v1
-- X11_plainly: plainly (I)I, depth 0
def gX11_plainly_b (v0 : Int32) : Option Int32 :=
  if v0 < 0 then
  (some (-v0))
  else
  (some v0)
def gX11_plainly (v0 : Int32) : Option Int32 := gX11_plainly_b v0
-- X11_isField: isField (I)Z, depth 1
def gX11_isField_b (v1 : Int32) (u : Mm) : Option Int32 :=
  (gX11_in v1.toInt64 0 (((u 74 11) - 1).toInt64)).bind fun (r1 : Int32) =>
  gd (r1 = 0 ∨ r1 = 1) <|
  some r1
def gX11_isField (v1 : Int32) (u : Mm) : Option Int32 := gX11_isField_b v1 u
-- X11_isPlace: isPlace (I)Z, depth 1
def gX11_isPlace_b (v0 : Int32) : Option Int32 :=
  (gX11_in v0.toInt64 0 7).bind fun (r1 : Int32) =>
  gd (r1 = 0 ∨ r1 = 1) <|
  some r1
def gX11_isPlace (v0 : Int32) : Option Int32 := gX11_isPlace_b v0
-- X11_balance: balance ()I, depth 0
def gX11_balance_b (u : Mm) : Option Int32 :=
  some (12 + (2 * (u 74 7)))
def gX11_balance (u : Mm) : Option Int32 := gX11_balance_b u
-- X11_risingNow: risingNow ()I, depth 1
def gX11_risingNow_b (u : Mm) : Option Int32 :=
  (gX11_balance u).bind fun (r1 : Int32) =>
  some (((u 74 5) - r1) / 4)
def gX11_risingNow (u : Mm) : Option Int32 := gX11_risingNow_b u
-- X11_stepOn: stepOn (I)V, depth 2
def gX11_stepOn_219 (u : Mm) : Option Mm :=
  letv (stm u 74 9 ((u 74 9) + 1)) fun (u1 : Mm) =>
  some u1
def gX11_stepOn_157 (s0 : Int32) (u : Mm) : Option Mm :=
  letv (stm u 74 21 s0) fun (u1 : Mm) =>
  if 0 < (u1 74 2) then
  (gd (ix ((u1 74 2) / 5) 8) <|
   (gX11_held ((u1 74 3) + (u1 75 (ixn ((u1 74 2) / 5)))) 999).bind fun (r4 : Int32) =>
   letv (stm u1 74 3 r4) fun (u5 : Mm) =>
   gd (ix ((u5 74 2) / 5) 8) <|
   (gX11_held ((u5 74 4) + (u5 76 (ixn ((u5 74 2) / 5)))) 999).bind fun (r7 : Int32) =>
   letv (stm u5 74 4 r7) fun (u8 : Mm) =>
   gX11_stepOn_219 u8)
  else
  (gX11_stepOn_219 u1)
def gX11_stepOn_156 (u : Mm) : Option Mm :=
  gX11_stepOn_157 0 u
def gX11_stepOn_57_Ls (v2 : Int32) (j57 : Int32 → Mm → Option Mm) (v3 : Int32) (u : Mm) : Option Mm :=
  if v3 < (u 74 8) then
  (gd (ix (v3 + 1) 6) <|
   gd (ix v3 6) <|
   letv (stm u 77 (ixn v3) (u 77 (ixn (v3 + 1)))) fun (u13 : Mm) =>
   letv (v3 + 1) fun (v3_15 : Int32) =>
   j57 v3_15 u13)
  else
  (gd (ix (u 74 8) 6) <|
   letv (stm u 77 (ixn (u 74 8)) 0) fun (u2 : Mm) =>
   (gX11_held (((u2 74 5) - 1) + v2) 60).bind fun (r4 : Int32) =>
   letv (stm u2 74 5 r4) fun (u5 : Mm) =>
   (gX11_risingNow u5).bind fun (r6 : Int32) =>
   letv (u5 74 2) fun (v4_7 : Int32) =>
   (gX11_held ((u5 74 2) + r6) 39).bind fun (r8 : Int32) =>
   letv (stm u5 74 2 r8) fun (u9 : Mm) =>
   if 0 < v4_7 then
   (if (u9 74 2) = 0 then
    (gX11_stepOn_157 (-r6) u9)
    else
    (gX11_stepOn_156 u9))
   else
   (gX11_stepOn_156 u9))
def gX11_stepOn_57_L (v2 : Int32) : Nat → Int32 → Mm → Option Mm
  | 0 => fun _ _ => none
  | n + 1 => gX11_stepOn_57_Ls v2 (gX11_stepOn_57_L v2 n)
def gX11_stepOn_47 (s0 : Int32) (s1 : Int32) (u : Mm) : Option Mm :=
  gd (ix s1 6) <|
  letv (stm u 77 (ixn s1) s0) fun (u1 : Mm) =>
  letv (u1 77 (ixn 0)) fun (v2_3 : Int32) =>
  gX11_stepOn_57_L v2_3 FU 0 u1
def gX11_stepOn_15 (v1 : Int32) (s0 : Int32) (s1 : Int32) (u : Mm) : Option Mm :=
  letv (stm u 74 6 (s1 - s0)) fun (u1 : Mm) =>
  if v1 = 1 then
  (gX11_stepOn_47 4 (u1 74 8) u1)
  else
  (if v1 = 2 then
   (gX11_stepOn_47 (-5) (u1 74 8) u1)
   else
   (gX11_stepOn_47 0 (u1 74 8) u1))
def gX11_stepOn_b (v1 : Int32) (u : Mm) : Option Mm :=
  if v1 = 1 then
  (gX11_stepOn_15 v1 1 (u 74 6) u)
  else
  (gX11_stepOn_15 v1 0 (u 74 6) u)
def gX11_stepOn (v1 : Int32) (u : Mm) : Option Mm := gX11_stepOn_b v1 u
-- X11_forgetWork: forgetWork ()V, depth 0
def gX11_forgetWork_2_Ls (j2 : Int32 → Mm → Option Mm) (v1 : Int32) (u : Mm) : Option Mm :=
  if v1 < 6 then
  (gd (ix v1 6) <|
   letv (stm u 77 (ixn v1) 0) fun (u2 : Mm) =>
   letv (v1 + 1) fun (v1_4 : Int32) =>
   j2 v1_4 u2)
  else
  (some u)
def gX11_forgetWork_2_L : Nat → Int32 → Mm → Option Mm
  | 0 => fun _ _ => none
  | n + 1 => gX11_forgetWork_2_Ls (gX11_forgetWork_2_L n)
def gX11_forgetWork_b (u : Mm) : Option Mm :=
  gX11_forgetWork_2_L FU 0 u
def gX11_forgetWork (u : Mm) : Option Mm := gX11_forgetWork_b u
-- X11_workUnderWay: workUnderWay ()I, depth 0
def gX11_workUnderWay_4_Ls (u : Mm) (j4 : Int32 → Int32 → Option Int32) (v1 : Int32) (v2 : Int32) : Option Int32 :=
  if v2 < 6 then
  (gd (ix v2 6) <|
   letv (v1 + (u 77 (ixn v2))) fun (v1_3 : Int32) =>
   letv (v2 + 1) fun (v2_4 : Int32) =>
   j4 v1_3 v2_4)
  else
  (some v1)
def gX11_workUnderWay_4_L (u : Mm) : Nat → Int32 → Int32 → Option Int32
  | 0 => fun _ _ => none
  | n + 1 => gX11_workUnderWay_4_Ls u (gX11_workUnderWay_4_L u n)
def gX11_workUnderWay_b (u : Mm) : Option Int32 :=
  gX11_workUnderWay_4_L u FU 0 0
def gX11_workUnderWay (u : Mm) : Option Int32 := gX11_workUnderWay_b u
-- X11_holdOn: holdOn ()V, depth 3
def gX11_holdOn_29 (s0 : Int32) (u : Mm) : Option Mm :=
  (gX11_stepOn s0 u).bind fun (u1 : Mm) =>
  some u1
def gX11_holdOn_28 (u : Mm) : Option Mm :=
  gX11_holdOn_29 0 u
def gX11_holdOn_b (u : Mm) : Option Mm :=
  (gX11_workUnderWay u).bind fun (r1 : Int32) =>
  (gX11_balance u).bind fun (r2 : Int32) =>
  if ((u 74 5) + r1) < r2 then
  (if 0 < (u 74 6) then
   (gX11_holdOn_29 1 u)
   else
   (gX11_holdOn_28 u))
  else
  (gX11_holdOn_28 u)
def gX11_holdOn (u : Mm) : Option Mm := gX11_holdOn_b u
-- X11_fieldAt: fieldAt ()I, depth 1
def gX11_fieldAt_2_Ls (u : Mm) (j2 : Int32 → Option Int32) (v1 : Int32) : Option Int32 :=
  if v1 < (u 74 11) then
  (gd (ix v1 8) <|
   gd (ix v1 8) <|
   gd (ix v1 8) <|
   (gX11_in ((u 74 3).toInt64) ((u 80 (ixn v1)).toInt64) ((((u 80 (ixn v1)) + (u 82 (ixn v1))) - 1).toInt64)).bind fun (r5 : Int32) =>
   if r5 = 0 then
   (letv (v1 + 1) fun (v1_7 : Int32) =>
    j2 v1_7)
   else
   (gd (ix v1 8) <|
    gd (ix v1 8) <|
    gd (ix v1 8) <|
    (gX11_in ((u 74 4).toInt64) ((u 81 (ixn v1)).toInt64) ((((u 81 (ixn v1)) + (u 82 (ixn v1))) - 1).toInt64)).bind fun (r11 : Int32) =>
    if r11 = 0 then
    (letv (v1 + 1) fun (v1_13 : Int32) =>
     j2 v1_13)
    else
    (some v1)))
  else
  (some (-9))
def gX11_fieldAt_2_L (u : Mm) : Nat → Int32 → Option Int32
  | 0 => fun _ => none
  | n + 1 => gX11_fieldAt_2_Ls u (gX11_fieldAt_2_L u n)
def gX11_fieldAt_b (u : Mm) : Option Int32 :=
  gX11_fieldAt_2_L u FU 0
def gX11_fieldAt (u : Mm) : Option Int32 := gX11_fieldAt_b u
-- X11_dragOf: dragOf (I)I, depth 1
def gX11_dragOf_b (v1 : Int32) (u : Mm) : Option Int32 :=
  (gX11_plainly (u 75 (ixn 0))).bind fun (r1 : Int32) =>
  letv (((4 * v1) + (3 * (r1 + (u 76 (ixn 0))))) - (2 * (u 74 7))) fun (v2_2 : Int32) =>
  if v2_2 < 0 then
  (some 0)
  else
  (some v2_2)
def gX11_dragOf (v1 : Int32) (u : Mm) : Option Int32 := gX11_dragOf_b v1 u
-- X11_costOf: costOf (II)I, depth 2
def gX11_costOf_19 (v1 : Int32) (v2 : Int32) (s0 : Int32) (u : Mm) : Option Int32 :=
  gd (ix v1 8) <|
  letv ((s0 + (u 79 (ixn v1))) + 5) fun (v4_2 : Int32) =>
  gd (ix v1 8) <|
  letv (s0 + (3 * (u 79 (ixn v1)))) fun (v5_4 : Int32) =>
  gd (ix v1 8) <|
  if (u 78 (ixn v1)) = 1 then
  (some v4_2)
  else if (u 78 (ixn v1)) = 2 then
  (some v5_4)
  else if (u 78 (ixn v1)) = 3 then
  (gd (ix v1 8) <|
   some (s0 + (u 79 (ixn v1))))
  else if (u 78 (ixn v1)) = 4 then
  ((gX11_dragOf v2 u).bind fun (r11 : Int32) =>
   gd (ix v1 8) <|
   if (10 * (u 82 (ixn v1))) < r11 then
   (some (v5_4 + 20))
   else
   (some (v5_4 + 0)))
  else if (u 78 (ixn v1)) = 5 then
  (some (v4_2 / 2))
  else 
  (some s0)
def gX11_costOf_b (v1 : Int32) (v2 : Int32) (u : Mm) : Option Int32 :=
  if v1 < 0 then
  (some 40)
  else
  (if 3 < v2 then
   (gX11_costOf_19 v1 v2 (2 * v2) u)
   else
   (gX11_costOf_19 v1 v2 v2 u))
def gX11_costOf (v1 : Int32) (v2 : Int32) (u : Mm) : Option Int32 := gX11_costOf_b v1 v2 u
-- X11_feed: feed (I)I, depth 1
def gX11_feed_32 (u : Mm) : Option (Int32 × Mm) :=
  bI (gX11_refuse (-6) u) fun (r2 : Int32) (u1 : Mm) =>
  some (r2, u1)
def gX11_feed_b (v1 : Int32) (u : Mm) : Option (Int32 × Mm) :=
  letv (stm u 74 19 0) fun (u1 : Mm) =>
  if v1 < 0 then
  (bI (gX11_refuse (-4) u1) fun (r9 : Int32) (u8 : Mm) =>
   some (r9, u8))
  else
  (if 255 < v1 then
   (gX11_feed_32 u1)
   else
   (if (u1 74 23) = 96 then
    (gX11_feed_32 u1)
    else
    (gd (ix (u1 74 23) 96) <|
     letv (stm u1 85 (ixn (u1 74 23)) v1) fun (u5 : Mm) =>
     letv (stm u5 74 23 ((u5 74 23) + 1)) fun (u7 : Mm) =>
     some (u7 74 23, u7))))
def gX11_feed (v1 : Int32) (u : Mm) : Option (Int32 × Mm) := gX11_feed_b v1 u
-- X11_here: here ()I, depth 0
def gX11_here_b (u : Mm) : Option Int32 :=
  if (u 74 24) < (u 74 23) then
  (gd (ix (u 74 24) 96) <|
   some (u 85 (ixn (u 74 24))))
  else
  (some (-1))
def gX11_here (u : Mm) : Option Int32 := gX11_here_b u
-- X11_readDigits: readDigits (I)I, depth 1
def gX11_readDigits_88 (j4 : Int32 → Int32 → Mm → Option (Int32 × Mm)) (v1 : Int32) (v2 : Int32) (v3 : Int32) (s0 : Int32) (s1 : Int32) (u : Mm) : Option (Int32 × Mm) :=
  letv (stm u 74 24 (s1 + s0)) fun (u1 : Mm) =>
  letv (v3 + 1) fun (v3_2 : Int32) =>
  j4 v2 v3_2 u1
def gX11_readDigits_70 (j4 : Int32 → Int32 → Mm → Option (Int32 × Mm)) (v1 : Int32) (v3 : Int32) (s0 : Int32) (u : Mm) : Option (Int32 × Mm) :=
  if (u 74 25) = 0 then
  (gX11_readDigits_88 j4 v1 s0 v3 1 (u 74 24) u)
  else
  (gX11_readDigits_88 j4 v1 s0 v3 0 (u 74 24) u)
def gX11_readDigits_39 (j4 : Int32 → Int32 → Mm → Option (Int32 × Mm)) (v1 : Int32) (v2 : Int32) (v3 : Int32) (s0 : Int32) (u : Mm) : Option (Int32 × Mm) :=
  gd (s0 = 0 ∨ s0 = 1) <|
  letv (stm u 74 25 s0) fun (u1 : Mm) =>
  if (u1 74 25) = 0 then
  (gd (ix (u1 74 24) 96) <|
   gX11_readDigits_70 j4 v1 v3 (((10 * v2) + (u1 85 (ixn (u1 74 24)))) - 48) u1)
  else
  (gX11_readDigits_70 j4 v1 v3 0 u1)
def gX11_readDigits_34 (j4 : Int32 → Int32 → Mm → Option (Int32 × Mm)) (v1 : Int32) (v2 : Int32) (v3 : Int32) (u : Mm) : Option (Int32 × Mm) :=
  gX11_readDigits_39 j4 v1 v2 v3 1 u
def gX11_readDigits_4_Ls (v1 : Int32) (j4 : Int32 → Int32 → Mm → Option (Int32 × Mm)) (v2 : Int32) (v3 : Int32) (u : Mm) : Option (Int32 × Mm) :=
  if v3 < v1 then
  (if (u 74 25) = 0 then
   ((gX11_here u).bind fun (r3 : Int32) =>
    (gX11_in r3.toInt64 48 57).bind fun (r4 : Int32) =>
    if r4 = 0 then
    (gX11_readDigits_34 j4 v1 v2 v3 u)
    else
    (gX11_readDigits_39 j4 v1 v2 v3 0 u))
   else
   (gX11_readDigits_34 j4 v1 v2 v3 u))
  else
  (some (v2, u))
def gX11_readDigits_4_L (v1 : Int32) : Nat → Int32 → Int32 → Mm → Option (Int32 × Mm)
  | 0 => fun _ _ _ => none
  | n + 1 => gX11_readDigits_4_Ls v1 (gX11_readDigits_4_L v1 n)
def gX11_readDigits_b (v1 : Int32) (u : Mm) : Option (Int32 × Mm) :=
  gX11_readDigits_4_L v1 FU 0 0 u
def gX11_readDigits (v1 : Int32) (u : Mm) : Option (Int32 × Mm) := gX11_readDigits_b v1 u
-- X11_readSigned: readSigned ()I, depth 2
def gX11_readSigned_50 (v1 : Int32) (s0 : Int32) (s1 : Int32) (u : Mm) : Option (Int32 × Mm) :=
  letv (stm u 74 24 (s1 + s0)) fun (u1 : Mm) =>
  bI (gX11_readDigits 1 u1) fun (r3 : Int32) (u2 : Mm) =>
  if v1 = 45 then
  (some (-r3, u2))
  else
  (some (r3, u2))
def gX11_readSigned_30 (v1 : Int32) (s0 : Int32) (u : Mm) : Option (Int32 × Mm) :=
  gd (s0 = 0 ∨ s0 = 1) <|
  letv (stm u 74 25 s0) fun (u1 : Mm) =>
  if (u1 74 25) = 0 then
  (gX11_readSigned_50 v1 1 (u1 74 24) u1)
  else
  (gX11_readSigned_50 v1 0 (u1 74 24) u1)
def gX11_readSigned_25 (v1 : Int32) (u : Mm) : Option (Int32 × Mm) :=
  gX11_readSigned_30 v1 1 u
def gX11_readSigned_29 (v1 : Int32) (u : Mm) : Option (Int32 × Mm) :=
  gX11_readSigned_30 v1 0 u
def gX11_readSigned_b (u : Mm) : Option (Int32 × Mm) :=
  (gX11_here u).bind fun (r1 : Int32) =>
  if (u 74 25) = 0 then
  (if r1 = 43 then
   (gX11_readSigned_29 r1 u)
   else
   (if r1 = 45 then
    (gX11_readSigned_29 r1 u)
    else
    (gX11_readSigned_25 r1 u)))
  else
  (gX11_readSigned_25 r1 u)
def gX11_readSigned (u : Mm) : Option (Int32 × Mm) := gX11_readSigned_b u
-- X11_isLetter: isLetter (I)Z, depth 0
def gX11_isLetter_b (v0 : Int32) : Option Int32 :=
  if v0 = 119 then
  (some 1)
  else
  (if v0 = 102 then
   (some 1)
   else
   (if v0 = 114 then
    (some 1)
    else
    (if v0 = 98 then
     (some 1)
     else
     (if v0 = 104 then
      (some 1)
      else
      (if v0 = 108 then
       (some 1)
       else
       (if v0 = 97 then
        (some 1)
        else
        (some 0)))))))
def gX11_isLetter (v0 : Int32) : Option Int32 := gX11_isLetter_b v0
-- X11_readActs: readActs (I)V, depth 2
def gX11_readActs_36 (j2 : Int32 → Mm → Option Mm) (v1 : Int32) (v2 : Int32) (u : Mm) : Option Mm :=
  bI (gX11_readDigits 1 u) fun (r2 : Int32) (u1 : Mm) =>
  gd (ix ((9 * v1) + v2) 441) <|
  letv (stm u1 88 (ixn ((9 * v1) + v2)) r2) fun (u3 : Mm) =>
  letv (v2 + 1) fun (v2_5 : Int32) =>
  j2 v2_5 u3
def gX11_readActs_58 (v1 : Int32) (v2 : Int32) (u : Mm) : Option Mm :=
  gd (ix v1 49) <|
  letv (stm u 89 (ixn v1) v2) fun (u1 : Mm) =>
  some u1
def gX11_readActs_2_Ls (v1 : Int32) (j2 : Int32 → Mm → Option Mm) (v2 : Int32) (u : Mm) : Option Mm :=
  if (u 74 25) = 0 then
  (if v2 < 9 then
   (if v2 = 0 then
    (gX11_readActs_36 j2 v1 v2 u)
    else
    ((gX11_here u).bind fun (r4 : Int32) =>
     (gX11_in r4.toInt64 48 57).bind fun (r5 : Int32) =>
     if r5 = 0 then
     (gX11_readActs_58 v1 v2 u)
     else
     (gX11_readActs_36 j2 v1 v2 u)))
   else
   (gX11_readActs_58 v1 v2 u))
  else
  (gX11_readActs_58 v1 v2 u)
def gX11_readActs_2_L (v1 : Int32) : Nat → Int32 → Mm → Option Mm
  | 0 => fun _ _ => none
  | n + 1 => gX11_readActs_2_Ls v1 (gX11_readActs_2_L v1 n)
def gX11_readActs_b (v1 : Int32) (u : Mm) : Option Mm :=
  gX11_readActs_2_L v1 FU 0 u
def gX11_readActs (v1 : Int32) (u : Mm) : Option Mm := gX11_readActs_b v1 u
-- X11_readStatement: readStatement ()V, depth 3
def gX11_readStatement_396 (s0 : Int32) (s1 : Int32) (u : Mm) : Option Mm :=
  letv (stm u 74 24 (s1 + s0)) fun (u1 : Mm) =>
  letv (stm u1 74 26 ((u1 74 26) + 1)) fun (u2 : Mm) =>
  some u2
def gX11_readStatement_376 (s0 : Int32) (u : Mm) : Option Mm :=
  gd (s0 = 0 ∨ s0 = 1) <|
  letv (stm u 74 25 s0) fun (u1 : Mm) =>
  if (u1 74 25) = 0 then
  (gX11_readStatement_396 1 (u1 74 24) u1)
  else
  (gX11_readStatement_396 0 (u1 74 24) u1)
def gX11_readStatement_371 (u : Mm) : Option Mm :=
  gX11_readStatement_376 1 u
def gX11_readStatement_354 (u : Mm) : Option Mm :=
  if (u 74 25) = 0 then
  ((gX11_here u).bind fun (r2 : Int32) =>
   if r2 = 59 then
   (gX11_readStatement_376 0 u)
   else
   (gX11_readStatement_371 u))
  else
  (gX11_readStatement_371 u)
def gX11_readStatement_72 (v1 : Int32) (v2 : Int32) (v3 : Int32) (s0 : Int32) (s1 : Int32) (u : Mm) : Option Mm :=
  letv (stm u 74 24 (s1 + s0)) fun (u1 : Mm) =>
  if v2 = 98 then
  (bI (gX11_readDigits 2 u1) fun (r4 : Int32) (u3 : Mm) =>
   gd (ix v3 441) <|
   letv (stm u3 88 (ixn v3) r4) fun (u5 : Mm) =>
   bI (gX11_readDigits 2 u5) fun (r8 : Int32) (u7 : Mm) =>
   gd (ix (v3 + 1) 441) <|
   letv (stm u7 88 (ixn (v3 + 1)) r8) fun (u9 : Mm) =>
   bI (gX11_readDigits 1 u9) fun (r12 : Int32) (u11 : Mm) =>
   gd (ix (v3 + 2) 441) <|
   letv (stm u11 88 (ixn (v3 + 2)) r12) fun (u13 : Mm) =>
   gX11_readStatement_354 u13)
  else if v2 = 102 then
  (bI (gX11_readDigits 1 u1) fun (r17 : Int32) (u16 : Mm) =>
   gd (ix v3 441) <|
   letv (stm u16 88 (ixn v3) r17) fun (u18 : Mm) =>
   bI (gX11_readDigits 1 u18) fun (r21 : Int32) (u20 : Mm) =>
   gd (ix (v3 + 1) 441) <|
   letv (stm u20 88 (ixn (v3 + 1)) r21) fun (u22 : Mm) =>
   bI (gX11_readDigits 3 u22) fun (r25 : Int32) (u24 : Mm) =>
   gd (ix (v3 + 2) 441) <|
   letv (stm u24 88 (ixn (v3 + 2)) r25) fun (u26 : Mm) =>
   bI (gX11_readDigits 3 u26) fun (r29 : Int32) (u28 : Mm) =>
   gd (ix (v3 + 3) 441) <|
   letv (stm u28 88 (ixn (v3 + 3)) r29) fun (u30 : Mm) =>
   bI (gX11_readDigits 2 u30) fun (r33 : Int32) (u32 : Mm) =>
   gd (ix (v3 + 4) 441) <|
   letv (stm u32 88 (ixn (v3 + 4)) r33) fun (u34 : Mm) =>
   gX11_readStatement_354 u34)
  else if v2 = 104 then
  (bI (gX11_readDigits 2 u1) fun (r38 : Int32) (u37 : Mm) =>
   gd (ix v3 441) <|
   letv (stm u37 88 (ixn v3) r38) fun (u39 : Mm) =>
   gX11_readStatement_354 u39)
  else if v2 = 108 then
  (bI (gX11_readDigits 1 u1) fun (r43 : Int32) (u42 : Mm) =>
   gd (ix v3 441) <|
   letv (stm u42 88 (ixn v3) r43) fun (u44 : Mm) =>
   gX11_readStatement_354 u44)
  else if v2 = 114 then
  (bI (gX11_readDigits 1 u1) fun (r48 : Int32) (u47 : Mm) =>
   gd (ix v3 441) <|
   letv (stm u47 88 (ixn v3) r48) fun (u49 : Mm) =>
   bI (gX11_readDigits 1 u49) fun (r52 : Int32) (u51 : Mm) =>
   gd (ix (v3 + 1) 441) <|
   letv (stm u51 88 (ixn (v3 + 1)) r52) fun (u53 : Mm) =>
   bI (gX11_readDigits 2 u53) fun (r56 : Int32) (u55 : Mm) =>
   gd (ix (v3 + 2) 441) <|
   letv (stm u55 88 (ixn (v3 + 2)) r56) fun (u57 : Mm) =>
   gX11_readStatement_354 u57)
  else if v2 = 119 then
  (bI (gX11_readDigits 1 u1) fun (r61 : Int32) (u60 : Mm) =>
   gd (ix v3 441) <|
   letv (stm u60 88 (ixn v3) r61) fun (u62 : Mm) =>
   bI (gX11_readSigned u62) fun (r65 : Int32) (u64 : Mm) =>
   gd (ix (v3 + 1) 441) <|
   letv (stm u64 88 (ixn (v3 + 1)) r65) fun (u66 : Mm) =>
   bI (gX11_readDigits 1 u66) fun (r69 : Int32) (u68 : Mm) =>
   gd (ix (v3 + 2) 441) <|
   letv (stm u68 88 (ixn (v3 + 2)) r69) fun (u70 : Mm) =>
   gX11_readStatement_354 u70)
  else 
  ((gX11_readActs v1 u1).bind fun (u72 : Mm) =>
   gX11_readStatement_354 u72)
def gX11_readStatement_52 (v1 : Int32) (v2 : Int32) (v3 : Int32) (s0 : Int32) (u : Mm) : Option Mm :=
  gd (s0 = 0 ∨ s0 = 1) <|
  letv (stm u 74 25 s0) fun (u1 : Mm) =>
  if (u1 74 25) = 0 then
  (gX11_readStatement_72 v1 v2 v3 1 (u1 74 24) u1)
  else
  (gX11_readStatement_72 v1 v2 v3 0 (u1 74 24) u1)
def gX11_readStatement_47 (v1 : Int32) (v2 : Int32) (v3 : Int32) (u : Mm) : Option Mm :=
  gX11_readStatement_52 v1 v2 v3 1 u
def gX11_readStatement_b (u : Mm) : Option Mm :=
  letv (u 74 26) fun (v1_1 : Int32) =>
  (gX11_here u).bind fun (r2 : Int32) =>
  letv (9 * v1_1) fun (v3_3 : Int32) =>
  gd (ix v1_1 49) <|
  letv (stm u 86 (ixn v1_1) (u 74 24)) fun (u4 : Mm) =>
  gd (ix v1_1 49) <|
  letv (stm u4 87 (ixn v1_1) r2) fun (u6 : Mm) =>
  if (u6 74 25) = 0 then
  ((gX11_isLetter r2).bind fun (r9 : Int32) =>
   if r9 = 0 then
   (gX11_readStatement_47 v1_1 r2 v3_3 u6)
   else
   (gX11_readStatement_52 v1_1 r2 v3_3 0 u6))
  else
  (gX11_readStatement_47 v1_1 r2 v3_3 u6)
def gX11_readStatement (u : Mm) : Option Mm := gX11_readStatement_b u
-- X11_fieldComes: fieldComes (I)Z, depth 1
def gX11_fieldComes_44 (v1 : Int32) (s0 : Int32) (u : Mm) : Option (Int32 × Mm) :=
  if s0 = 0 then
  (gd (s0 = 0 ∨ s0 = 1) <|
   some (s0, u))
  else
  (gd (ix v1 441) <|
   gd (ix (u 74 11) 8) <|
   letv (stm u 78 (ixn (u 74 11)) (u 88 (ixn v1))) fun (u4 : Mm) =>
   gd (ix (v1 + 1) 441) <|
   gd (ix (u4 74 11) 8) <|
   letv (stm u4 79 (ixn (u4 74 11)) (u4 88 (ixn (v1 + 1)))) fun (u7 : Mm) =>
   gd (ix (v1 + 2) 441) <|
   gd (ix (u7 74 11) 8) <|
   letv (stm u7 80 (ixn (u7 74 11)) (u7 88 (ixn (v1 + 2)))) fun (u10 : Mm) =>
   gd (ix (v1 + 3) 441) <|
   gd (ix (u10 74 11) 8) <|
   letv (stm u10 81 (ixn (u10 74 11)) (u10 88 (ixn (v1 + 3)))) fun (u13 : Mm) =>
   gd (ix (v1 + 4) 441) <|
   gd (ix (u13 74 11) 8) <|
   letv (stm u13 82 (ixn (u13 74 11)) (u13 88 (ixn (v1 + 4)))) fun (u16 : Mm) =>
   letv (stm u16 74 11 ((u16 74 11) + 1)) fun (u18 : Mm) =>
   gd (s0 = 0 ∨ s0 = 1) <|
   some (s0, u18))
def gX11_fieldComes_43 (v1 : Int32) (u : Mm) : Option (Int32 × Mm) :=
  gX11_fieldComes_44 v1 0 u
def gX11_fieldComes_b (v1 : Int32) (u : Mm) : Option (Int32 × Mm) :=
  gd (ix v1 441) <|
  if (u 88 (ixn v1)) < 6 then
  (gd (ix (v1 + 4) 441) <|
   (gX11_in ((u 88 (ixn (v1 + 4))).toInt64) 1 30).bind fun (r4 : Int32) =>
   if r4 = 0 then
   (gX11_fieldComes_43 v1 u)
   else
   (if (u 74 11) < 8 then
    (gX11_fieldComes_44 v1 1 u)
    else
    (gX11_fieldComes_43 v1 u)))
  else
  (gX11_fieldComes_43 v1 u)
def gX11_fieldComes (v1 : Int32) (u : Mm) : Option (Int32 × Mm) := gX11_fieldComes_b v1 u
-- X11_lagBecomes: lagBecomes (I)V, depth 1
def gX11_lagBecomes_b (v1 : Int32) (u : Mm) : Option Mm :=
  if v1 = (u 74 8) then
  (letv (stm u 74 8 v1) fun (u2 : Mm) =>
   some u2)
  else
  ((gX11_forgetWork u).bind fun (u3 : Mm) =>
   letv (stm u3 74 8 v1) fun (u4 : Mm) =>
   some u4)
def gX11_lagBecomes (v1 : Int32) (u : Mm) : Option Mm := gX11_lagBecomes_b v1 u
-- X11_settingsCome: settingsCome (I)Z, depth 2
def gX11_settingsCome_108 (v2 : Int32) (v3 : Int32) (s0 : Int32) (u : Mm) : Option (Int32 × Mm) :=
  letv (stm u 74 6 s0) fun (u1 : Mm) =>
  if v3 = 0 then
  (letv (stm u1 74 7 (u1 74 7)) fun (u3 : Mm) =>
   gd (v3 = 0 ∨ v3 = 1) <|
   some (v3, u3))
  else
  (gd (ix (v2 + 2) 441) <|
   letv (stm u1 74 7 (u1 88 (ixn (v2 + 2)))) fun (u6 : Mm) =>
   gd (v3 = 0 ∨ v3 = 1) <|
   some (v3, u6))
def gX11_settingsCome_85 (v2 : Int32) (v3 : Int32) (s0 : Int32) (u : Mm) : Option (Int32 × Mm) :=
  letv (stm u 74 5 s0) fun (u1 : Mm) =>
  if v3 = 0 then
  (gX11_settingsCome_108 v2 v3 (u1 74 6) u1)
  else
  (gd (ix (v2 + 1) 441) <|
   gX11_settingsCome_108 v2 v3 (u1 88 (ixn (v2 + 1))) u1)
def gX11_settingsCome_66 (v2 : Int32) (s0 : Int32) (u : Mm) : Option (Int32 × Mm) :=
  if s0 = 0 then
  (gX11_settingsCome_85 v2 s0 (u 74 5) u)
  else
  (gd (ix v2 441) <|
   gX11_settingsCome_85 v2 s0 (u 88 (ixn v2)) u)
def gX11_settingsCome_65 (v2 : Int32) (u : Mm) : Option (Int32 × Mm) :=
  gX11_settingsCome_66 v2 0 u
def gX11_settingsCome_164 (v2 : Int32) (s0 : Int32) (u : Mm) : Option (Int32 × Mm) :=
  if s0 = 0 then
  (letv (stm u 74 2 (u 74 2)) fun (u2 : Mm) =>
   gd (s0 = 0 ∨ s0 = 1) <|
   some (s0, u2))
  else
  (gd (ix v2 441) <|
   letv (stm u 74 2 (u 88 (ixn v2))) fun (u5 : Mm) =>
   gd (s0 = 0 ∨ s0 = 1) <|
   some (s0, u5))
def gX11_settingsCome_205 (v2 : Int32) (s0 : Int32) (u : Mm) : Option (Int32 × Mm) :=
  if s0 = 0 then
  (gd (s0 = 0 ∨ s0 = 1) <|
   some (s0, u))
  else
  (gd (ix v2 441) <|
   (gX11_lagBecomes (u 88 (ixn v2)) u).bind fun (u4 : Mm) =>
   (gX11_forgetWork u4).bind fun (u5 : Mm) =>
   gd (s0 = 0 ∨ s0 = 1) <|
   some (s0, u5))
def gX11_settingsCome_b (v1 : Int32) (u : Mm) : Option (Int32 × Mm) :=
  letv (9 * v1) fun (v2_1 : Int32) =>
  gd (ix v1 49) <|
  if (u 87 (ixn v1)) = 98 then
  (gd (ix v2_1 441) <|
   if 60 < (u 88 (ixn v2_1)) then
   (gX11_settingsCome_65 v2_1 u)
   else
   (gd (ix (v2_1 + 1) 441) <|
    if 60 < (u 88 (ixn (v2_1 + 1))) then
    (gX11_settingsCome_65 v2_1 u)
    else
    (gd (ix (v2_1 + 2) 441) <|
     (gX11_in ((u 88 (ixn (v2_1 + 2))).toInt64) 1 6).bind fun (r15 : Int32) =>
     if r15 = 0 then
     (gX11_settingsCome_65 v2_1 u)
     else
     (gX11_settingsCome_66 v2_1 1 u))))
  else
  (gd (ix v1 49) <|
   if (u 87 (ixn v1)) = 104 then
   (gd (ix v2_1 441) <|
    if (u 88 (ixn v2_1)) < 40 then
    (gX11_settingsCome_164 v2_1 1 u)
    else
    (gX11_settingsCome_164 v2_1 0 u))
   else
   (gd (ix v2_1 441) <|
    if (u 88 (ixn v2_1)) < 6 then
    (gX11_settingsCome_205 v2_1 1 u)
    else
    (gX11_settingsCome_205 v2_1 0 u)))
def gX11_settingsCome (v1 : Int32) (u : Mm) : Option (Int32 × Mm) := gX11_settingsCome_b v1 u
-- X11_actsCome: actsCome (I)Z, depth 3
def gX11_actsCome_41 (j2 : Int32 → Mm → Option (Int32 × Mm)) (v1 : Int32) (v2 : Int32) (v3 : Int32) (u : Mm) : Option (Int32 × Mm) :=
  if (u 74 9) = 999 then
  (some (0, u))
  else
  ((gX11_stepOn v3 u).bind fun (u2 : Mm) =>
   letv (v2 + 1) fun (v2_3 : Int32) =>
   j2 v2_3 u2)
def gX11_actsCome_2_Ls (v1 : Int32) (j2 : Int32 → Mm → Option (Int32 × Mm)) (v2 : Int32) (u : Mm) : Option (Int32 × Mm) :=
  gd (ix v1 49) <|
  if v2 < (u 89 (ixn v1)) then
  (gd (ix ((9 * v1) + v2) 441) <|
   letv (u 88 (ixn ((9 * v1) + v2))) fun (v3_4 : Int32) =>
   if 2 < v3_4 then
   (some (0, u))
   else
   (if v3_4 = 1 then
    (if (u 74 6) = 0 then
     (some (0, u))
     else
     (gX11_actsCome_41 j2 v1 v2 v3_4 u))
    else
    (gX11_actsCome_41 j2 v1 v2 v3_4 u)))
  else
  (some (1, u))
def gX11_actsCome_2_L (v1 : Int32) : Nat → Int32 → Mm → Option (Int32 × Mm)
  | 0 => fun _ _ => none
  | n + 1 => gX11_actsCome_2_Ls v1 (gX11_actsCome_2_L v1 n)
def gX11_actsCome_b (v1 : Int32) (u : Mm) : Option (Int32 × Mm) :=
  gX11_actsCome_2_L v1 FU 0 u
def gX11_actsCome (v1 : Int32) (u : Mm) : Option (Int32 × Mm) := gX11_actsCome_b v1 u
-- X11_putRoad: putRoad (III)V, depth 0
def gX11_putRoad_b (v1 : Int32) (v2 : Int32) (v3 : Int32) (u : Mm) : Option Mm :=
  gd (ix ((8 * v1) + v2) 64) <|
  letv (stm u 83 (ixn ((8 * v1) + v2)) v3) fun (u1 : Mm) =>
  gd (ix ((8 * v2) + v1) 64) <|
  letv (stm u1 83 (ixn ((8 * v2) + v1)) v3) fun (u3 : Mm) =>
  some u3
def gX11_putRoad (v1 : Int32) (v2 : Int32) (v3 : Int32) (u : Mm) : Option Mm := gX11_putRoad_b v1 v2 v3 u
-- X11_comes: comes (I)Z, depth 4
def gX11_comes_72 (v2 : Int32) (s0 : Int32) (u : Mm) : Option (Int32 × Mm) :=
  if s0 = 0 then
  (gd (s0 = 0 ∨ s0 = 1) <|
   some (s0, u))
  else
  (gd (ix v2 441) <|
   gd (ix (v2 + 1) 441) <|
   gd (ix (u 88 (ixn v2)) 8) <|
   letv (stm u 75 (ixn (u 88 (ixn v2))) (u 88 (ixn (v2 + 1)))) fun (u5 : Mm) =>
   gd (ix v2 441) <|
   gd (ix (v2 + 2) 441) <|
   gd (ix (u5 88 (ixn v2)) 8) <|
   letv (stm u5 76 (ixn (u5 88 (ixn v2))) (u5 88 (ixn (v2 + 2)))) fun (u9 : Mm) =>
   gd (s0 = 0 ∨ s0 = 1) <|
   some (s0, u9))
def gX11_comes_171 (v2 : Int32) (s0 : Int32) (u : Mm) : Option (Int32 × Mm) :=
  if s0 = 0 then
  (gd (s0 = 0 ∨ s0 = 1) <|
   some (s0, u))
  else
  (gd (ix v2 441) <|
   gd (ix (v2 + 1) 441) <|
   gd (ix (v2 + 2) 441) <|
   (gX11_putRoad (u 88 (ixn v2)) (u 88 (ixn (v2 + 1))) (u 88 (ixn (v2 + 2))) u).bind fun (u6 : Mm) =>
   gd (s0 = 0 ∨ s0 = 1) <|
   some (s0, u6))
def gX11_comes_170 (v2 : Int32) (u : Mm) : Option (Int32 × Mm) :=
  gX11_comes_171 v2 0 u
def gX11_comes_b (v1 : Int32) (u : Mm) : Option (Int32 × Mm) :=
  letv (9 * v1) fun (v2_1 : Int32) =>
  gd (ix v1 49) <|
  if (u 87 (ixn v1)) = 97 then
  (bI (gX11_actsCome v1 u) fun (r5 : Int32) (u4 : Mm) =>
   gd (r5 = 0 ∨ r5 = 1) <|
   some (r5, u4))
  else if (u 87 (ixn v1)) = 102 then
  (bI (gX11_fieldComes v2_1 u) fun (r9 : Int32) (u8 : Mm) =>
   gd (r9 = 0 ∨ r9 = 1) <|
   some (r9, u8))
  else if (u 87 (ixn v1)) = 114 then
  (gd (ix v2_1 441) <|
   (gX11_isPlace (u 88 (ixn v2_1))).bind fun (r13 : Int32) =>
   if r13 = 0 then
   (gX11_comes_170 v2_1 u)
   else
   (gd (ix (v2_1 + 1) 441) <|
    (gX11_isPlace (u 88 (ixn (v2_1 + 1)))).bind fun (r16 : Int32) =>
    if r16 = 0 then
    (gX11_comes_170 v2_1 u)
    else
    (gd (ix v2_1 441) <|
     gd (ix (v2_1 + 1) 441) <|
     if (u 88 (ixn v2_1)) = (u 88 (ixn (v2_1 + 1))) then
     (gX11_comes_170 v2_1 u)
     else
     (gX11_comes_171 v2_1 1 u))))
  else if (u 87 (ixn v1)) = 119 then
  (gd (ix v2_1 441) <|
   if (u 88 (ixn v2_1)) < 8 then
   (gX11_comes_72 v2_1 1 u)
   else
   (gX11_comes_72 v2_1 0 u))
  else 
  (bI (gX11_settingsCome v1 u) fun (r25 : Int32) (u24 : Mm) =>
   gd (r25 = 0 ∨ r25 = 1) <|
   some (r25, u24))
def gX11_comes (v1 : Int32) (u : Mm) : Option (Int32 × Mm) := gX11_comes_b v1 u
-- X11_carry: carry (I)I, depth 0
def gX11_carry_17 (u : Mm) : Option (Int32 × Mm) :=
  letv (stm u 74 34 ((u 74 34) + 1)) fun (u1 : Mm) =>
  gd (kd (ixn (u1 74 36)) = 1) <|
  gd (ix ((u1 74 34) - 1) (sz (ixn (u1 74 36)))) <|
  some (u1 (ixn (u1 74 36)) (ixn ((u1 74 34) - 1)), u1)
def gX11_carry_b (v1 : Int32) (u : Mm) : Option (Int32 × Mm) :=
  if (u 74 35) = 0 then
  (gX11_carry_17 u)
  else
  (gd (kd (ixn (u 74 36)) = 1) <|
   gd (ix (u 74 34) (sz (ixn (u 74 36)))) <|
   letv (stm u (ixn (u 74 36)) (ixn (u 74 34)) v1) fun (u3 : Mm) =>
   gX11_carry_17 u3)
def gX11_carry (v1 : Int32) (u : Mm) : Option (Int32 × Mm) := gX11_carry_b v1 u
-- X11_carryFlight: carryFlight ()V, depth 1
def gX11_carryFlight_98_Ls (j98 : Int32 → Mm → Option Mm) (v1 : Int32) (u : Mm) : Option Mm :=
  if v1 < 6 then
  (gd (ix v1 6) <|
   bI (gX11_carry (u 77 (ixn v1)) u) fun (r4 : Int32) (u3 : Mm) =>
   gd (ix v1 6) <|
   letv (stm u3 77 (ixn v1) r4) fun (u5 : Mm) =>
   letv (v1 + 1) fun (v1_7 : Int32) =>
   j98 v1_7 u5)
  else
  (some u)
def gX11_carryFlight_98_L : Nat → Int32 → Mm → Option Mm
  | 0 => fun _ _ => none
  | n + 1 => gX11_carryFlight_98_Ls (gX11_carryFlight_98_L n)
def gX11_carryFlight_b (u : Mm) : Option Mm :=
  bI (gX11_carry (u 74 2) u) fun (r2 : Int32) (u1 : Mm) =>
  letv (stm u1 74 2 r2) fun (u3 : Mm) =>
  bI (gX11_carry (u3 74 3) u3) fun (r5 : Int32) (u4 : Mm) =>
  letv (stm u4 74 3 r5) fun (u6 : Mm) =>
  bI (gX11_carry (u6 74 4) u6) fun (r8 : Int32) (u7 : Mm) =>
  letv (stm u7 74 4 r8) fun (u9 : Mm) =>
  bI (gX11_carry (u9 74 5) u9) fun (r11 : Int32) (u10 : Mm) =>
  letv (stm u10 74 5 r11) fun (u12 : Mm) =>
  bI (gX11_carry (u12 74 6) u12) fun (r14 : Int32) (u13 : Mm) =>
  letv (stm u13 74 6 r14) fun (u15 : Mm) =>
  bI (gX11_carry (u15 74 7) u15) fun (r17 : Int32) (u16 : Mm) =>
  letv (stm u16 74 7 r17) fun (u18 : Mm) =>
  bI (gX11_carry (u18 74 8) u18) fun (r20 : Int32) (u19 : Mm) =>
  letv (stm u19 74 8 r20) fun (u21 : Mm) =>
  bI (gX11_carry (u21 74 9) u21) fun (r23 : Int32) (u22 : Mm) =>
  letv (stm u22 74 9 r23) fun (u24 : Mm) =>
  gX11_carryFlight_98_L FU 0 u24
def gX11_carryFlight (u : Mm) : Option Mm := gX11_carryFlight_b u
-- X11_carryAll: carryAll ([IZ)V, depth 2
def gX11_carryAll_171_Ls (k1 : Nat) (j171 : Int32 → Mm → Option Mm) (v3 : Int32) (u : Mm) : Option Mm :=
  if v3 < 64 then
  (gd (ix v3 64) <|
   bI (gX11_carry (u 83 (ixn v3)) u) fun (r4 : Int32) (u3 : Mm) =>
   gd (ix v3 64) <|
   letv (stm u3 83 (ixn v3) r4) fun (u5 : Mm) =>
   letv (v3 + 1) fun (v3_7 : Int32) =>
   j171 v3_7 u5)
  else
  (some u)
def gX11_carryAll_171_L (k1 : Nat) : Nat → Int32 → Mm → Option Mm
  | 0 => fun _ _ => none
  | n + 1 => gX11_carryAll_171_Ls k1 (gX11_carryAll_171_L k1 n)
def gX11_carryAll_45_Ls (k1 : Nat) (j45 : Int32 → Mm → Option Mm) (v3 : Int32) (u : Mm) : Option Mm :=
  if v3 < 8 then
  (gd (ix v3 8) <|
   bI (gX11_carry (u 75 (ixn v3)) u) fun (r4 : Int32) (u3 : Mm) =>
   gd (ix v3 8) <|
   letv (stm u3 75 (ixn v3) r4) fun (u5 : Mm) =>
   gd (ix v3 8) <|
   bI (gX11_carry (u5 76 (ixn v3)) u5) fun (r9 : Int32) (u8 : Mm) =>
   gd (ix v3 8) <|
   letv (stm u8 76 (ixn v3) r9) fun (u10 : Mm) =>
   gd (ix v3 8) <|
   bI (gX11_carry (u10 78 (ixn v3)) u10) fun (r14 : Int32) (u13 : Mm) =>
   gd (ix v3 8) <|
   letv (stm u13 78 (ixn v3) r14) fun (u15 : Mm) =>
   gd (ix v3 8) <|
   bI (gX11_carry (u15 79 (ixn v3)) u15) fun (r19 : Int32) (u18 : Mm) =>
   gd (ix v3 8) <|
   letv (stm u18 79 (ixn v3) r19) fun (u20 : Mm) =>
   gd (ix v3 8) <|
   bI (gX11_carry (u20 80 (ixn v3)) u20) fun (r24 : Int32) (u23 : Mm) =>
   gd (ix v3 8) <|
   letv (stm u23 80 (ixn v3) r24) fun (u25 : Mm) =>
   gd (ix v3 8) <|
   bI (gX11_carry (u25 81 (ixn v3)) u25) fun (r29 : Int32) (u28 : Mm) =>
   gd (ix v3 8) <|
   letv (stm u28 81 (ixn v3) r29) fun (u30 : Mm) =>
   gd (ix v3 8) <|
   bI (gX11_carry (u30 82 (ixn v3)) u30) fun (r34 : Int32) (u33 : Mm) =>
   gd (ix v3 8) <|
   letv (stm u33 82 (ixn v3) r34) fun (u35 : Mm) =>
   letv (v3 + 1) fun (v3_37 : Int32) =>
   j45 v3_37 u35)
  else
  (gX11_carryAll_171_L k1 FU 0 u)
def gX11_carryAll_45_L (k1 : Nat) : Nat → Int32 → Mm → Option Mm
  | 0 => fun _ _ => none
  | n + 1 => gX11_carryAll_45_Ls k1 (gX11_carryAll_45_L k1 n)
def gX11_carryAll_b (k1 : Nat) (v2 : Int32) (u : Mm) : Option Mm :=
  letv (stm u 74 36 (nI k1)) fun (u1 : Mm) =>
  gd (v2 = 0 ∨ v2 = 1) <|
  letv (stm u1 74 35 v2) fun (u2 : Mm) =>
  letv (stm u2 74 34 0) fun (u4 : Mm) =>
  (gX11_carryFlight u4).bind fun (u5 : Mm) =>
  bI (gX11_carry (u5 74 11) u5) fun (r7 : Int32) (u6 : Mm) =>
  letv (stm u6 74 11 r7) fun (u8 : Mm) =>
  bI (gX11_carry (u8 74 18) u8) fun (r10 : Int32) (u9 : Mm) =>
  letv (stm u9 74 18 r10) fun (u11 : Mm) =>
  gX11_carryAll_45_L k1 FU 0 u11
def gX11_carryAll (k1 : Nat) (v2 : Int32) (u : Mm) : Option Mm := gX11_carryAll_b k1 v2 u
-- X11_land: land ()I, depth 5
def gX11_land_45 (j20 : Mm → Option (Int32 × Mm)) (u : Mm) : Option (Int32 × Mm) :=
  (gX11_readStatement u).bind fun (u1 : Mm) =>
  j20 u1
def gX11_land_84_Ls (j84 : Int32 → Mm → Option (Int32 × Mm)) (v1 : Int32) (u : Mm) : Option (Int32 × Mm) :=
  if v1 < (u 74 26) then
  (bI (gX11_comes v1 u) fun (r4 : Int32) (u3 : Mm) =>
   if r4 = 0 then
   ((gX11_carryAll 90 0 u3).bind fun (u7 : Mm) =>
    gd (ix v1 49) <|
    some ((-2000) - (u7 86 (ixn v1)), u7))
   else
   (letv (v1 + 1) fun (v1_6 : Int32) =>
    j84 v1_6 u3))
  else
  (letv (stm u 74 40 0) fun (u2 : Mm) =>
   some (u2 74 26, u2))
def gX11_land_84_L : Nat → Int32 → Mm → Option (Int32 × Mm)
  | 0 => fun _ _ => none
  | n + 1 => gX11_land_84_Ls (gX11_land_84_L n)
def gX11_land_52 (u : Mm) : Option (Int32 × Mm) :=
  letv (stm u 74 23 0) fun (u1 : Mm) =>
  if (u1 74 25) = 0 then
  ((gX11_carryAll 90 1 u1).bind fun (u3 : Mm) =>
   gX11_land_84_L FU 0 u3)
  else
  (some ((-1000) - (u1 74 24), u1))
def gX11_land_20_Ls (j20 : Mm → Option (Int32 × Mm)) (u : Mm) : Option (Int32 × Mm) :=
  if (u 74 25) = 0 then
  (if (u 74 26) = 0 then
   (gX11_land_45 j20 u)
   else
   (if (u 74 24) < (u 74 23) then
    (gX11_land_45 j20 u)
    else
    (gX11_land_52 u)))
  else
  (gX11_land_52 u)
def gX11_land_20_L : Nat → Mm → Option (Int32 × Mm)
  | 0 => fun _ => none
  | n + 1 => gX11_land_20_Ls (gX11_land_20_L n)
def gX11_land_b (u : Mm) : Option (Int32 × Mm) :=
  letv (stm u 74 19 0) fun (u1 : Mm) =>
  letv (stm u1 74 24 0) fun (u2 : Mm) =>
  letv (stm u2 74 25 0) fun (u3 : Mm) =>
  letv (stm u3 74 26 0) fun (u4 : Mm) =>
  gX11_land_20_L FU u4
def gX11_land (u : Mm) : Option (Int32 × Mm) := gX11_land_b u
-- X11_open: open ()V, depth 2
def gX11_open_b (u : Mm) : Option Mm :=
  letv (stm u 74 36 (nI 92)) fun (u1 : Mm) =>
  letv (stm u1 74 35 1) fun (u2 : Mm) =>
  letv (stm u2 74 34 0) fun (u3 : Mm) =>
  (gX11_carryFlight u3).bind fun (u4 : Mm) =>
  some u4
def gX11_open (u : Mm) : Option Mm := gX11_open_b u
-- X11_again: again ()V, depth 2
def gX11_again_b (u : Mm) : Option Mm :=
  letv (stm u 74 36 (nI 92)) fun (u1 : Mm) =>
  letv (stm u1 74 35 0) fun (u2 : Mm) =>
  letv (stm u2 74 34 0) fun (u3 : Mm) =>
  (gX11_carryFlight u3).bind fun (u4 : Mm) =>
  some u4
def gX11_again (u : Mm) : Option Mm := gX11_again_b u
-- X11_image: image ()I, depth 3
def gX11_image_b (u : Mm) : Option (Int32 × Mm) :=
  letv (stm u 74 19 0) fun (u1 : Mm) =>
  letv (stm u1 74 33 1) fun (u2 : Mm) =>
  (gX11_carryAll 91 1 u2).bind fun (u3 : Mm) =>
  some (u3 74 9, u3)
def gX11_image (u : Mm) : Option (Int32 × Mm) := gX11_image_b u
-- X11_restore: restore ()I, depth 3
def gX11_restore_b (u : Mm) : Option (Int32 × Mm) :=
  letv (stm u 74 19 0) fun (u1 : Mm) =>
  if (u1 74 33) = 0 then
  (bI (gX11_refuse (-3) u1) fun (r6 : Int32) (u5 : Mm) =>
   some (r6, u5))
  else
  ((gX11_carryAll 91 0 u1).bind fun (u3 : Mm) =>
   letv (stm u3 74 40 0) fun (u4 : Mm) =>
   some (u4 74 9, u4))
def gX11_restore (u : Mm) : Option (Int32 × Mm) := gX11_restore_b u
-- X11_layer: layer (II)I, depth 1
def gX11_layer_48 (s0 : Int32) (s2 : Int32) (u : Mm) : Option (Int32 × Mm) :=
  bI (gX11_refuse s0 u) fun (r2 : Int32) (u1 : Mm) =>
  some (s2 - r2, u1)
def gX11_layer_27 (v1 : Int32) (u : Mm) : Option (Int32 × Mm) :=
  (gX11_in v1.toInt64 0 7).bind fun (r1 : Int32) =>
  if r1 = 0 then
  (gX11_layer_48 (-1) 1000000000 u)
  else
  (gX11_layer_48 (-2) 1000000000 u)
def gX11_layer_b (v1 : Int32) (v2 : Int32) (u : Mm) : Option (Int32 × Mm) :=
  letv (stm u 74 19 0) fun (u1 : Mm) =>
  (gX11_in v1.toInt64 0 7).bind fun (r2 : Int32) =>
  if r2 = 0 then
  (gX11_layer_27 v1 u1)
  else
  ((gX11_in v2.toInt64 0 1).bind fun (r4 : Int32) =>
   if r4 = 0 then
   (gX11_layer_27 v1 u1)
   else
   (if v2 = 0 then
    (gd (ix v1 8) <|
     some (u1 75 (ixn v1), u1))
    else
    (gd (ix v1 8) <|
     some (u1 76 (ixn v1), u1))))
def gX11_layer (v1 : Int32) (v2 : Int32) (u : Mm) : Option (Int32 × Mm) := gX11_layer_b v1 v2 u
-- X11_wind: wind (III)I, depth 1
def gX11_wind_59 (v1 : Int32) (v2 : Int32) (v3 : Int32) (v4 : Int32) (u : Mm) : Option (Int32 × Mm) :=
  if v4 < 0 then
  (bI (gX11_refuse v4 u) fun (r11 : Int32) (u10 : Mm) =>
   some (r11, u10))
  else
  (gd (ix v1 8) <|
   gd (ix v1 8) <|
   letv ((100 * ((u 75 (ixn v1)) + 9)) + (u 76 (ixn v1))) fun (v5_4 : Int32) =>
   gd (ix v1 8) <|
   letv (stm u 75 (ixn v1) v2) fun (u5 : Mm) =>
   gd (ix v1 8) <|
   letv (stm u5 76 (ixn v1) v3) fun (u7 : Mm) =>
   letv (stm u7 74 40 0) fun (u9 : Mm) =>
   some (v5_4, u9))
def gX11_wind_36 (v1 : Int32) (v2 : Int32) (v3 : Int32) (u : Mm) : Option (Int32 × Mm) :=
  gX11_wind_59 v1 v2 v3 (-4) u
def gX11_wind_55 (v1 : Int32) (v2 : Int32) (v3 : Int32) (u : Mm) : Option (Int32 × Mm) :=
  gX11_wind_59 v1 v2 v3 (-6) u
def gX11_wind_b (v1 : Int32) (v2 : Int32) (v3 : Int32) (u : Mm) : Option (Int32 × Mm) :=
  letv (stm u 74 19 0) fun (u1 : Mm) =>
  (gX11_in v1.toInt64 0 7).bind fun (r2 : Int32) =>
  if r2 = 0 then
  (gX11_wind_59 v1 v2 v3 (-1) u1)
  else
  (if v2 < (-9) then
   (gX11_wind_36 v1 v2 v3 u1)
   else
   (if v3 < 0 then
    (gX11_wind_36 v1 v2 v3 u1)
    else
    (if 9 < v2 then
     (gX11_wind_55 v1 v2 v3 u1)
     else
     (if 9 < v3 then
      (gX11_wind_55 v1 v2 v3 u1)
      else
      (gX11_wind_59 v1 v2 v3 0 u1)))))
def gX11_wind (v1 : Int32) (v2 : Int32) (v3 : Int32) (u : Mm) : Option (Int32 × Mm) := gX11_wind_b v1 v2 v3 u
-- X11_field: field (II)I, depth 2
def gX11_field_40 (s0 : Int32) (u : Mm) : Option (Int32 × Mm) :=
  bI (gX11_refuse s0 u) fun (r2 : Int32) (u1 : Mm) =>
  some (r2, u1)
def gX11_field_25 (v1 : Int32) (u : Mm) : Option (Int32 × Mm) :=
  (gX11_isField v1 u).bind fun (r1 : Int32) =>
  if r1 = 0 then
  (gX11_field_40 (-1) u)
  else
  (gX11_field_40 (-2) u)
def gX11_field_b (v1 : Int32) (v2 : Int32) (u : Mm) : Option (Int32 × Mm) :=
  letv (stm u 74 19 0) fun (u1 : Mm) =>
  (gX11_isField v1 u1).bind fun (r2 : Int32) =>
  if r2 = 0 then
  (gX11_field_25 v1 u1)
  else
  ((gX11_in v2.toInt64 0 4).bind fun (r4 : Int32) =>
   if r4 = 0 then
   (gX11_field_25 v1 u1)
   else
   (if v2 = 0 then
    (gd (ix v1 8) <|
     some (u1 78 (ixn v1), u1))
    else if v2 = 1 then
    (gd (ix v1 8) <|
     some (u1 79 (ixn v1), u1))
    else if v2 = 2 then
    (gd (ix v1 8) <|
     some (u1 80 (ixn v1), u1))
    else if v2 = 3 then
    (gd (ix v1 8) <|
     some (u1 81 (ixn v1), u1))
    else 
    (gd (ix v1 8) <|
     some (u1 82 (ixn v1), u1))))
def gX11_field (v1 : Int32) (v2 : Int32) (u : Mm) : Option (Int32 × Mm) := gX11_field_b v1 v2 u
-- X11_cost: cost (II)I, depth 3
def gX11_cost_24 (v1 : Int32) (v2 : Int32) (s0 : Int32) (u : Mm) : Option (Int32 × Mm) :=
  if s0 < 0 then
  (bI (gX11_refuse s0 u) fun (r4 : Int32) (u3 : Mm) =>
   some (r4, u3))
  else
  ((gX11_costOf v1 v2 u).bind fun (r2 : Int32) =>
   some (r2, u))
def gX11_cost_b (v1 : Int32) (v2 : Int32) (u : Mm) : Option (Int32 × Mm) :=
  letv (stm u 74 19 0) fun (u1 : Mm) =>
  (gX11_isField v1 u1).bind fun (r2 : Int32) =>
  if r2 = 0 then
  (gX11_cost_24 v1 v2 (-1) u1)
  else
  ((gX11_wrongNumber v2 0 20).bind fun (r4 : Int32) =>
   gX11_cost_24 v1 v2 r4 u1)
def gX11_cost (v1 : Int32) (v2 : Int32) (u : Mm) : Option (Int32 × Mm) := gX11_cost_b v1 v2 u
-- X11_drag: drag (I)I, depth 2
def gX11_drag_b (v1 : Int32) (u : Mm) : Option (Int32 × Mm) :=
  letv (stm u 74 19 0) fun (u1 : Mm) =>
  (gX11_wrongNumber v1 0 20).bind fun (r2 : Int32) =>
  if r2 < 0 then
  ((gX11_wrongNumber v1 0 20).bind fun (r5 : Int32) =>
   bI (gX11_refuse r5 u1) fun (r7 : Int32) (u6 : Mm) =>
   some (r7, u6))
  else
  ((gX11_dragOf v1 u1).bind fun (r4 : Int32) =>
   some (r4, u1))
def gX11_drag (v1 : Int32) (u : Mm) : Option (Int32 × Mm) := gX11_drag_b v1 u
-- X11_settingOf: settingOf (I)I, depth 0
def gX11_settingOf_b (v1 : Int32) (u : Mm) : Option Int32 :=
  if v1 = 0 then
  (some (u 74 2))
  else if v1 = 1 then
  (some (u 74 5))
  else if v1 = 2 then
  (some (u 74 6))
  else if v1 = 3 then
  (some (u 74 7))
  else 
  (some (u 74 8))
def gX11_settingOf (v1 : Int32) (u : Mm) : Option Int32 := gX11_settingOf_b v1 u
-- X11_set: set (II)I, depth 2
def gX11_set_166 (v5 : Int32) (u : Mm) : Option (Int32 × Mm) :=
  letv (stm u 74 40 0) fun (u1 : Mm) =>
  some (v5, u1)
def gX11_set_153 (v1 : Int32) (v2 : Int32) (v5 : Int32) (s0 : Int32) (u : Mm) : Option (Int32 × Mm) :=
  letv (stm u 74 7 s0) fun (u1 : Mm) =>
  if v1 = 4 then
  ((gX11_lagBecomes v2 u1).bind fun (u3 : Mm) =>
   gX11_set_166 v5 u3)
  else
  (gX11_set_166 v5 u1)
def gX11_set_136 (v1 : Int32) (v2 : Int32) (v5 : Int32) (s0 : Int32) (u : Mm) : Option (Int32 × Mm) :=
  letv (stm u 74 6 s0) fun (u1 : Mm) =>
  if v1 = 3 then
  (gX11_set_153 v1 v2 v5 v2 u1)
  else
  (gX11_set_153 v1 v2 v5 (u1 74 7) u1)
def gX11_set_119 (v1 : Int32) (v2 : Int32) (v5 : Int32) (s0 : Int32) (u : Mm) : Option (Int32 × Mm) :=
  letv (stm u 74 5 s0) fun (u1 : Mm) =>
  if v1 = 2 then
  (gX11_set_136 v1 v2 v5 v2 u1)
  else
  (gX11_set_136 v1 v2 v5 (u1 74 6) u1)
def gX11_set_102 (v1 : Int32) (v2 : Int32) (v5 : Int32) (s0 : Int32) (u : Mm) : Option (Int32 × Mm) :=
  letv (stm u 74 2 s0) fun (u1 : Mm) =>
  if v1 = 1 then
  (gX11_set_119 v1 v2 v5 v2 u1)
  else
  (gX11_set_119 v1 v2 v5 (u1 74 5) u1)
def gX11_set_68 (v1 : Int32) (v2 : Int32) (s0 : Int32) (u : Mm) : Option (Int32 × Mm) :=
  if s0 < 0 then
  (bI (gX11_refuse s0 u) fun (r5 : Int32) (u4 : Mm) =>
   some (r5, u4))
  else
  ((gX11_settingOf v1 u).bind fun (r2 : Int32) =>
   if v1 = 0 then
   (gX11_set_102 v1 v2 r2 v2 u)
   else
   (gX11_set_102 v1 v2 r2 (u 74 2) u))
def gX11_set_59 (v1 : Int32) (v2 : Int32) (v3 : Int32) (s0 : Int32) (s1 : Int32) (u : Mm) : Option (Int32 × Mm) :=
  (gX11_wrongNumber s1 s0 v3).bind fun (r1 : Int32) =>
  gX11_set_68 v1 v2 r1 u
def gX11_set_35 (v1 : Int32) (v2 : Int32) (s0 : Int32) (u : Mm) : Option (Int32 × Mm) :=
  (gX11_in v1.toInt64 0 4).bind fun (r1 : Int32) =>
  if r1 = 0 then
  (gX11_set_68 v1 v2 (-2) u)
  else
  (if v1 = 3 then
   (gX11_set_59 v1 v2 s0 1 v2 u)
   else
   (gX11_set_59 v1 v2 s0 0 v2 u))
def gX11_set_b (v1 : Int32) (v2 : Int32) (u : Mm) : Option (Int32 × Mm) :=
  letv (stm u 74 19 0) fun (u1 : Mm) =>
  if v1 = 0 then
  (gX11_set_35 v1 v2 39 u1)
  else
  (if v1 = 3 then
   (gX11_set_35 v1 v2 6 u1)
   else
   (if v1 = 4 then
    (gX11_set_35 v1 v2 5 u1)
    else
    (gX11_set_35 v1 v2 60 u1)))
def gX11_set (v1 : Int32) (v2 : Int32) (u : Mm) : Option (Int32 × Mm) := gX11_set_b v1 v2 u
-- X11_rising: rising ()I, depth 2
def gX11_rising_b (u : Mm) : Option (Int32 × Mm) :=
  letv (stm u 74 19 0) fun (u1 : Mm) =>
  (gX11_risingNow u1).bind fun (r2 : Int32) =>
  some (r2, u1)
def gX11_rising (u : Mm) : Option (Int32 × Mm) := gX11_rising_b u
-- X11_keepTurn: keepTurn ()V, depth 2
def gX11_keepTurn_73_Ls (j73 : Int32 → Mm → Option Mm) (v1 : Int32) (u : Mm) : Option Mm :=
  if v1 < 14 then
  (gd (ix v1 14) <|
   gd (ix ((14 * (u 74 40)) + v1) 112) <|
   letv (stm u 93 (ixn ((14 * (u 74 40)) + v1)) (u 94 (ixn v1))) fun (u4 : Mm) =>
   letv (v1 + 1) fun (v1_6 : Int32) =>
   j73 v1_6 u4)
  else
  (letv (stm u 74 40 ((u 74 40) + 1)) fun (u2 : Mm) =>
   some u2)
def gX11_keepTurn_73_L : Nat → Int32 → Mm → Option Mm
  | 0 => fun _ _ => none
  | n + 1 => gX11_keepTurn_73_Ls (gX11_keepTurn_73_L n)
def gX11_keepTurn_49 (u : Mm) : Option Mm :=
  letv (stm u 74 36 (nI 94)) fun (u1 : Mm) =>
  letv (stm u1 74 35 1) fun (u2 : Mm) =>
  letv (stm u2 74 34 0) fun (u3 : Mm) =>
  (gX11_carryFlight u3).bind fun (u4 : Mm) =>
  gX11_keepTurn_73_L FU 0 u4
def gX11_keepTurn_12_Ls (j12 : Int32 → Mm → Option Mm) (v1 : Int32) (u : Mm) : Option Mm :=
  if v1 < 112 then
  (gd (ix v1 112) <|
   gd (ix (v1 - 14) 112) <|
   letv (stm u 93 (ixn (v1 - 14)) (u 93 (ixn v1))) fun (u4 : Mm) =>
   letv (v1 + 1) fun (v1_6 : Int32) =>
   j12 v1_6 u4)
  else
  (letv (stm u 74 40 ((u 74 40) - 1)) fun (u2 : Mm) =>
   gX11_keepTurn_49 u2)
def gX11_keepTurn_12_L : Nat → Int32 → Mm → Option Mm
  | 0 => fun _ _ => none
  | n + 1 => gX11_keepTurn_12_Ls (gX11_keepTurn_12_L n)
def gX11_keepTurn_b (u : Mm) : Option Mm :=
  if (u 74 40) = 8 then
  (gX11_keepTurn_12_L FU 14 u)
  else
  (gX11_keepTurn_49 u)
def gX11_keepTurn (u : Mm) : Option Mm := gX11_keepTurn_b u
-- X11_go: go (I)I, depth 3
def gX11_go_55 (v1 : Int32) (s0 : Int32) (u : Mm) : Option (Int32 × Mm) :=
  if s0 < 0 then
  (bI (gX11_refuse s0 u) fun (r5 : Int32) (u4 : Mm) =>
   some (r5, u4))
  else
  ((gX11_keepTurn u).bind fun (u2 : Mm) =>
   (gX11_stepOn v1 u2).bind fun (u3 : Mm) =>
   some (u3 74 2, u3))
def gX11_go_39 (v1 : Int32) (u : Mm) : Option (Int32 × Mm) :=
  if (u 74 9) = 999 then
  (gX11_go_55 v1 (-6) u)
  else
  (gX11_go_55 v1 0 u)
def gX11_go_b (v1 : Int32) (u : Mm) : Option (Int32 × Mm) :=
  letv (stm u 74 19 0) fun (u1 : Mm) =>
  (gX11_in v1.toInt64 0 2).bind fun (r2 : Int32) =>
  if r2 = 0 then
  (gX11_go_55 v1 (-2) u1)
  else
  (if v1 = 1 then
   (if (u1 74 6) = 0 then
    (gX11_go_55 v1 (-3) u1)
    else
    (gX11_go_39 v1 u1))
   else
   (gX11_go_39 v1 u1))
def gX11_go (v1 : Int32) (u : Mm) : Option (Int32 × Mm) := gX11_go_b v1 u
-- X11_back: back ()I, depth 2
def gX11_back_31_Ls (j31 : Int32 → Mm → Option (Int32 × Mm)) (v1 : Int32) (u : Mm) : Option (Int32 × Mm) :=
  if v1 < 14 then
  (gd (ix ((14 * (u 74 40)) + v1) 112) <|
   gd (ix v1 14) <|
   letv (stm u 94 (ixn v1) (u 93 (ixn ((14 * (u 74 40)) + v1)))) fun (u7 : Mm) =>
   letv (v1 + 1) fun (v1_9 : Int32) =>
   j31 v1_9 u7)
  else
  (letv (stm u 74 36 (nI 94)) fun (u2 : Mm) =>
   letv (stm u2 74 35 0) fun (u3 : Mm) =>
   letv (stm u3 74 34 0) fun (u4 : Mm) =>
   (gX11_carryFlight u4).bind fun (u5 : Mm) =>
   some (u5 74 9, u5))
def gX11_back_31_L : Nat → Int32 → Mm → Option (Int32 × Mm)
  | 0 => fun _ _ => none
  | n + 1 => gX11_back_31_Ls (gX11_back_31_L n)
def gX11_back_b (u : Mm) : Option (Int32 × Mm) :=
  letv (stm u 74 19 0) fun (u1 : Mm) =>
  if (u1 74 40) = 0 then
  (bI (gX11_refuse (-3) u1) fun (r5 : Int32) (u4 : Mm) =>
   some (r5, u4))
  else
  (letv (stm u1 74 40 ((u1 74 40) - 1)) fun (u3 : Mm) =>
   gX11_back_31_L FU 0 u3)
def gX11_back (u : Mm) : Option (Int32 × Mm) := gX11_back_b u
-- X11_planOn: planOn (II)V, depth 4
def gX11_planOn_52 (j11 : Int32 → Mm → Option Mm) (v1 : Int32) (v2 : Int32) (v3 : Int32) (u : Mm) : Option Mm :=
  letv (v3 + 1) fun (v3_1 : Int32) =>
  letv (stm u 74 42 (u 74 21)) fun (u2 : Mm) =>
  j11 v3_1 u2
def gX11_planOn_49 (j11 : Int32 → Mm → Option Mm) (v1 : Int32) (v2 : Int32) (v3 : Int32) (s0 : Int32) (u : Mm) : Option Mm :=
  (gX11_stepOn s0 u).bind fun (u1 : Mm) =>
  gX11_planOn_52 j11 v1 v2 v3 u1
def gX11_planOn_79 (v3 : Int32) (s0 : Int32) (u : Mm) : Option Mm :=
  gd (s0 = 0 ∨ s0 = 1) <|
  letv (stm u 74 41 s0) fun (u1 : Mm) =>
  letv (stm u1 74 43 v3) fun (u3 : Mm) =>
  some u3
def gX11_planOn_66 (v3 : Int32) (u : Mm) : Option Mm :=
  if (u 74 2) = 0 then
  (gX11_planOn_79 v3 1 u)
  else
  (gX11_planOn_79 v3 0 u)
def gX11_planOn_11_Ls (v1 : Int32) (v2 : Int32) (j11 : Int32 → Mm → Option Mm) (v3 : Int32) (u : Mm) : Option Mm :=
  if 0 < (u 74 2) then
  (if v3 < 60 then
   (if v3 < v1 then
    ((gX11_holdOn u).bind fun (u5 : Mm) =>
     gX11_planOn_52 j11 v1 v2 v3 u5)
    else
    (if v3 < (v1 + v2) then
     (gX11_planOn_49 j11 v1 v2 v3 2 u)
     else
     (gX11_planOn_49 j11 v1 v2 v3 0 u)))
   else
   (gX11_planOn_66 v3 u))
  else
  (gX11_planOn_66 v3 u)
def gX11_planOn_11_L (v1 : Int32) (v2 : Int32) : Nat → Int32 → Mm → Option Mm
  | 0 => fun _ _ => none
  | n + 1 => gX11_planOn_11_Ls v1 v2 (gX11_planOn_11_L v1 v2 n)
def gX11_planOn_b (v1 : Int32) (v2 : Int32) (u : Mm) : Option Mm :=
  (gX11_again u).bind fun (u1 : Mm) =>
  letv (stm u1 74 42 0) fun (u2 : Mm) =>
  gX11_planOn_11_L v1 v2 FU 0 u2
def gX11_planOn (v1 : Int32) (v2 : Int32) (u : Mm) : Option Mm := gX11_planOn_b v1 v2 u
-- X11_planTold: planTold (I)I, depth 3
def gX11_planTold_b (v1 : Int32) (u : Mm) : Option Int32 :=
  if (u 74 41) = 0 then
  (some (-9))
  else
  (if v1 = 0 then
   (some (u 74 3))
   else if v1 = 1 then
   (some (u 74 4))
   else if v1 = 2 then
   (some (u 74 42))
   else if v1 = 3 then
   (some (u 74 43))
   else if v1 = 4 then
   ((gX11_fieldAt u).bind fun (r7 : Int32) =>
    some r7)
   else 
   ((gX11_fieldAt u).bind fun (r8 : Int32) =>
    (gX11_costOf r8 (u 74 42) u).bind fun (r9 : Int32) =>
    some r9))
def gX11_planTold (v1 : Int32) (u : Mm) : Option Int32 := gX11_planTold_b v1 u
-- X11_plan: plan (III)I, depth 5
def gX11_plan_40 (v1 : Int32) (v2 : Int32) (v3 : Int32) (s0 : Int32) (u : Mm) : Option (Int32 × Mm) :=
  if s0 < 0 then
  (bI (gX11_refuse s0 u) fun (r7 : Int32) (u6 : Mm) =>
   some (r7, u6))
  else
  ((gX11_open u).bind fun (u2 : Mm) =>
   (gX11_planOn v1 v2 u2).bind fun (u3 : Mm) =>
   (gX11_planTold v3 u3).bind fun (r4 : Int32) =>
   (gX11_again u3).bind fun (u5 : Mm) =>
   some (r4, u5))
def gX11_plan_13 (v1 : Int32) (v2 : Int32) (v3 : Int32) (u : Mm) : Option (Int32 × Mm) :=
  gX11_plan_40 v1 v2 v3 (-4) u
def gX11_plan_29 (v1 : Int32) (v2 : Int32) (v3 : Int32) (u : Mm) : Option (Int32 × Mm) :=
  gX11_plan_40 v1 v2 v3 (-6) u
def gX11_plan_b (v1 : Int32) (v2 : Int32) (v3 : Int32) (u : Mm) : Option (Int32 × Mm) :=
  letv (stm u 74 19 0) fun (u1 : Mm) =>
  if v1 < 0 then
  (gX11_plan_13 v1 v2 v3 u1)
  else
  (if v2 < 0 then
   (gX11_plan_13 v1 v2 v3 u1)
   else
   (if 30 < v1 then
    (gX11_plan_29 v1 v2 v3 u1)
    else
    (if 5 < v2 then
     (gX11_plan_29 v1 v2 v3 u1)
     else
     ((gX11_wrongBit 0 v3 5).bind fun (r6 : Int32) =>
      gX11_plan_40 v1 v2 v3 r6 u1))))
def gX11_plan (v1 : Int32) (v2 : Int32) (v3 : Int32) (u : Mm) : Option (Int32 × Mm) := gX11_plan_b v1 v2 v3 u
-- X11_seekPlans: seekPlans (I)V, depth 5
def gX11_seekPlans_144 (j21 : Int32 → Int32 → Mm → Option Mm) (v1 : Int32) (v3 : Int32) (s0 : Int32) (u : Mm) : Option Mm :=
  letv (v3 + 1) fun (v3_1 : Int32) =>
  j21 s0 v3_1 u
def gX11_seekPlans_128 (j21 : Int32 → Int32 → Mm → Option Mm) (v1 : Int32) (v2 : Int32) (v3 : Int32) (v4 : Int32) (s0 : Int32) (u : Mm) : Option Mm :=
  letv (stm u 74 46 s0) fun (u1 : Mm) =>
  if v4 = 0 then
  (gX11_seekPlans_144 j21 v1 v3 v2 u1)
  else
  (gX11_seekPlans_144 j21 v1 v3 (u1 74 42) u1)
def gX11_seekPlans_112 (j21 : Int32 → Int32 → Mm → Option Mm) (v1 : Int32) (v2 : Int32) (v3 : Int32) (s0 : Int32) (u : Mm) : Option Mm :=
  if s0 = 0 then
  (gX11_seekPlans_128 j21 v1 v2 v3 s0 (u 74 46) u)
  else
  (gX11_seekPlans_128 j21 v1 v2 v3 s0 v3 u)
def gX11_seekPlans_107 (j21 : Int32 → Int32 → Mm → Option Mm) (v1 : Int32) (v2 : Int32) (v3 : Int32) (u : Mm) : Option Mm :=
  gX11_seekPlans_112 j21 v1 v2 v3 1 u
def gX11_seekPlans_89 (j21 : Int32 → Int32 → Mm → Option Mm) (v1 : Int32) (v2 : Int32) (v3 : Int32) (s0 : Int32) (u : Mm) : Option Mm :=
  letv (stm u 74 45 s0) fun (u1 : Mm) =>
  if (u1 74 46) < 0 then
  (gX11_seekPlans_107 j21 v1 v2 v3 u1)
  else
  (if (u1 74 42) < v2 then
   (gX11_seekPlans_107 j21 v1 v2 v3 u1)
   else
   (gX11_seekPlans_112 j21 v1 v2 v3 0 u1))
def gX11_seekPlans_21_Ls (v1 : Int32) (j21 : Int32 → Int32 → Mm → Option Mm) (v2 : Int32) (v3 : Int32) (u : Mm) : Option Mm :=
  if 305 < v3 then
  ((gX11_again u).bind fun (u2 : Mm) =>
   some u2)
  else
  (if 5 < (irm v3 10) then
   (letv (v3 + 1) fun (v3_4 : Int32) =>
    j21 v2 v3_4 u)
   else
   ((gX11_planOn (v3 / 10) (irm v3 10) u).bind fun (u5 : Mm) =>
    if (u5 74 41) = 0 then
    (letv (v3 + 1) fun (v3_7 : Int32) =>
     j21 v2 v3_7 u5)
    else
    ((gX11_fieldAt u5).bind fun (r8 : Int32) =>
     if r8 = v1 then
     (letv (stm u5 74 44 ((u5 74 44) + 1)) fun (u11 : Mm) =>
      if (u11 74 45) < 0 then
      (gX11_seekPlans_89 j21 v1 v2 v3 v3 u11)
      else
      (gX11_seekPlans_89 j21 v1 v2 v3 (u11 74 45) u11))
     else
     (letv (v3 + 1) fun (v3_10 : Int32) =>
      j21 v2 v3_10 u5))))
def gX11_seekPlans_21_L (v1 : Int32) : Nat → Int32 → Int32 → Mm → Option Mm
  | 0 => fun _ _ _ => none
  | n + 1 => gX11_seekPlans_21_Ls v1 (gX11_seekPlans_21_L v1 n)
def gX11_seekPlans_b (v1 : Int32) (u : Mm) : Option Mm :=
  letv (stm u 74 44 0) fun (u1 : Mm) =>
  letv (stm u1 74 45 (-9)) fun (u2 : Mm) =>
  letv (stm u2 74 46 (-9)) fun (u3 : Mm) =>
  gX11_seekPlans_21_L v1 FU 0 0 u3
def gX11_seekPlans (v1 : Int32) (u : Mm) : Option Mm := gX11_seekPlans_b v1 u
-- X11_had: had (II)I, depth 6
def gX11_had_40 (s0 : Int32) (u : Mm) : Option (Int32 × Mm) :=
  bI (gX11_refuse s0 u) fun (r2 : Int32) (u1 : Mm) =>
  some (r2, u1)
def gX11_had_25 (v1 : Int32) (u : Mm) : Option (Int32 × Mm) :=
  (gX11_isField v1 u).bind fun (r1 : Int32) =>
  if r1 = 0 then
  (gX11_had_40 (-1) u)
  else
  (gX11_had_40 (-2) u)
def gX11_had_b (v1 : Int32) (v2 : Int32) (u : Mm) : Option (Int32 × Mm) :=
  letv (stm u 74 19 0) fun (u1 : Mm) =>
  (gX11_isField v1 u1).bind fun (r2 : Int32) =>
  if r2 = 0 then
  (gX11_had_25 v1 u1)
  else
  ((gX11_in v2.toInt64 0 2).bind fun (r4 : Int32) =>
   if r4 = 0 then
   (gX11_had_25 v1 u1)
   else
   ((gX11_open u1).bind fun (u6 : Mm) =>
    (gX11_seekPlans v1 u6).bind fun (u7 : Mm) =>
    if v2 = 0 then
    (some (u7 74 44, u7))
    else
    (if v2 = 1 then
     (some (u7 74 45, u7))
     else
     (some (u7 74 46, u7)))))
def gX11_had (v1 : Int32) (v2 : Int32) (u : Mm) : Option (Int32 × Mm) := gX11_had_b v1 v2 u
-- X11_seekBest: seekBest ()V, depth 5
def gX11_seekBest_148 (j19 : Int32 → Mm → Option Mm) (v1 : Int32) (s0 : Int32) (u : Mm) : Option Mm :=
  letv (stm u 74 48 s0) fun (u1 : Mm) =>
  letv (v1 + 1) fun (v1_2 : Int32) =>
  j19 v1_2 u1
def gX11_seekBest_131 (j19 : Int32 → Mm → Option Mm) (v1 : Int32) (v3 : Int32) (v4 : Int32) (s0 : Int32) (u : Mm) : Option Mm :=
  letv (stm u 74 47 s0) fun (u1 : Mm) =>
  if v4 = 0 then
  (gX11_seekBest_148 j19 v1 (u1 74 48) u1)
  else
  (gX11_seekBest_148 j19 v1 v3 u1)
def gX11_seekBest_115 (j19 : Int32 → Mm → Option Mm) (v1 : Int32) (v3 : Int32) (s0 : Int32) (u : Mm) : Option Mm :=
  if s0 = 0 then
  (gX11_seekBest_131 j19 v1 v3 s0 (u 74 47) u)
  else
  (gX11_seekBest_131 j19 v1 v3 s0 v1 u)
def gX11_seekBest_110 (j19 : Int32 → Mm → Option Mm) (v1 : Int32) (v3 : Int32) (u : Mm) : Option Mm :=
  gX11_seekBest_115 j19 v1 v3 1 u
def gX11_seekBest_114 (j19 : Int32 → Mm → Option Mm) (v1 : Int32) (v3 : Int32) (u : Mm) : Option Mm :=
  gX11_seekBest_115 j19 v1 v3 0 u
def gX11_seekBest_74 (j19 : Int32 → Mm → Option Mm) (v1 : Int32) (v2 : Int32) (s0 : Int32) (s1 : Int32) (u : Mm) : Option Mm :=
  letv (stm u 74 49 (s1 ||| s0)) fun (u1 : Mm) =>
  (gX11_costOf v2 (u1 74 42) u1).bind fun (r2 : Int32) =>
  if (u1 74 41) = 0 then
  (gX11_seekBest_114 j19 v1 r2 u1)
  else
  (if (u1 74 47) < 0 then
   (gX11_seekBest_110 j19 v1 r2 u1)
   else
   (if r2 < (u1 74 48) then
    (gX11_seekBest_110 j19 v1 r2 u1)
    else
    (gX11_seekBest_114 j19 v1 r2 u1)))
def gX11_seekBest_73 (j19 : Int32 → Mm → Option Mm) (v1 : Int32) (v2 : Int32) (s0 : Int32) (u : Mm) : Option Mm :=
  gX11_seekBest_74 j19 v1 v2 0 s0 u
def gX11_seekBest_19_Ls (j19 : Int32 → Mm → Option Mm) (v1 : Int32) (u : Mm) : Option Mm :=
  if 305 < v1 then
  ((gX11_again u).bind fun (u2 : Mm) =>
   some u2)
  else
  (if 5 < (irm v1 10) then
   (letv (v1 + 1) fun (v1_4 : Int32) =>
    j19 v1_4 u)
   else
   ((gX11_planOn (v1 / 10) (irm v1 10) u).bind fun (u5 : Mm) =>
    (gX11_fieldAt u5).bind fun (r6 : Int32) =>
    if (u5 74 41) = 0 then
    (gX11_seekBest_73 j19 v1 r6 (u5 74 49) u5)
    else
    (if r6 < 0 then
     (gX11_seekBest_73 j19 v1 r6 (u5 74 49) u5)
     else
     (gX11_seekBest_74 j19 v1 r6 (shl 1 r6) (u5 74 49) u5))))
def gX11_seekBest_19_L : Nat → Int32 → Mm → Option Mm
  | 0 => fun _ _ => none
  | n + 1 => gX11_seekBest_19_Ls (gX11_seekBest_19_L n)
def gX11_seekBest_b (u : Mm) : Option Mm :=
  letv (stm u 74 47 (-9)) fun (u1 : Mm) =>
  letv (stm u1 74 48 (-9)) fun (u2 : Mm) =>
  letv (stm u2 74 49 0) fun (u3 : Mm) =>
  gX11_seekBest_19_L FU 0 u3
def gX11_seekBest (u : Mm) : Option Mm := gX11_seekBest_b u
-- X11_best: best (I)I, depth 6
def gX11_best_b (v1 : Int32) (u : Mm) : Option (Int32 × Mm) :=
  letv (stm u 74 19 0) fun (u1 : Mm) =>
  (gX11_in v1.toInt64 0 1).bind fun (r2 : Int32) =>
  if r2 = 0 then
  (bI (gX11_refuse (-2) u1) fun (r8 : Int32) (u7 : Mm) =>
   some (r8, u7))
  else
  ((gX11_open u1).bind fun (u4 : Mm) =>
   (gX11_seekBest u4).bind fun (u5 : Mm) =>
   if v1 = 0 then
   (some (u5 74 47, u5))
   else
   (some (u5 74 48, u5)))
def gX11_best (v1 : Int32) (u : Mm) : Option (Int32 × Mm) := gX11_best_b v1 u
-- X11_left: left ()I, depth 6
def gX11_left_b (u : Mm) : Option (Int32 × Mm) :=
  letv (stm u 74 19 0) fun (u1 : Mm) =>
  (gX11_open u1).bind fun (u2 : Mm) =>
  (gX11_seekBest u2).bind fun (u3 : Mm) =>
  some (u3 74 49, u3)
def gX11_left (u : Mm) : Option (Int32 × Mm) := gX11_left_b u
-- X11_keep: keep (I)I, depth 6
def gX11_keep_70 (j30 : Int32 → Int32 → Mm → Option (Int32 × Mm)) (v1 : Int32) (v2 : Int32) (v4 : Int32) (s0 : Int32) (u : Mm) : Option (Int32 × Mm) :=
  letv (v4 + 1) fun (v4_1 : Int32) =>
  j30 s0 v4_1 u
def gX11_keep_77 (v2 : Int32) (v3 : Int32) (u : Mm) : Option (Int32 × Mm) :=
  letv (stm u 74 6 v2) fun (u1 : Mm) =>
  some (v3, u1)
def gX11_keep_30_Ls (v1 : Int32) (v2 : Int32) (j30 : Int32 → Int32 → Mm → Option (Int32 × Mm)) (v3 : Int32) (v4 : Int32) (u : Mm) : Option (Int32 × Mm) :=
  if 60 < v4 then
  (gX11_keep_77 v2 v3 u)
  else
  (if v3 < 0 then
   (letv (stm u 74 6 v4) fun (u3 : Mm) =>
    (gX11_open u3).bind fun (u4 : Mm) =>
    (gX11_seekPlans v1 u4).bind fun (u5 : Mm) =>
    if 0 < (u5 74 44) then
    (gX11_keep_70 j30 v1 v2 v4 v4 u5)
    else
    (gX11_keep_70 j30 v1 v2 v4 (-9) u5))
   else
   (gX11_keep_77 v2 v3 u))
def gX11_keep_30_L (v1 : Int32) (v2 : Int32) : Nat → Int32 → Int32 → Mm → Option (Int32 × Mm)
  | 0 => fun _ _ _ => none
  | n + 1 => gX11_keep_30_Ls v1 v2 (gX11_keep_30_L v1 v2 n)
def gX11_keep_b (v1 : Int32) (u : Mm) : Option (Int32 × Mm) :=
  letv (stm u 74 19 0) fun (u1 : Mm) =>
  (gX11_isField v1 u1).bind fun (r2 : Int32) =>
  if r2 = 0 then
  (bI (gX11_refuse (-1) u1) fun (r6 : Int32) (u5 : Mm) =>
   some (r6, u5))
  else
  (letv (u1 74 6) fun (v2_4 : Int32) =>
   gX11_keep_30_L v1 v2_4 FU (-9) 0 u1)
def gX11_keep (v1 : Int32) (u : Mm) : Option (Int32 × Mm) := gX11_keep_b v1 u
-- X11_goingOn: goingOn (I)I, depth 6
def gX11_goingOn_128_Ls (v2 : Int32) (v3 : Int32) (j128 : Int32 → Mm → Option (Int32 × Mm)) (v4 : Int32) (u : Mm) : Option (Int32 × Mm) :=
  if v4 < 14 then
  (gd (ix v4 14) <|
   gd (ix v4 14) <|
   letv (stm u 92 (ixn v4) (u 95 (ixn v4))) fun (u4 : Mm) =>
   letv (v4 + 1) fun (v4_6 : Int32) =>
   j128 v4_6 u4)
  else
  ((gX11_again u).bind fun (u2 : Mm) =>
   some (v3 - v2, u2))
def gX11_goingOn_128_L (v2 : Int32) (v3 : Int32) : Nat → Int32 → Mm → Option (Int32 × Mm)
  | 0 => fun _ _ => none
  | n + 1 => gX11_goingOn_128_Ls v2 v3 (gX11_goingOn_128_L v2 v3 n)
def gX11_goingOn_124 (v2 : Int32) (s0 : Int32) (u : Mm) : Option (Int32 × Mm) :=
  gX11_goingOn_128_L v2 s0 FU 0 u
def gX11_goingOn_84_Ls (v1 : Int32) (v2 : Int32) (j84 : Int32 → Mm → Option (Int32 × Mm)) (v3 : Int32) (u : Mm) : Option (Int32 × Mm) :=
  if v3 < v1 then
  ((gX11_holdOn u).bind fun (u5 : Mm) =>
   letv (v3 + 1) fun (v3_6 : Int32) =>
   j84 v3_6 u5)
  else
  ((gX11_open u).bind fun (u2 : Mm) =>
   (gX11_seekBest u2).bind fun (u3 : Mm) =>
   if (u3 74 48) < 0 then
   (gX11_goingOn_124 v2 1000 u3)
   else
   (gX11_goingOn_124 v2 (u3 74 48) u3))
def gX11_goingOn_84_L (v1 : Int32) (v2 : Int32) : Nat → Int32 → Mm → Option (Int32 × Mm)
  | 0 => fun _ _ => none
  | n + 1 => gX11_goingOn_84_Ls v1 v2 (gX11_goingOn_84_L v1 v2 n)
def gX11_goingOn_81 (v1 : Int32) (s0 : Int32) (u : Mm) : Option (Int32 × Mm) :=
  gX11_goingOn_84_L v1 s0 FU 0 u
def gX11_goingOn_36_Ls (v1 : Int32) (j36 : Int32 → Mm → Option (Int32 × Mm)) (v2 : Int32) (u : Mm) : Option (Int32 × Mm) :=
  if v2 < 14 then
  (gd (ix v2 14) <|
   gd (ix v2 14) <|
   letv (stm u 95 (ixn v2) (u 92 (ixn v2))) fun (u5 : Mm) =>
   letv (v2 + 1) fun (v2_7 : Int32) =>
   j36 v2_7 u5)
  else
  ((gX11_seekBest u).bind fun (u2 : Mm) =>
   if (u2 74 48) < 0 then
   (gX11_goingOn_81 v1 1000 u2)
   else
   (gX11_goingOn_81 v1 (u2 74 48) u2))
def gX11_goingOn_36_L (v1 : Int32) : Nat → Int32 → Mm → Option (Int32 × Mm)
  | 0 => fun _ _ => none
  | n + 1 => gX11_goingOn_36_Ls v1 (gX11_goingOn_36_L v1 n)
def gX11_goingOn_b (v1 : Int32) (u : Mm) : Option (Int32 × Mm) :=
  letv (stm u 74 19 0) fun (u1 : Mm) =>
  (gX11_wrongNumber v1 0 20).bind fun (r2 : Int32) =>
  if r2 < 0 then
  ((gX11_wrongNumber v1 0 20).bind fun (r5 : Int32) =>
   bI (gX11_refuse r5 u1) fun (r7 : Int32) (u6 : Mm) =>
   some (1000000000 - r7, u6))
  else
  ((gX11_open u1).bind fun (u4 : Mm) =>
   gX11_goingOn_36_L v1 FU 0 u4)
def gX11_goingOn (v1 : Int32) (u : Mm) : Option (Int32 × Mm) := gX11_goingOn_b v1 u
-- X11_blown: blown (I)I, depth 1
def gX11_blown_118 (j28 : Int32 → Int32 → Mm → Option (Int32 × Mm)) (v1 : Int32) (v3 : Int32) (s0 : Int32) (u : Mm) : Option (Int32 × Mm) :=
  letv (v3 + 1) fun (v3_1 : Int32) =>
  j28 s0 v3_1 u
def gX11_blown_104 (j28 : Int32 → Int32 → Mm → Option (Int32 × Mm)) (v1 : Int32) (v2 : Int32) (v3 : Int32) (v4 : Int32) (s0 : Int32) (u : Mm) : Option (Int32 × Mm) :=
  if s0 < v4 then
  (gX11_blown_118 j28 v1 v3 v3 u)
  else
  (gX11_blown_118 j28 v1 v3 v2 u)
def gX11_blown_68 (j28 : Int32 → Int32 → Mm → Option (Int32 × Mm)) (v1 : Int32) (v2 : Int32) (v3 : Int32) (s0 : Int32) (u : Mm) : Option (Int32 × Mm) :=
  if v1 = 0 then
  (gd (ix v2 8) <|
   gX11_blown_104 j28 v1 v2 v3 s0 (u 75 (ixn v2)) u)
  else
  (if v1 = 1 then
   (gd (ix v2 8) <|
    gX11_blown_104 j28 v1 v2 v3 s0 (-(u 75 (ixn v2))) u)
   else
   (gd (ix v2 8) <|
    gX11_blown_104 j28 v1 v2 v3 s0 (u 76 (ixn v2)) u))
def gX11_blown_28_Ls (v1 : Int32) (j28 : Int32 → Int32 → Mm → Option (Int32 × Mm)) (v2 : Int32) (v3 : Int32) (u : Mm) : Option (Int32 × Mm) :=
  if v3 < 8 then
  (if v1 = 0 then
   (gd (ix v3 8) <|
    gX11_blown_68 j28 v1 v2 v3 (u 75 (ixn v3)) u)
   else
   (if v1 = 1 then
    (gd (ix v3 8) <|
     gX11_blown_68 j28 v1 v2 v3 (-(u 75 (ixn v3))) u)
    else
    (gd (ix v3 8) <|
     gX11_blown_68 j28 v1 v2 v3 (u 76 (ixn v3)) u)))
  else
  (some (v2, u))
def gX11_blown_28_L (v1 : Int32) : Nat → Int32 → Int32 → Mm → Option (Int32 × Mm)
  | 0 => fun _ _ _ => none
  | n + 1 => gX11_blown_28_Ls v1 (gX11_blown_28_L v1 n)
def gX11_blown_b (v1 : Int32) (u : Mm) : Option (Int32 × Mm) :=
  letv (stm u 74 19 0) fun (u1 : Mm) =>
  (gX11_in v1.toInt64 0 2).bind fun (r2 : Int32) =>
  if r2 = 0 then
  (bI (gX11_refuse (-2) u1) fun (r5 : Int32) (u4 : Mm) =>
   some (r5, u4))
  else
  (gX11_blown_28_L v1 FU 0 1 u1)
def gX11_blown (v1 : Int32) (u : Mm) : Option (Int32 × Mm) := gX11_blown_b v1 u
-- X11_twoBy: twoBy (III)I, depth 0
def gX11_twoBy_61 (j3 : Int32 → Option Int32) (j13 : Int32 → Option Int32) (j23 : Int32 → Option Int32) (v1 : Int32) (v2 : Int32) (v3 : Int32) (v4 : Int32) (v5 : Int32) (v6 : Int32) (s0 : Int32) (u : Mm) : Option Int32 :=
  if s0 = 0 then
  (letv (v6 + 1) fun (v6_2 : Int32) =>
   j23 v6_2)
  else
  (gd (ix v4 8) <|
   gd (ix v5 8) <|
   if ((v6 * (u 76 (ixn v4))) + ((v3 - v6) * (u 76 (ixn v5)))) = v2 then
   (some (((10000 * v4) + (1000 * v5)) + v6))
   else
   (letv (v6 + 1) fun (v6_6 : Int32) =>
    j23 v6_6))
def gX11_twoBy_23_Ls (j3 : Int32 → Option Int32) (j13 : Int32 → Option Int32) (v1 : Int32) (v2 : Int32) (v3 : Int32) (v4 : Int32) (v5 : Int32) (u : Mm) (j23 : Int32 → Option Int32) (v6 : Int32) : Option Int32 :=
  if v3 < v6 then
  (letv (v5 + 1) fun (v5_2 : Int32) =>
   j13 v5_2)
  else
  (gd (ix v4 8) <|
   gd (ix v5 8) <|
   if ((v6 * (u 75 (ixn v4))) + ((v3 - v6) * (u 75 (ixn v5)))) = v1 then
   (gX11_twoBy_61 j3 j13 j23 v1 v2 v3 v4 v5 v6 1 u)
   else
   (gX11_twoBy_61 j3 j13 j23 v1 v2 v3 v4 v5 v6 0 u))
def gX11_twoBy_23_L (j3 : Int32 → Option Int32) (j13 : Int32 → Option Int32) (v1 : Int32) (v2 : Int32) (v3 : Int32) (v4 : Int32) (v5 : Int32) (u : Mm) : Nat → Int32 → Option Int32
  | 0 => fun _ => none
  | n + 1 => gX11_twoBy_23_Ls j3 j13 v1 v2 v3 v4 v5 u (gX11_twoBy_23_L j3 j13 v1 v2 v3 v4 v5 u n)
def gX11_twoBy_13_Ls (j3 : Int32 → Option Int32) (v1 : Int32) (v2 : Int32) (v3 : Int32) (v4 : Int32) (u : Mm) (j13 : Int32 → Option Int32) (v5 : Int32) : Option Int32 :=
  if v5 < 8 then
  (gX11_twoBy_23_L j3 j13 v1 v2 v3 v4 v5 u FU 0)
  else
  (letv (v4 + 1) fun (v4_2 : Int32) =>
   j3 v4_2)
def gX11_twoBy_13_L (j3 : Int32 → Option Int32) (v1 : Int32) (v2 : Int32) (v3 : Int32) (v4 : Int32) (u : Mm) : Nat → Int32 → Option Int32
  | 0 => fun _ => none
  | n + 1 => gX11_twoBy_13_Ls j3 v1 v2 v3 v4 u (gX11_twoBy_13_L j3 v1 v2 v3 v4 u n)
def gX11_twoBy_3_Ls (v1 : Int32) (v2 : Int32) (v3 : Int32) (u : Mm) (j3 : Int32 → Option Int32) (v4 : Int32) : Option Int32 :=
  if v4 < 8 then
  (gX11_twoBy_13_L j3 v1 v2 v3 v4 u FU 0)
  else
  (some (-9))
def gX11_twoBy_3_L (v1 : Int32) (v2 : Int32) (v3 : Int32) (u : Mm) : Nat → Int32 → Option Int32
  | 0 => fun _ => none
  | n + 1 => gX11_twoBy_3_Ls v1 v2 v3 u (gX11_twoBy_3_L v1 v2 v3 u n)
def gX11_twoBy_b (v1 : Int32) (v2 : Int32) (v3 : Int32) (u : Mm) : Option Int32 :=
  gX11_twoBy_3_L v1 v2 v3 u FU 0
def gX11_twoBy (v1 : Int32) (v2 : Int32) (v3 : Int32) (u : Mm) : Option Int32 := gX11_twoBy_b v1 v2 v3 u
-- X11_two: two (III)I, depth 2
def gX11_two_60_Ls (v1 : Int32) (v2 : Int32) (v3 : Int32) (j60 : Int32 → Mm → Option (Int32 × Mm)) (v5 : Int32) (u : Mm) : Option (Int32 × Mm) :=
  if 40 < v5 then
  (some ((-9), u))
  else
  ((gX11_twoBy v1 v2 v5 u).bind fun (r2 : Int32) =>
   if r2 < 0 then
   (letv (v5 + 1) fun (v5_4 : Int32) =>
    j60 v5_4 u)
   else
   (if v3 = 0 then
    (some (v5, u))
    else
    (some (r2, u))))
def gX11_two_60_L (v1 : Int32) (v2 : Int32) (v3 : Int32) : Nat → Int32 → Mm → Option (Int32 × Mm)
  | 0 => fun _ _ => none
  | n + 1 => gX11_two_60_Ls v1 v2 v3 (gX11_two_60_L v1 v2 v3 n)
def gX11_two_43 (v1 : Int32) (v2 : Int32) (v3 : Int32) (s0 : Int32) (u : Mm) : Option (Int32 × Mm) :=
  if s0 < 0 then
  (bI (gX11_refuse s0 u) fun (r3 : Int32) (u2 : Mm) =>
   some (r3, u2))
  else
  (gX11_two_60_L v1 v2 v3 FU 0 u)
def gX11_two_15 (v1 : Int32) (v2 : Int32) (v3 : Int32) (u : Mm) : Option (Int32 × Mm) :=
  gX11_two_43 v1 v2 v3 (-4) u
def gX11_two_32 (v1 : Int32) (v2 : Int32) (v3 : Int32) (u : Mm) : Option (Int32 × Mm) :=
  gX11_two_43 v1 v2 v3 (-6) u
def gX11_two_b (v1 : Int32) (v2 : Int32) (v3 : Int32) (u : Mm) : Option (Int32 × Mm) :=
  letv (stm u 74 19 0) fun (u1 : Mm) =>
  if v1 < (-99) then
  (gX11_two_15 v1 v2 v3 u1)
  else
  (if v2 < 0 then
   (gX11_two_15 v1 v2 v3 u1)
   else
   (if 99 < v1 then
    (gX11_two_32 v1 v2 v3 u1)
    else
    (if 99 < v2 then
     (gX11_two_32 v1 v2 v3 u1)
     else
     ((gX11_wrongBit 0 v3 1).bind fun (r6 : Int32) =>
      gX11_two_43 v1 v2 v3 r6 u1))))
def gX11_two (v1 : Int32) (v2 : Int32) (v3 : Int32) (u : Mm) : Option (Int32 × Mm) := gX11_two_b v1 v2 v3 u
-- X11_swingBy: swingBy (I)V, depth 3
def gX11_swingBy_137 (j21 : Int32 → Mm → Option Mm) (v1 : Int32) (v2 : Int32) (v3 : Int32) (s0 : Int32) (u : Mm) : Option Mm :=
  letv (stm u 74 52 s0) fun (u1 : Mm) =>
  letv (v3 + 1) fun (v3_2 : Int32) =>
  j21 v3_2 u1
def gX11_swingBy_133 (j21 : Int32 → Mm → Option Mm) (v1 : Int32) (v2 : Int32) (v3 : Int32) (u : Mm) : Option Mm :=
  gX11_swingBy_137 j21 v1 v2 v3 (u 74 52) u
def gX11_swingBy_109 (j21 : Int32 → Mm → Option Mm) (v1 : Int32) (v2 : Int32) (v3 : Int32) (v5 : Int32) (s0 : Int32) (u : Mm) : Option Mm :=
  letv (stm u 74 51 s0) fun (u1 : Mm) =>
  if v3 < 20 then
  (gX11_swingBy_133 j21 v1 v2 v3 u1)
  else
  (if (u1 74 52) < v5 then
   (gX11_swingBy_137 j21 v1 v2 v3 v5 u1)
   else
   (gX11_swingBy_133 j21 v1 v2 v3 u1))
def gX11_swingBy_105 (j21 : Int32 → Mm → Option Mm) (v1 : Int32) (v2 : Int32) (v3 : Int32) (v5 : Int32) (u : Mm) : Option Mm :=
  gX11_swingBy_109 j21 v1 v2 v3 v5 (u 74 51) u
def gX11_swingBy_70 (j21 : Int32 → Mm → Option Mm) (v1 : Int32) (v2 : Int32) (v3 : Int32) (s0 : Int32) (u : Mm) : Option Mm :=
  (gX11_stepOn s0 u).bind fun (u1 : Mm) =>
  (gX11_plainly ((u1 74 2) - v2)).bind fun (r2 : Int32) =>
  if v3 < 20 then
  (if (u1 74 51) < r2 then
   (gX11_swingBy_109 j21 v1 v2 v3 r2 r2 u1)
   else
   (gX11_swingBy_105 j21 v1 v2 v3 r2 u1))
  else
  (gX11_swingBy_105 j21 v1 v2 v3 r2 u1)
def gX11_swingBy_69 (j21 : Int32 → Mm → Option Mm) (v1 : Int32) (v2 : Int32) (v3 : Int32) (u : Mm) : Option Mm :=
  gX11_swingBy_70 j21 v1 v2 v3 0 u
def gX11_swingBy_41 (j21 : Int32 → Mm → Option Mm) (v1 : Int32) (v2 : Int32) (v3 : Int32) (s0 : Int32) (u : Mm) : Option Mm :=
  if 0 < s0 then
  (gX11_swingBy_70 j21 v1 v2 v3 2 u)
  else
  (if s0 < 0 then
   (if 0 < (u 74 6) then
    (gX11_swingBy_70 j21 v1 v2 v3 1 u)
    else
    (gX11_swingBy_69 j21 v1 v2 v3 u))
   else
   (gX11_swingBy_69 j21 v1 v2 v3 u))
def gX11_swingBy_21_Ls (v1 : Int32) (v2 : Int32) (j21 : Int32 → Mm → Option Mm) (v3 : Int32) (u : Mm) : Option Mm :=
  if v3 < 40 then
  (gd (¬ v1 = 0) <|
   if (irm v3 v1) = 0 then
   ((gX11_risingNow u).bind fun (r5 : Int32) =>
    gX11_swingBy_41 j21 v1 v2 v3 r5 u)
   else
   (gX11_swingBy_41 j21 v1 v2 v3 0 u))
  else
  ((gX11_again u).bind fun (u2 : Mm) =>
   some u2)
def gX11_swingBy_21_L (v1 : Int32) (v2 : Int32) : Nat → Int32 → Mm → Option Mm
  | 0 => fun _ _ => none
  | n + 1 => gX11_swingBy_21_Ls v1 v2 (gX11_swingBy_21_L v1 v2 n)
def gX11_swingBy_b (v1 : Int32) (u : Mm) : Option Mm :=
  (gX11_open u).bind fun (u1 : Mm) =>
  letv (u1 74 2) fun (v2_2 : Int32) =>
  letv (stm u1 74 51 0) fun (u3 : Mm) =>
  letv (stm u3 74 52 0) fun (u4 : Mm) =>
  gX11_swingBy_21_L v1 v2_2 FU 0 u4
def gX11_swingBy (v1 : Int32) (u : Mm) : Option Mm := gX11_swingBy_b v1 u
-- X11_swing: swing (I)I, depth 4
def gX11_swing_b (v1 : Int32) (u : Mm) : Option (Int32 × Mm) :=
  letv (stm u 74 19 0) fun (u1 : Mm) =>
  (gX11_in v1.toInt64 0 2).bind fun (r2 : Int32) =>
  if r2 = 0 then
  (bI (gX11_refuse (-2) u1) fun (r9 : Int32) (u8 : Mm) =>
   some (r9, u8))
  else
  ((gX11_swingBy 1 u1).bind fun (u4 : Mm) =>
   if v1 = 0 then
   (some (u4 74 51, u4))
   else
   (if v1 = 1 then
    (some (u4 74 52, u4))
    else
    (if (u4 74 51) < (u4 74 52) then
     (some (1, u4))
     else
     (some (0, u4)))))
def gX11_swing (v1 : Int32) (u : Mm) : Option (Int32 × Mm) := gX11_swing_b v1 u
-- X11_calm: calm ()I, depth 4
def gX11_calm_7_Ls (j7 : Int32 → Mm → Option (Int32 × Mm)) (v1 : Int32) (u : Mm) : Option (Int32 × Mm) :=
  if 9 < v1 then
  (some ((-9), u))
  else
  ((gX11_swingBy v1 u).bind fun (u2 : Mm) =>
   if (u2 74 51) < (u2 74 52) then
   (letv (v1 + 1) fun (v1_4 : Int32) =>
    j7 v1_4 u2)
   else
   (some (v1, u2)))
def gX11_calm_7_L : Nat → Int32 → Mm → Option (Int32 × Mm)
  | 0 => fun _ _ => none
  | n + 1 => gX11_calm_7_Ls (gX11_calm_7_L n)
def gX11_calm_b (u : Mm) : Option (Int32 × Mm) :=
  letv (stm u 74 19 0) fun (u1 : Mm) =>
  gX11_calm_7_L FU 1 u1
def gX11_calm (u : Mm) : Option (Int32 × Mm) := gX11_calm_b u
-- X11_out: out ()I, depth 0
def gX11_out_53 (j19 : Int32 → Int32 → Mm → Option (Int32 × Mm)) (v2 : Int32) (s0 : Int32) (u : Mm) : Option (Int32 × Mm) :=
  letv (v2 + 1) fun (v2_1 : Int32) =>
  j19 s0 v2_1 u
def gX11_out_19_Ls (j19 : Int32 → Int32 → Mm → Option (Int32 × Mm)) (v1 : Int32) (v2 : Int32) (u : Mm) : Option (Int32 × Mm) :=
  if (u 74 7) < v2 then
  (some (v1, u))
  else
  (if 0 < ((((u 74 5) - 12) - (2 * ((u 74 7) - v2))) / 4) then
   (gX11_out_53 j19 v2 v1 u)
   else
   (gX11_out_53 j19 v2 v2 u))
def gX11_out_19_L : Nat → Int32 → Int32 → Mm → Option (Int32 × Mm)
  | 0 => fun _ _ _ => none
  | n + 1 => gX11_out_19_Ls (gX11_out_19_L n)
def gX11_out_b (u : Mm) : Option (Int32 × Mm) :=
  letv (stm u 74 19 0) fun (u1 : Mm) =>
  if 0 < (u1 74 2) then
  (some ((-9), u1))
  else
  (gX11_out_19_L FU 0 1 u1)
def gX11_out (u : Mm) : Option (Int32 × Mm) := gX11_out_b u
-- X11_driveFrom: driveFrom (I)V, depth 0
def gX11_driveFrom_25 (j2 : Int32 → Mm → Option Mm) (v1 : Int32) (v2 : Int32) (s0 : Int32) (s1 : Int32) (u : Mm) : Option Mm :=
  gd (ix s1 8) <|
  letv (stm u 96 (ixn s1) s0) fun (u1 : Mm) =>
  letv (v2 + 1) fun (v2_3 : Int32) =>
  j2 v2_3 u1
def gX11_driveFrom_124 (j34 : Int32 → Mm → Option Mm) (j42 : Int32 → Mm → Option Mm) (j51 : Int32 → Mm → Option Mm) (v2 : Int32) (v3 : Int32) (v4 : Int32) (s0 : Int32) (s1 : Int32) (u : Mm) : Option Mm :=
  gd (ix s1 8) <|
  letv (stm u 96 (ixn s1) s0) fun (u1 : Mm) =>
  letv (v4 + 1) fun (v4_3 : Int32) =>
  j51 v4_3 u1
def gX11_driveFrom_117 (j34 : Int32 → Mm → Option Mm) (j42 : Int32 → Mm → Option Mm) (j51 : Int32 → Mm → Option Mm) (v2 : Int32) (v3 : Int32) (v4 : Int32) (s0 : Int32) (u : Mm) : Option Mm :=
  gd (ix v4 8) <|
  gX11_driveFrom_124 j34 j42 j51 v2 v3 v4 (u 96 (ixn v4)) s0 u
def gX11_driveFrom_51_Ls (j34 : Int32 → Mm → Option Mm) (j42 : Int32 → Mm → Option Mm) (v2 : Int32) (v3 : Int32) (j51 : Int32 → Mm → Option Mm) (v4 : Int32) (u : Mm) : Option Mm :=
  if v4 < 8 then
  (gd (ix v3 8) <|
   gd (ix ((8 * v3) + v4) 64) <|
   letv ((u 96 (ixn v3)) + (u 83 (ixn ((8 * v3) + v4)))) fun (v5_5 : Int32) =>
   gd (ix ((8 * v3) + v4) 64) <|
   if 0 < (u 83 (ixn ((8 * v3) + v4))) then
   (gd (ix v4 8) <|
    if v5_5 < (u 96 (ixn v4)) then
    (gX11_driveFrom_124 j34 j42 j51 v2 v3 v4 v5_5 v4 u)
    else
    (gX11_driveFrom_117 j34 j42 j51 v2 v3 v4 v4 u))
   else
   (gX11_driveFrom_117 j34 j42 j51 v2 v3 v4 v4 u))
  else
  (letv (v3 + 1) fun (v3_2 : Int32) =>
   j42 v3_2 u)
def gX11_driveFrom_51_L (j34 : Int32 → Mm → Option Mm) (j42 : Int32 → Mm → Option Mm) (v2 : Int32) (v3 : Int32) : Nat → Int32 → Mm → Option Mm
  | 0 => fun _ _ => none
  | n + 1 => gX11_driveFrom_51_Ls j34 j42 v2 v3 (gX11_driveFrom_51_L j34 j42 v2 v3 n)
def gX11_driveFrom_42_Ls (j34 : Int32 → Mm → Option Mm) (v2 : Int32) (j42 : Int32 → Mm → Option Mm) (v3 : Int32) (u : Mm) : Option Mm :=
  if v3 < 8 then
  (gX11_driveFrom_51_L j34 j42 v2 v3 FU 0 u)
  else
  (letv (v2 + 1) fun (v2_2 : Int32) =>
   j34 v2_2 u)
def gX11_driveFrom_42_L (j34 : Int32 → Mm → Option Mm) (v2 : Int32) : Nat → Int32 → Mm → Option Mm
  | 0 => fun _ _ => none
  | n + 1 => gX11_driveFrom_42_Ls j34 v2 (gX11_driveFrom_42_L j34 v2 n)
def gX11_driveFrom_34_Ls (j34 : Int32 → Mm → Option Mm) (v2 : Int32) (u : Mm) : Option Mm :=
  if v2 < 8 then
  (gX11_driveFrom_42_L j34 v2 FU 0 u)
  else
  (some u)
def gX11_driveFrom_34_L : Nat → Int32 → Mm → Option Mm
  | 0 => fun _ _ => none
  | n + 1 => gX11_driveFrom_34_Ls (gX11_driveFrom_34_L n)
def gX11_driveFrom_2_Ls (v1 : Int32) (j2 : Int32 → Mm → Option Mm) (v2 : Int32) (u : Mm) : Option Mm :=
  if v2 < 8 then
  (if v2 = v1 then
   (gX11_driveFrom_25 j2 v1 v2 0 v2 u)
   else
   (gX11_driveFrom_25 j2 v1 v2 99999 v2 u))
  else
  (gX11_driveFrom_34_L FU 0 u)
def gX11_driveFrom_2_L (v1 : Int32) : Nat → Int32 → Mm → Option Mm
  | 0 => fun _ _ => none
  | n + 1 => gX11_driveFrom_2_Ls v1 (gX11_driveFrom_2_L v1 n)
def gX11_driveFrom_b (v1 : Int32) (u : Mm) : Option Mm :=
  gX11_driveFrom_2_L v1 FU 0 u
def gX11_driveFrom (v1 : Int32) (u : Mm) : Option Mm := gX11_driveFrom_b v1 u
-- X11_road: road (III)I, depth 2
def gX11_road_35 (v1 : Int32) (v2 : Int32) (v3 : Int32) (s0 : Int32) (u : Mm) : Option (Int32 × Mm) :=
  if s0 < 0 then
  (bI (gX11_refuse s0 u) fun (r7 : Int32) (u6 : Mm) =>
   some (r7, u6))
  else
  (gd (ix ((8 * v1) + v2) 64) <|
   letv (u 83 (ixn ((8 * v1) + v2))) fun (v5_3 : Int32) =>
   (gX11_putRoad v1 v2 v3 u).bind fun (u4 : Mm) =>
   letv (stm u4 74 40 0) fun (u5 : Mm) =>
   some (v5_3, u5))
def gX11_road_34 (v1 : Int32) (v2 : Int32) (v3 : Int32) (u : Mm) : Option (Int32 × Mm) :=
  gX11_road_35 v1 v2 v3 (-1) u
def gX11_road_b (v1 : Int32) (v2 : Int32) (v3 : Int32) (u : Mm) : Option (Int32 × Mm) :=
  letv (stm u 74 19 0) fun (u1 : Mm) =>
  (gX11_isPlace v1).bind fun (r2 : Int32) =>
  if r2 = 0 then
  (gX11_road_34 v1 v2 v3 u1)
  else
  ((gX11_isPlace v2).bind fun (r4 : Int32) =>
   if r4 = 0 then
   (gX11_road_34 v1 v2 v3 u1)
   else
   (if v1 = v2 then
    (gX11_road_34 v1 v2 v3 u1)
    else
    ((gX11_wrongNumber v3 0 99).bind fun (r7 : Int32) =>
     gX11_road_35 v1 v2 v3 r7 u1)))
def gX11_road (v1 : Int32) (v2 : Int32) (v3 : Int32) (u : Mm) : Option (Int32 × Mm) := gX11_road_b v1 v2 v3 u
-- X11_car: car (I)I, depth 2
def gX11_car_b (v1 : Int32) (u : Mm) : Option (Int32 × Mm) :=
  letv (stm u 74 19 0) fun (u1 : Mm) =>
  (gX11_isPlace v1).bind fun (r2 : Int32) =>
  if r2 = 0 then
  (bI (gX11_refuse (-1) u1) fun (r8 : Int32) (u7 : Mm) =>
   some (r8, u7))
  else
  (letv (u1 74 18) fun (v2_4 : Int32) =>
   letv (stm u1 74 18 v1) fun (u5 : Mm) =>
   letv (stm u5 74 40 0) fun (u6 : Mm) =>
   some (v2_4, u6))
def gX11_car (v1 : Int32) (u : Mm) : Option (Int32 × Mm) := gX11_car_b v1 u
-- X11_drive: drive (I)I, depth 2
def gX11_drive_b (v1 : Int32) (u : Mm) : Option (Int32 × Mm) :=
  letv (stm u 74 19 0) fun (u1 : Mm) =>
  (gX11_isPlace v1).bind fun (r2 : Int32) =>
  if r2 = 0 then
  (bI (gX11_refuse (-1) u1) fun (r9 : Int32) (u8 : Mm) =>
   some (r9, u8))
  else
  ((gX11_driveFrom (u1 74 18) u1).bind fun (u4 : Mm) =>
   gd (ix v1 8) <|
   if (u4 96 (ixn v1)) < 99999 then
   (gd (ix v1 8) <|
    some (u4 96 (ixn v1), u4))
   else
   (some ((-9), u4)))
def gX11_drive (v1 : Int32) (u : Mm) : Option (Int32 × Mm) := gX11_drive_b v1 u
-- X11_waitSum: waitSum (I)I, depth 1
def gX11_waitSum_45 (j9 : Int32 → Int32 → Mm → Option (Int32 × Mm)) (v3 : Int32) (s0 : Int32) (s1 : Int32) (s2 : Int32) (u : Mm) : Option (Int32 × Mm) :=
  letv (s2 + (s1 * s0)) fun (v2_1 : Int32) =>
  letv (v3 + 1) fun (v3_2 : Int32) =>
  j9 v2_1 v3_2 u
def gX11_waitSum_9_Ls (j9 : Int32 → Int32 → Mm → Option (Int32 × Mm)) (v2 : Int32) (v3 : Int32) (u : Mm) : Option (Int32 × Mm) :=
  if v3 < 8 then
  (gd (ix v3 12) <|
   gd (ix v3 8) <|
   if (u 96 (ixn v3)) < 99999 then
   (gd (ix v3 8) <|
    gX11_waitSum_45 j9 v3 (u 96 (ixn v3)) (u 100 (ixn v3)) v2 u)
   else
   (gX11_waitSum_45 j9 v3 99 (u 100 (ixn v3)) v2 u))
  else
  (some (v2, u))
def gX11_waitSum_9_L : Nat → Int32 → Int32 → Mm → Option (Int32 × Mm)
  | 0 => fun _ _ _ => none
  | n + 1 => gX11_waitSum_9_Ls (gX11_waitSum_9_L n)
def gX11_waitSum_b (v1 : Int32) (u : Mm) : Option (Int32 × Mm) :=
  (gX11_driveFrom v1 u).bind fun (u1 : Mm) =>
  gX11_waitSum_9_L FU 0 0 u1
def gX11_waitSum (v1 : Int32) (u : Mm) : Option (Int32 × Mm) := gX11_waitSum_b v1 u
-- X11_waitBest: waitBest ()I, depth 2
def gX11_waitBest_47 (j10 : Int32 → Int32 → Int32 → Mm → Option (Int32 × Mm)) (v1 : Int32) (v3 : Int32) (s0 : Int32) (u : Mm) : Option (Int32 × Mm) :=
  letv (v3 + 1) fun (v3_1 : Int32) =>
  j10 v1 s0 v3_1 u
def gX11_waitBest_34 (j10 : Int32 → Int32 → Int32 → Mm → Option (Int32 × Mm)) (v2 : Int32) (v3 : Int32) (v4 : Int32) (s0 : Int32) (u : Mm) : Option (Int32 × Mm) :=
  if v4 < v2 then
  (gX11_waitBest_47 j10 s0 v3 v4 u)
  else
  (gX11_waitBest_47 j10 s0 v3 v2 u)
def gX11_waitBest_10_Ls (j10 : Int32 → Int32 → Int32 → Mm → Option (Int32 × Mm)) (v1 : Int32) (v2 : Int32) (v3 : Int32) (u : Mm) : Option (Int32 × Mm) :=
  if v3 < 8 then
  (bI (gX11_waitSum v3 u) fun (r3 : Int32) (u2 : Mm) =>
   if r3 < v2 then
   (gX11_waitBest_34 j10 v2 v3 r3 v3 u2)
   else
   (gX11_waitBest_34 j10 v2 v3 r3 v1 u2))
  else
  (some (v1, u))
def gX11_waitBest_10_L : Nat → Int32 → Int32 → Int32 → Mm → Option (Int32 × Mm)
  | 0 => fun _ _ _ _ => none
  | n + 1 => gX11_waitBest_10_Ls (gX11_waitBest_10_L n)
def gX11_waitBest_b (u : Mm) : Option (Int32 × Mm) :=
  bI (gX11_waitSum 0 u) fun (r2 : Int32) (u1 : Mm) =>
  gX11_waitBest_10_L FU 0 r2 1 u1
def gX11_waitBest (u : Mm) : Option (Int32 × Mm) := gX11_waitBest_b u
-- X11_waitAt: waitAt ()I, depth 3
def gX11_waitAt_b (u : Mm) : Option (Int32 × Mm) :=
  letv (stm u 74 19 0) fun (u1 : Mm) =>
  if (u1 74 58) = 8 then
  (bI (gX11_waitBest u1) fun (r6 : Int32) (u5 : Mm) =>
   some (r6, u5))
  else
  (bI (gX11_refuse (-3) u1) fun (r4 : Int32) (u3 : Mm) =>
   some (r4, u3))
def gX11_waitAt (u : Mm) : Option (Int32 × Mm) := gX11_waitAt_b u
-- X11_divisor: divisor (JJ)J, depth 0
def gX11_divisor_6_Ls (j6 : Int64 → Int64 → Option Int64) (v4 : Int64) (v6 : Int64) : Option Int64 :=
  if (lg_cmp v6 0) = 0 then
  (some v4)
  else
  (gd (¬ v6 = 0) <|
   letv (lrm v4 v6) fun (v8_3 : Int64) =>
   j6 v6 v8_3)
def gX11_divisor_6_L : Nat → Int64 → Int64 → Option Int64
  | 0 => fun _ _ => none
  | n + 1 => gX11_divisor_6_Ls (gX11_divisor_6_L n)
def gX11_divisor_b (v0 : Int64) (v2 : Int64) : Option Int64 :=
  gX11_divisor_6_L FU v0 v2
def gX11_divisor (v0 : Int64) (v2 : Int64) : Option Int64 := gX11_divisor_b v0 v2
-- X11_meanWait: meanWait (I)J, depth 3
def gX11_meanWait_57_Ls (v1 : Int32) (v3 : Int64) (j57 : Int64 → Int32 → Mm → Option (Int64 × Mm)) (v5 : Int64) (v7 : Int32) (u : Mm) : Option (Int64 × Mm) :=
  if v7 < 8 then
  (gd (ix v7 12) <|
   letv (v5 + ((u 100 (ixn v7)).toInt64)) fun (v5_8 : Int64) =>
   letv (v7 + 1) fun (v7_9 : Int32) =>
   j57 v5_8 v7_9 u)
  else
  (if (lg_cmp v3 0) = 0 then
   (some (v1.toInt64, u))
   else
   ((gX11_divisor v3 v5).bind fun (r3 : Int64) =>
    if v1 = 0 then
    (gd (¬ r3 = 0) <|
     some (v3 / r3, u))
    else
    (gd (¬ r3 = 0) <|
     some (v5 / r3, u))))
def gX11_meanWait_57_L (v1 : Int32) (v3 : Int64) : Nat → Int64 → Int32 → Mm → Option (Int64 × Mm)
  | 0 => fun _ _ _ => none
  | n + 1 => gX11_meanWait_57_Ls v1 v3 (gX11_meanWait_57_L v1 v3 n)
def gX11_meanWait_25 (v1 : Int32) (s0 : Int32) (u : Mm) : Option (Int64 × Mm) :=
  if s0 < 0 then
  (bI (gX11_refuse s0 u) fun (r8 : Int32) (u7 : Mm) =>
   some (4000000000000000000 - r8.toInt64, u7))
  else
  (bI (gX11_waitBest u) fun (r3 : Int32) (u2 : Mm) =>
   bI (gX11_waitSum r3 u2) fun (r5 : Int32) (u4 : Mm) =>
   letv r5.toInt64 fun (v3_6 : Int64) =>
   gX11_meanWait_57_L v1 v3_6 FU 0 0 u4)
def gX11_meanWait_b (v1 : Int32) (u : Mm) : Option (Int64 × Mm) :=
  letv (stm u 74 19 0) fun (u1 : Mm) =>
  if (u1 74 58) = 8 then
  ((gX11_wrongBit 0 v1 1).bind fun (r3 : Int32) =>
   gX11_meanWait_25 v1 r3 u1)
  else
  (gX11_meanWait_25 v1 (-3) u1)
def gX11_meanWait (v1 : Int32) (u : Mm) : Option (Int64 × Mm) := gX11_meanWait_b v1 u
-- X11_turned: turned (II)I, depth 2
def gX11_turned_24 (u : Mm) : Option (Int32 × Mm) :=
  bI (gX11_refuse (-1) u) fun (r2 : Int32) (u1 : Mm) =>
  some (r2, u1)
def gX11_turned_b (v1 : Int32) (v2 : Int32) (u : Mm) : Option (Int32 × Mm) :=
  letv (stm u 74 19 0) fun (u1 : Mm) =>
  (gX11_isPlace v1).bind fun (r2 : Int32) =>
  if r2 = 0 then
  (gX11_turned_24 u1)
  else
  ((gX11_isPlace v2).bind fun (r4 : Int32) =>
   if r4 = 0 then
   (gX11_turned_24 u1)
   else
   (if v1 = v2 then
    (gX11_turned_24 u1)
    else
    (gd (ix ((8 * v1) + v2) 64) <|
     letv (u1 83 (ixn ((8 * v1) + v2))) fun (v3_8 : Int32) =>
     if v3_8 = 0 then
     (some ((-9), u1))
     else
     ((gX11_driveFrom v1 u1).bind fun (u10 : Mm) =>
      gd (ix v2 8) <|
      letv (u10 96 (ixn v2)) fun (v4_12 : Int32) =>
      (gX11_putRoad v1 v2 0 u10).bind fun (u13 : Mm) =>
      (gX11_driveFrom v1 u13).bind fun (u14 : Mm) =>
      (gX11_putRoad v1 v2 v3_8 u14).bind fun (u15 : Mm) =>
      gd (ix v2 8) <|
      if (u15 96 (ixn v2)) < 99999 then
      (gd (ix v2 8) <|
       some ((u15 96 (ixn v2)) - v4_12, u15))
      else
      (some ((-9), u15))))))
def gX11_turned (v1 : Int32) (v2 : Int32) (u : Mm) : Option (Int32 × Mm) := gX11_turned_b v1 v2 u
-- X11_crew: crew (I)I, depth 6
def gX11_crew_111 (j37 : Int32 → Int32 → Int32 → Mm → Option (Int32 × Mm)) (v1 : Int32) (v2 : Int32) (v3 : Int32) (v5 : Int32) (s0 : Int32) (u : Mm) : Option (Int32 × Mm) :=
  letv (v5 + 1) fun (v5_1 : Int32) =>
  j37 v3 s0 v5_1 u
def gX11_crew_96 (j37 : Int32 → Int32 → Int32 → Mm → Option (Int32 × Mm)) (v1 : Int32) (v2 : Int32) (v4 : Int32) (v5 : Int32) (v6 : Int32) (s0 : Int32) (u : Mm) : Option (Int32 × Mm) :=
  if v6 = 0 then
  (gX11_crew_111 j37 v1 v2 s0 v5 v4 u)
  else
  (gX11_crew_111 j37 v1 v2 s0 v5 (u 74 48) u)
def gX11_crew_83 (j37 : Int32 → Int32 → Int32 → Mm → Option (Int32 × Mm)) (v1 : Int32) (v2 : Int32) (v3 : Int32) (v4 : Int32) (v5 : Int32) (s0 : Int32) (u : Mm) : Option (Int32 × Mm) :=
  if s0 = 0 then
  (gX11_crew_96 j37 v1 v2 v4 v5 s0 v3 u)
  else
  (gX11_crew_96 j37 v1 v2 v4 v5 s0 v5 u)
def gX11_crew_78 (j37 : Int32 → Int32 → Int32 → Mm → Option (Int32 × Mm)) (v1 : Int32) (v2 : Int32) (v3 : Int32) (v4 : Int32) (v5 : Int32) (u : Mm) : Option (Int32 × Mm) :=
  gX11_crew_83 j37 v1 v2 v3 v4 v5 1 u
def gX11_crew_82 (j37 : Int32 → Int32 → Int32 → Mm → Option (Int32 × Mm)) (v1 : Int32) (v2 : Int32) (v3 : Int32) (v4 : Int32) (v5 : Int32) (u : Mm) : Option (Int32 × Mm) :=
  gX11_crew_83 j37 v1 v2 v3 v4 v5 0 u
def gX11_crew_37_Ls (v1 : Int32) (v2 : Int32) (j37 : Int32 → Int32 → Int32 → Mm → Option (Int32 × Mm)) (v3 : Int32) (v4 : Int32) (v5 : Int32) (u : Mm) : Option (Int32 × Mm) :=
  if 6 < v5 then
  (letv (stm u 74 7 v2) fun (u2 : Mm) =>
   if v1 = 0 then
   (some (v3, u2))
   else
   (some (v4, u2)))
  else
  (letv (stm u 74 7 v5) fun (u4 : Mm) =>
   (gX11_open u4).bind fun (u5 : Mm) =>
   (gX11_seekBest u5).bind fun (u6 : Mm) =>
   if (u6 74 48) < 0 then
   (gX11_crew_82 j37 v1 v2 v3 v4 v5 u6)
   else
   (if v3 < 0 then
    (gX11_crew_78 j37 v1 v2 v3 v4 v5 u6)
    else
    (if (u6 74 48) < v4 then
     (gX11_crew_78 j37 v1 v2 v3 v4 v5 u6)
     else
     (gX11_crew_82 j37 v1 v2 v3 v4 v5 u6))))
def gX11_crew_37_L (v1 : Int32) (v2 : Int32) : Nat → Int32 → Int32 → Int32 → Mm → Option (Int32 × Mm)
  | 0 => fun _ _ _ _ => none
  | n + 1 => gX11_crew_37_Ls v1 v2 (gX11_crew_37_L v1 v2 n)
def gX11_crew_b (v1 : Int32) (u : Mm) : Option (Int32 × Mm) :=
  letv (stm u 74 19 0) fun (u1 : Mm) =>
  (gX11_in v1.toInt64 0 1).bind fun (r2 : Int32) =>
  if r2 = 0 then
  (bI (gX11_refuse (-2) u1) fun (r6 : Int32) (u5 : Mm) =>
   some (r6, u5))
  else
  (letv (u1 74 7) fun (v2_4 : Int32) =>
   gX11_crew_37_L v1 v2_4 FU (-9) (-9) 1 u1)
def gX11_crew (v1 : Int32) (u : Mm) : Option (Int32 × Mm) := gX11_crew_b v1 u
-- X11_whichLag: whichLag ()I, depth 4
def gX11_whichLag_64 (j9 : Int32 → Int32 → Mm → Option (Int32 × Mm)) (j28 : Int32 → Int32 → Mm → Option (Int32 × Mm)) (v1 : Int32) (v2 : Int32) (v4 : Int32) (s0 : Int32) (u : Mm) : Option (Int32 × Mm) :=
  letv (v4 + 1) fun (v4_1 : Int32) =>
  j28 s0 v4_1 u
def gX11_whichLag_63 (j9 : Int32 → Int32 → Mm → Option (Int32 × Mm)) (j28 : Int32 → Int32 → Mm → Option (Int32 × Mm)) (v1 : Int32) (v2 : Int32) (v4 : Int32) (u : Mm) : Option (Int32 × Mm) :=
  gX11_whichLag_64 j9 j28 v1 v2 v4 0 u
def gX11_whichLag_83 (j9 : Int32 → Int32 → Mm → Option (Int32 × Mm)) (v2 : Int32) (s0 : Int32) (s1 : Int32) (u : Mm) : Option (Int32 × Mm) :=
  letv (s1 ||| s0) fun (v1_1 : Int32) =>
  (gX11_again u).bind fun (u2 : Mm) =>
  letv (v2 + 1) fun (v2_3 : Int32) =>
  j9 v1_1 v2_3 u2
def gX11_whichLag_28_Ls (j9 : Int32 → Int32 → Mm → Option (Int32 × Mm)) (v1 : Int32) (v2 : Int32) (j28 : Int32 → Int32 → Mm → Option (Int32 × Mm)) (v3 : Int32) (v4 : Int32) (u : Mm) : Option (Int32 × Mm) :=
  if v4 < (u 74 58) then
  ((gX11_holdOn u).bind fun (u3 : Mm) =>
   if v3 = 0 then
   (gX11_whichLag_63 j9 j28 v1 v2 v4 u3)
   else
   (gd (ix v4 12) <|
    if (u3 74 2) = (u3 100 (ixn v4)) then
    (gX11_whichLag_64 j9 j28 v1 v2 v4 1 u3)
    else
    (gX11_whichLag_63 j9 j28 v1 v2 v4 u3)))
  else
  (if v3 = 0 then
   (gX11_whichLag_83 j9 v2 0 v1 u)
   else
   (gX11_whichLag_83 j9 v2 (shl 1 v2) v1 u))
def gX11_whichLag_28_L (j9 : Int32 → Int32 → Mm → Option (Int32 × Mm)) (v1 : Int32) (v2 : Int32) : Nat → Int32 → Int32 → Mm → Option (Int32 × Mm)
  | 0 => fun _ _ _ => none
  | n + 1 => gX11_whichLag_28_Ls j9 v1 v2 (gX11_whichLag_28_L j9 v1 v2 n)
def gX11_whichLag_9_Ls (j9 : Int32 → Int32 → Mm → Option (Int32 × Mm)) (v1 : Int32) (v2 : Int32) (u : Mm) : Option (Int32 × Mm) :=
  if 5 < v2 then
  (some (v1, u))
  else
  ((gX11_open u).bind fun (u2 : Mm) =>
   (gX11_lagBecomes v2 u2).bind fun (u3 : Mm) =>
   gX11_whichLag_28_L j9 v1 v2 FU 1 0 u3)
def gX11_whichLag_9_L : Nat → Int32 → Int32 → Mm → Option (Int32 × Mm)
  | 0 => fun _ _ _ => none
  | n + 1 => gX11_whichLag_9_Ls (gX11_whichLag_9_L n)
def gX11_whichLag_b (u : Mm) : Option (Int32 × Mm) :=
  letv (stm u 74 19 0) fun (u1 : Mm) =>
  gX11_whichLag_9_L FU 0 0 u1
def gX11_whichLag (u : Mm) : Option (Int32 × Mm) := gX11_whichLag_b u
-- X11_comesTo: comesTo (III)Z, depth 5
def gX11_comesTo_b (v1 : Int32) (v2 : Int32) (v3 : Int32) (u : Mm) : Option (Int32 × Mm) :=
  (gX11_planOn v2 v3 u).bind fun (u1 : Mm) =>
  if (u1 74 41) = 0 then
  (some (0, u1))
  else
  ((gX11_fieldAt u1).bind fun (r3 : Int32) =>
   if r3 = v1 then
   (some (1, u1))
   else
   (some (0, u1)))
def gX11_comesTo (v1 : Int32) (v2 : Int32) (v3 : Int32) (u : Mm) : Option (Int32 × Mm) := gX11_comesTo_b v1 v2 v3 u
-- X11_windFor: windFor (IIII)I, depth 6
def gX11_windFor_150 (j106 : Int32 → Int32 → Int32 → Mm → Option (Int32 × Mm)) (v1 : Int32) (v2 : Int32) (v3 : Int32) (v4 : Int32) (v6 : Int32) (v7 : Int32) (v8 : Int32) (v10 : Int32) (s0 : Int32) (u : Mm) : Option (Int32 × Mm) :=
  letv (v10 + 1) fun (v10_1 : Int32) =>
  j106 v8 s0 v10_1 u
def gX11_windFor_106_Ls (v1 : Int32) (v2 : Int32) (v3 : Int32) (v4 : Int32) (v6 : Int32) (v7 : Int32) (j106 : Int32 → Int32 → Int32 → Mm → Option (Int32 × Mm)) (v8 : Int32) (v9 : Int32) (v10 : Int32) (u : Mm) : Option (Int32 × Mm) :=
  if 9 < v10 then
  (gd (ix v6 8) <|
   letv (stm u 75 (ixn v6) v7) fun (u2 : Mm) =>
   (gX11_again u2).bind fun (u4 : Mm) =>
   if v4 = 0 then
   (some (v8, u4))
   else
   (some (v9, u4)))
  else
  (gd (ix v6 8) <|
   letv (stm u 75 (ixn v6) v10) fun (u6 : Mm) =>
   bI (gX11_comesTo v1 v2 v3 u6) fun (r9 : Int32) (u8 : Mm) =>
   if r9 = 0 then
   (letv (v10 + 1) fun (v10_11 : Int32) =>
    j106 v8 v9 v10_11 u8)
   else
   (letv (v8 + 1) fun (v8_12 : Int32) =>
    if v9 < 0 then
    (gX11_windFor_150 j106 v1 v2 v3 v4 v6 v7 v8_12 v10 (v10 + 9) u8)
    else
    (gX11_windFor_150 j106 v1 v2 v3 v4 v6 v7 v8_12 v10 v9 u8)))
def gX11_windFor_106_L (v1 : Int32) (v2 : Int32) (v3 : Int32) (v4 : Int32) (v6 : Int32) (v7 : Int32) : Nat → Int32 → Int32 → Int32 → Mm → Option (Int32 × Mm)
  | 0 => fun _ _ _ _ => none
  | n + 1 => gX11_windFor_106_Ls v1 v2 v3 v4 v6 v7 (gX11_windFor_106_L v1 v2 v3 v4 v6 v7 n)
def gX11_windFor_52 (v1 : Int32) (v2 : Int32) (v3 : Int32) (v4 : Int32) (v5 : Int32) (u : Mm) : Option (Int32 × Mm) :=
  (gX11_wrongBit v5 v4 1).bind fun (r1 : Int32) =>
  if r1 < 0 then
  (bI (gX11_refuse r1 u) fun (r8 : Int32) (u7 : Mm) =>
   some (r8, u7))
  else
  (letv ((u 74 2) / 5) fun (v6_3 : Int32) =>
   gd (ix v6_3 8) <|
   letv (u 75 (ixn v6_3)) fun (v7_5 : Int32) =>
   (gX11_open u).bind fun (u6 : Mm) =>
   gX11_windFor_106_L v1 v2 v3 v4 v6_3 v7_5 FU 0 (-9) (-9) u6)
def gX11_windFor_30 (v1 : Int32) (v2 : Int32) (v3 : Int32) (v4 : Int32) (u : Mm) : Option (Int32 × Mm) :=
  gX11_windFor_52 v1 v2 v3 v4 (-4) u
def gX11_windFor_48 (v1 : Int32) (v2 : Int32) (v3 : Int32) (v4 : Int32) (u : Mm) : Option (Int32 × Mm) :=
  gX11_windFor_52 v1 v2 v3 v4 (-6) u
def gX11_windFor_b (v1 : Int32) (v2 : Int32) (v3 : Int32) (v4 : Int32) (u : Mm) : Option (Int32 × Mm) :=
  letv (stm u 74 19 0) fun (u1 : Mm) =>
  (gX11_isField v1 u1).bind fun (r2 : Int32) =>
  if r2 = 0 then
  (gX11_windFor_52 v1 v2 v3 v4 (-1) u1)
  else
  (if v2 < 0 then
   (gX11_windFor_30 v1 v2 v3 v4 u1)
   else
   (if v3 < 0 then
    (gX11_windFor_30 v1 v2 v3 v4 u1)
    else
    (if 30 < v2 then
     (gX11_windFor_48 v1 v2 v3 v4 u1)
     else
     (if 5 < v3 then
      (gX11_windFor_48 v1 v2 v3 v4 u1)
      else
      (gX11_windFor_52 v1 v2 v3 v4 0 u1)))))
def gX11_windFor (v1 : Int32) (v2 : Int32) (v3 : Int32) (v4 : Int32) (u : Mm) : Option (Int32 × Mm) := gX11_windFor_b v1 v2 v3 v4 u
-- X11_span: span (III)I, depth 6
def gX11_span_87 (j57 : Int32 → Int32 → Int32 → Mm → Option (Int32 × Mm)) (v1 : Int32) (v2 : Int32) (v3 : Int32) (v7 : Int32) (s0 : Int32) (u : Mm) : Option (Int32 × Mm) :=
  letv (v7 + 1) fun (v7_1 : Int32) =>
  j57 s0 v7 v7_1 u
def gX11_span_57_Ls (v1 : Int32) (v2 : Int32) (v3 : Int32) (j57 : Int32 → Int32 → Int32 → Mm → Option (Int32 × Mm)) (v5 : Int32) (v6 : Int32) (v7 : Int32) (u : Mm) : Option (Int32 × Mm) :=
  if 30 < v7 then
  ((gX11_again u).bind fun (u2 : Mm) =>
   if v3 = 0 then
   (some (v5, u2))
   else
   (some (v6, u2)))
  else
  (bI (gX11_comesTo v1 v7 v2 u) fun (r5 : Int32) (u4 : Mm) =>
   if r5 = 0 then
   (letv (v7 + 1) fun (v7_7 : Int32) =>
    j57 v5 v6 v7_7 u4)
   else
   (if v5 < 0 then
    (gX11_span_87 j57 v1 v2 v3 v7 v7 u4)
    else
    (gX11_span_87 j57 v1 v2 v3 v7 v5 u4)))
def gX11_span_57_L (v1 : Int32) (v2 : Int32) (v3 : Int32) : Nat → Int32 → Int32 → Int32 → Mm → Option (Int32 × Mm)
  | 0 => fun _ _ _ _ => none
  | n + 1 => gX11_span_57_Ls v1 v2 v3 (gX11_span_57_L v1 v2 v3 n)
def gX11_span_23 (v1 : Int32) (v2 : Int32) (v3 : Int32) (s0 : Int32) (u : Mm) : Option (Int32 × Mm) :=
  (gX11_wrongBit s0 v3 1).bind fun (r1 : Int32) =>
  if r1 < 0 then
  (bI (gX11_refuse r1 u) fun (r5 : Int32) (u4 : Mm) =>
   some (r5, u4))
  else
  ((gX11_open u).bind fun (u3 : Mm) =>
   gX11_span_57_L v1 v2 v3 FU (-9) (-9) 0 u3)
def gX11_span_b (v1 : Int32) (v2 : Int32) (v3 : Int32) (u : Mm) : Option (Int32 × Mm) :=
  letv (stm u 74 19 0) fun (u1 : Mm) =>
  (gX11_isField v1 u1).bind fun (r2 : Int32) =>
  if r2 = 0 then
  (gX11_span_23 v1 v2 v3 (-1) u1)
  else
  ((gX11_wrongNumber v2 0 5).bind fun (r4 : Int32) =>
   gX11_span_23 v1 v2 v3 r4 u1)
def gX11_span (v1 : Int32) (v2 : Int32) (v3 : Int32) (u : Mm) : Option (Int32 × Mm) := gX11_span_b v1 v2 v3 u
-- X11_flown: flown (I)I, depth 3
def gX11_flown_65 (j30 : Int32 → Mm → Option (Int32 × Mm)) (v1 : Int32) (v2 : Int32) (s0 : Int32) (u : Mm) : Option (Int32 × Mm) :=
  (gX11_stepOn s0 u).bind fun (u1 : Mm) =>
  letv (v2 + 1) fun (v2_2 : Int32) =>
  j30 v2_2 u1
def gX11_flown_64 (j30 : Int32 → Mm → Option (Int32 × Mm)) (v1 : Int32) (v2 : Int32) (v3 : Int32) (u : Mm) : Option (Int32 × Mm) :=
  gX11_flown_65 j30 v1 v2 v3 u
def gX11_flown_125 (s0 : Int32) (u : Mm) : Option (Int32 × Mm) :=
  (gX11_again u).bind fun (u1 : Mm) =>
  some (s0, u1)
def gX11_flown_30_Ls (v1 : Int32) (j30 : Int32 → Mm → Option (Int32 × Mm)) (v2 : Int32) (u : Mm) : Option (Int32 × Mm) :=
  if v2 < (u 74 58) then
  (gd (ix v2 12) <|
   letv (irm (u 100 (ixn v2)) 3) fun (v3_7 : Int32) =>
   if v3_7 = 1 then
   (if (u 74 6) = 0 then
    (gX11_flown_65 j30 v1 v2 0 u)
    else
    (gX11_flown_64 j30 v1 v2 v3_7 u))
   else
   (gX11_flown_64 j30 v1 v2 v3_7 u))
  else
  (if v1 = 0 then
   (gX11_flown_125 (u 74 2) u)
   else
   (if v1 = 1 then
    (gX11_flown_125 (u 74 3) u)
    else
    (if v1 = 2 then
     (gX11_flown_125 (u 74 4) u)
     else
     (if v1 = 3 then
      (gX11_flown_125 (u 74 5) u)
      else
      (gX11_flown_125 (u 74 6) u)))))
def gX11_flown_30_L (v1 : Int32) : Nat → Int32 → Mm → Option (Int32 × Mm)
  | 0 => fun _ _ => none
  | n + 1 => gX11_flown_30_Ls v1 (gX11_flown_30_L v1 n)
def gX11_flown_b (v1 : Int32) (u : Mm) : Option (Int32 × Mm) :=
  letv (stm u 74 19 0) fun (u1 : Mm) =>
  (gX11_in v1.toInt64 0 4).bind fun (r2 : Int32) =>
  if r2 = 0 then
  (bI (gX11_refuse (-2) u1) fun (r6 : Int32) (u5 : Mm) =>
   some (r6, u5))
  else
  ((gX11_open u1).bind fun (u4 : Mm) =>
   gX11_flown_30_L v1 FU 0 u4)
def gX11_flown (v1 : Int32) (u : Mm) : Option (Int32 × Mm) := gX11_flown_b v1 u
-- X11_ceiling: ceiling (I)I, depth 3
def gX11_ceiling_90 (j36 : Int32 → Int32 → Int32 → Mm → Option (Int32 × Mm)) (v1 : Int32) (v3 : Int32) (v4 : Int32) (s0 : Int32) (u : Mm) : Option (Int32 × Mm) :=
  letv (v4 + 1) fun (v4_1 : Int32) =>
  j36 s0 v3 v4_1 u
def gX11_ceiling_73 (j36 : Int32 → Int32 → Int32 → Mm → Option (Int32 × Mm)) (v1 : Int32) (v2 : Int32) (v4 : Int32) (s0 : Int32) (u : Mm) : Option (Int32 × Mm) :=
  if v2 < (u 74 2) then
  (gX11_ceiling_90 j36 v1 s0 v4 (u 74 2) u)
  else
  (gX11_ceiling_90 j36 v1 s0 v4 v2 u)
def gX11_ceiling_56 (j36 : Int32 → Int32 → Int32 → Mm → Option (Int32 × Mm)) (v1 : Int32) (v2 : Int32) (v3 : Int32) (v4 : Int32) (s0 : Int32) (u : Mm) : Option (Int32 × Mm) :=
  (gX11_stepOn s0 u).bind fun (u1 : Mm) =>
  if v2 < (u1 74 2) then
  (gX11_ceiling_73 j36 v1 v2 v4 v4 u1)
  else
  (gX11_ceiling_73 j36 v1 v2 v4 v3 u1)
def gX11_ceiling_36_Ls (v1 : Int32) (j36 : Int32 → Int32 → Int32 → Mm → Option (Int32 × Mm)) (v2 : Int32) (v3 : Int32) (v4 : Int32) (u : Mm) : Option (Int32 × Mm) :=
  if 60 < v4 then
  ((gX11_again u).bind fun (u2 : Mm) =>
   if v1 = 0 then
   (some (v2, u2))
   else
   (some (v3, u2)))
  else
  (if 0 < (u 74 6) then
   (gX11_ceiling_56 j36 v1 v2 v3 v4 1 u)
   else
   (gX11_ceiling_56 j36 v1 v2 v3 v4 0 u))
def gX11_ceiling_36_L (v1 : Int32) : Nat → Int32 → Int32 → Int32 → Mm → Option (Int32 × Mm)
  | 0 => fun _ _ _ _ => none
  | n + 1 => gX11_ceiling_36_Ls v1 (gX11_ceiling_36_L v1 n)
def gX11_ceiling_b (v1 : Int32) (u : Mm) : Option (Int32 × Mm) :=
  letv (stm u 74 19 0) fun (u1 : Mm) =>
  (gX11_in v1.toInt64 0 1).bind fun (r2 : Int32) =>
  if r2 = 0 then
  (bI (gX11_refuse (-2) u1) fun (r7 : Int32) (u6 : Mm) =>
   some (r7, u6))
  else
  (letv (u1 74 2) fun (v2_4 : Int32) =>
   (gX11_open u1).bind fun (u5 : Mm) =>
   gX11_ceiling_36_L v1 FU v2_4 0 1 u5)
def gX11_ceiling (v1 : Int32) (u : Mm) : Option (Int32 × Mm) := gX11_ceiling_b v1 u
-- X11_turnAir: turnAir ()V, depth 0
def gX11_turnAir_2_Ls (j2 : Int32 → Mm → Option Mm) (v1 : Int32) (u : Mm) : Option Mm :=
  if v1 < 8 then
  (gd (ix v1 8) <|
   gd (ix v1 8) <|
   letv (stm u 75 (ixn v1) (-(u 75 (ixn v1)))) fun (u3 : Mm) =>
   letv (v1 + 1) fun (v1_5 : Int32) =>
   j2 v1_5 u3)
  else
  (some u)
def gX11_turnAir_2_L : Nat → Int32 → Mm → Option Mm
  | 0 => fun _ _ => none
  | n + 1 => gX11_turnAir_2_Ls (gX11_turnAir_2_L n)
def gX11_turnAir_b (u : Mm) : Option Mm :=
  gX11_turnAir_2_L FU 0 u
def gX11_turnAir (u : Mm) : Option Mm := gX11_turnAir_b u
-- X11_layGame: layGame ()V, depth 5
def gX11_layGame_51 (j6 : Int32 → Mm → Option Mm) (v1 : Int32) (s0 : Int32) (s1 : Int32) (u : Mm) : Option Mm :=
  gd (ix s1 6) <|
  letv (stm u 97 (ixn s1) s0) fun (u1 : Mm) =>
  (gX11_turnAir u1).bind fun (u3 : Mm) =>
  letv (v1 + 1) fun (v1_4 : Int32) =>
  j6 v1_4 u3
def gX11_layGame_6_Ls (j6 : Int32 → Mm → Option Mm) (v1 : Int32) (u : Mm) : Option Mm :=
  if v1 < 6 then
  ((gX11_planOn (5 * (v1 / 2)) 1 u).bind fun (u3 : Mm) =>
   if (u3 74 41) = 0 then
   (gX11_layGame_51 j6 v1 40 v1 u3)
   else
   ((gX11_fieldAt u3).bind fun (r5 : Int32) =>
    (gX11_costOf r5 (u3 74 42) u3).bind fun (r6 : Int32) =>
    gX11_layGame_51 j6 v1 r6 v1 u3))
  else
  ((gX11_again u).bind fun (u2 : Mm) =>
   some u2)
def gX11_layGame_6_L : Nat → Int32 → Mm → Option Mm
  | 0 => fun _ _ => none
  | n + 1 => gX11_layGame_6_Ls (gX11_layGame_6_L n)
def gX11_layGame_b (u : Mm) : Option Mm :=
  (gX11_open u).bind fun (u1 : Mm) =>
  gX11_layGame_6_L FU 0 u1
def gX11_layGame (u : Mm) : Option Mm := gX11_layGame_b u
-- X11_greaterLoss: greaterLoss (I)I, depth 0
def gX11_greaterLoss_b (v1 : Int32) (u : Mm) : Option Int32 :=
  gd (ix (2 * v1) 6) <|
  gd (ix ((2 * v1) + 1) 6) <|
  if (u 97 (ixn ((2 * v1) + 1))) < (u 97 (ixn (2 * v1))) then
  (gd (ix (2 * v1) 6) <|
   some (u 97 (ixn (2 * v1))))
  else
  (gd (ix ((2 * v1) + 1) 6) <|
   some (u 97 (ixn ((2 * v1) + 1))))
def gX11_greaterLoss (v1 : Int32) (u : Mm) : Option Int32 := gX11_greaterLoss_b v1 u
-- X11_restingPair: restingPair ()I, depth 1
def gX11_restingPair_64 (j2 : Int32 → Option Int32) (j34 : Int32 → Int32 → Option Int32) (v1 : Int32) (v3 : Int32) (s0 : Int32) (u : Mm) : Option Int32 :=
  letv (v3 + 2) fun (v3_1 : Int32) =>
  j34 s0 v3_1
def gX11_restingPair_63 (j2 : Int32 → Option Int32) (j34 : Int32 → Int32 → Option Int32) (v1 : Int32) (v3 : Int32) (u : Mm) : Option Int32 :=
  gX11_restingPair_64 j2 j34 v1 v3 0 u
def gX11_restingPair_34_Ls (j2 : Int32 → Option Int32) (v1 : Int32) (u : Mm) (j34 : Int32 → Int32 → Option Int32) (v2 : Int32) (v3 : Int32) : Option Int32 :=
  if v3 < 6 then
  (if v2 = 0 then
   (gX11_restingPair_63 j2 j34 v1 v3 u)
   else
   (gd (ix v3 6) <|
    gd (ix v1 6) <|
    if (u 97 (ixn v3)) < (u 97 (ixn v1)) then
    (gX11_restingPair_63 j2 j34 v1 v3 u)
    else
    (gX11_restingPair_64 j2 j34 v1 v3 1 u)))
  else
  (if v2 = 0 then
   (letv (v1 + 1) fun (v1_3 : Int32) =>
    j2 v1_3)
   else
   (some v1))
def gX11_restingPair_34_L (j2 : Int32 → Option Int32) (v1 : Int32) (u : Mm) : Nat → Int32 → Int32 → Option Int32
  | 0 => fun _ _ => none
  | n + 1 => gX11_restingPair_34_Ls j2 v1 u (gX11_restingPair_34_L j2 v1 u n)
def gX11_restingPair_29 (j2 : Int32 → Option Int32) (v1 : Int32) (s0 : Int32) (u : Mm) : Option Int32 :=
  letv (irm v1 2) fun (v3_1 : Int32) =>
  gX11_restingPair_34_L j2 v1 u FU s0 v3_1
def gX11_restingPair_2_Ls (u : Mm) (j2 : Int32 → Option Int32) (v1 : Int32) : Option Int32 :=
  if v1 < 6 then
  (gd (ix v1 6) <|
   (gX11_greaterLoss (v1 / 2) u).bind fun (r3 : Int32) =>
   if (u 97 (ixn v1)) = r3 then
   (gX11_restingPair_29 j2 v1 1 u)
   else
   (gX11_restingPair_29 j2 v1 0 u))
  else
  (some (-9))
def gX11_restingPair_2_L (u : Mm) : Nat → Int32 → Option Int32
  | 0 => fun _ => none
  | n + 1 => gX11_restingPair_2_Ls u (gX11_restingPair_2_L u n)
def gX11_restingPair_b (u : Mm) : Option Int32 :=
  gX11_restingPair_2_L u FU 0
def gX11_restingPair (u : Mm) : Option Int32 := gX11_restingPair_b u
-- X11_game: game (I)I, depth 6
def gX11_game_113 (j87 : Int32 → Int32 → Mm → Option (Int32 × Mm)) (v4 : Int32) (s0 : Int32) (u : Mm) : Option (Int32 × Mm) :=
  letv (v4 + 1) fun (v4_1 : Int32) =>
  j87 s0 v4_1 u
def gX11_game_87_Ls (j87 : Int32 → Int32 → Mm → Option (Int32 × Mm)) (v3 : Int32) (v4 : Int32) (u : Mm) : Option (Int32 × Mm) :=
  if v4 < 3 then
  ((gX11_greaterLoss v4 u).bind fun (r2 : Int32) =>
   if r2 < v3 then
   ((gX11_greaterLoss v4 u).bind fun (r4 : Int32) =>
    gX11_game_113 j87 v4 r4 u)
   else
   (gX11_game_113 j87 v4 v3 u))
  else
  (some (v3, u))
def gX11_game_87_L : Nat → Int32 → Int32 → Mm → Option (Int32 × Mm)
  | 0 => fun _ _ _ => none
  | n + 1 => gX11_game_87_Ls (gX11_game_87_L n)
def gX11_game_b (v1 : Int32) (u : Mm) : Option (Int32 × Mm) :=
  letv (stm u 74 19 0) fun (u1 : Mm) =>
  (gX11_in v1.toInt64 0 2).bind fun (r2 : Int32) =>
  if r2 = 0 then
  (bI (gX11_refuse (-2) u1) fun (r13 : Int32) (u12 : Mm) =>
   some (r13, u12))
  else
  ((gX11_layGame u1).bind fun (u4 : Mm) =>
   (gX11_restingPair u4).bind fun (r5 : Int32) =>
   if v1 = 0 then
   (if r5 < 0 then
    (some ((-9), u4))
    else
    (some ((10 * (r5 / 2)) + (irm r5 2), u4)))
   else
   (if v1 = 1 then
    (if r5 < 0 then
     (some ((-9), u4))
     else
     (gd (ix r5 6) <|
      some (u4 97 (ixn r5), u4)))
    else
    ((gX11_greaterLoss 0 u4).bind fun (r8 : Int32) =>
     gX11_game_87_L FU r8 1 u4)))
def gX11_game (v1 : Int32) (u : Mm) : Option (Int32 × Mm) := gX11_game_b v1 u
-- X11_another: another (III)I, depth 5
def gX11_another_130 (v5 : Int32) (v7 : Int32) (v8 : Int32) (s0 : Int32) (u : Mm) : Option (Int32 × Mm) :=
  (gX11_plainly ((u 74 3) - v7)).bind fun (r1 : Int32) =>
  (gX11_plainly ((u 74 4) - v8)).bind fun (r2 : Int32) =>
  letv (r1 + r2) fun (v9_3 : Int32) =>
  (gX11_again u).bind fun (u4 : Mm) =>
  letv (stm u4 74 7 v5) fun (u5 : Mm) =>
  if s0 = 0 then
  (some ((-9), u5))
  else
  (some (v9_3, u5))
def gX11_another_129 (v5 : Int32) (v7 : Int32) (v8 : Int32) (u : Mm) : Option (Int32 × Mm) :=
  gX11_another_130 v5 v7 v8 0 u
def gX11_another_46 (v1 : Int32) (v2 : Int32) (v3 : Int32) (s0 : Int32) (u : Mm) : Option (Int32 × Mm) :=
  if s0 < 0 then
  (bI (gX11_refuse s0 u) fun (r15 : Int32) (u14 : Mm) =>
   some (r15, u14))
  else
  (letv (u 74 7) fun (v5_2 : Int32) =>
   (gX11_open u).bind fun (u3 : Mm) =>
   (gX11_planOn v1 v2 u3).bind fun (u4 : Mm) =>
   letv (u4 74 41) fun (v6_5 : Int32) =>
   letv (u4 74 3) fun (v7_6 : Int32) =>
   letv (u4 74 4) fun (v8_7 : Int32) =>
   (gX11_again u4).bind fun (u8 : Mm) =>
   letv (stm u8 74 7 v3) fun (u9 : Mm) =>
   (gX11_open u9).bind fun (u10 : Mm) =>
   (gX11_planOn v1 v2 u10).bind fun (u11 : Mm) =>
   if v6_5 = 0 then
   (gX11_another_129 v5_2 v7_6 v8_7 u11)
   else
   (if (u11 74 41) = 0 then
    (gX11_another_129 v5_2 v7_6 v8_7 u11)
    else
    (gX11_another_130 v5_2 v7_6 v8_7 1 u11)))
def gX11_another_18 (v1 : Int32) (v2 : Int32) (v3 : Int32) (u : Mm) : Option (Int32 × Mm) :=
  gX11_another_46 v1 v2 v3 (-4) u
def gX11_another_40 (v1 : Int32) (v2 : Int32) (v3 : Int32) (u : Mm) : Option (Int32 × Mm) :=
  gX11_another_46 v1 v2 v3 (-6) u
def gX11_another_b (v1 : Int32) (v2 : Int32) (v3 : Int32) (u : Mm) : Option (Int32 × Mm) :=
  letv (stm u 74 19 0) fun (u1 : Mm) =>
  if v1 < 0 then
  (gX11_another_18 v1 v2 v3 u1)
  else
  (if v2 < 0 then
   (gX11_another_18 v1 v2 v3 u1)
   else
   (if v3 < 1 then
    (gX11_another_18 v1 v2 v3 u1)
    else
    (if 30 < v1 then
     (gX11_another_40 v1 v2 v3 u1)
     else
     (if 5 < v2 then
      (gX11_another_40 v1 v2 v3 u1)
      else
      (if 6 < v3 then
       (gX11_another_40 v1 v2 v3 u1)
       else
       (gX11_another_46 v1 v2 v3 0 u1))))))
def gX11_another (v1 : Int32) (v2 : Int32) (v3 : Int32) (u : Mm) : Option (Int32 × Mm) := gX11_another_b v1 v2 v3 u
-- X11_placeNear: placeNear (I)I, depth 1
def gX11_placeNear_36 (j4 : Int32 → Int32 → Option Int32) (v1 : Int32) (v3 : Int32) (s0 : Int32) : Option Int32 :=
  letv (v3 + 1) fun (v3_1 : Int32) =>
  j4 s0 v3_1
def gX11_placeNear_4_Ls (v1 : Int32) (j4 : Int32 → Int32 → Option Int32) (v2 : Int32) (v3 : Int32) : Option Int32 :=
  if v3 < 8 then
  ((gX11_plainly ((100 * v3) - v1)).bind fun (r2 : Int32) =>
   (gX11_plainly ((100 * v2) - v1)).bind fun (r3 : Int32) =>
   if r2 < r3 then
   (gX11_placeNear_36 j4 v1 v3 v3)
   else
   (gX11_placeNear_36 j4 v1 v3 v2))
  else
  (some v2)
def gX11_placeNear_4_L (v1 : Int32) : Nat → Int32 → Int32 → Option Int32
  | 0 => fun _ _ => none
  | n + 1 => gX11_placeNear_4_Ls v1 (gX11_placeNear_4_L v1 n)
def gX11_placeNear_b (v1 : Int32) : Option Int32 :=
  gX11_placeNear_4_L v1 FU 0 1
def gX11_placeNear (v1 : Int32) : Option Int32 := gX11_placeNear_b v1
-- X11_chase: chase (III)I, depth 5
def gX11_chase_40 (v1 : Int32) (v2 : Int32) (v3 : Int32) (s0 : Int32) (u : Mm) : Option (Int32 × Mm) :=
  if s0 < 0 then
  (bI (gX11_refuse s0 u) fun (r15 : Int32) (u14 : Mm) =>
   some (r15, u14))
  else
  ((gX11_open u).bind fun (u2 : Mm) =>
   (gX11_planOn v1 v2 u2).bind fun (u3 : Mm) =>
   (gX11_placeNear (u3 74 3)).bind fun (r4 : Int32) =>
   (gX11_again u3).bind fun (u5 : Mm) =>
   (gX11_driveFrom (u5 74 18) u5).bind fun (u6 : Mm) =>
   if (u6 74 41) = 0 then
   (some ((-9), u6))
   else
   (gd (ix r4 8) <|
    if (u6 96 (ixn r4)) = 99999 then
    (some ((-9), u6))
    else
    (if v3 = 0 then
     (gd (ix r4 8) <|
      some (u6 96 (ixn r4), u6))
     else
     (gd (ix r4 8) <|
      if ((u6 74 43) / 6) < (u6 96 (ixn r4)) then
      (some (0, u6))
      else
      (some (1, u6))))))
def gX11_chase_13 (v1 : Int32) (v2 : Int32) (v3 : Int32) (u : Mm) : Option (Int32 × Mm) :=
  gX11_chase_40 v1 v2 v3 (-4) u
def gX11_chase_29 (v1 : Int32) (v2 : Int32) (v3 : Int32) (u : Mm) : Option (Int32 × Mm) :=
  gX11_chase_40 v1 v2 v3 (-6) u
def gX11_chase_b (v1 : Int32) (v2 : Int32) (v3 : Int32) (u : Mm) : Option (Int32 × Mm) :=
  letv (stm u 74 19 0) fun (u1 : Mm) =>
  if v1 < 0 then
  (gX11_chase_13 v1 v2 v3 u1)
  else
  (if v2 < 0 then
   (gX11_chase_13 v1 v2 v3 u1)
   else
   (if 30 < v1 then
    (gX11_chase_29 v1 v2 v3 u1)
    else
    (if 5 < v2 then
     (gX11_chase_29 v1 v2 v3 u1)
     else
     ((gX11_wrongBit 0 v3 1).bind fun (r6 : Int32) =>
      gX11_chase_40 v1 v2 v3 r6 u1))))
def gX11_chase (v1 : Int32) (v2 : Int32) (v3 : Int32) (u : Mm) : Option (Int32 × Mm) := gX11_chase_b v1 v2 v3 u
-- X11_layBetween: layBetween ()V, depth 1
def gX11_layBetween_15_Ls (j2 : Int32 → Mm → Option Mm) (v1 : Int32) (j15 : Int32 → Mm → Option Mm) (v2 : Int32) (u : Mm) : Option Mm :=
  if v2 < 8 then
  (gd (ix v2 8) <|
   gd (ix ((8 * v1) + v2) 64) <|
   letv (stm u 98 (ixn ((8 * v1) + v2)) (u 96 (ixn v2))) fun (u4 : Mm) =>
   letv (v2 + 1) fun (v2_6 : Int32) =>
   j15 v2_6 u4)
  else
  (letv (v1 + 1) fun (v1_2 : Int32) =>
   j2 v1_2 u)
def gX11_layBetween_15_L (j2 : Int32 → Mm → Option Mm) (v1 : Int32) : Nat → Int32 → Mm → Option Mm
  | 0 => fun _ _ => none
  | n + 1 => gX11_layBetween_15_Ls j2 v1 (gX11_layBetween_15_L j2 v1 n)
def gX11_layBetween_2_Ls (j2 : Int32 → Mm → Option Mm) (v1 : Int32) (u : Mm) : Option Mm :=
  if v1 < 8 then
  ((gX11_driveFrom v1 u).bind fun (u2 : Mm) =>
   gX11_layBetween_15_L j2 v1 FU 0 u2)
  else
  (some u)
def gX11_layBetween_2_L : Nat → Int32 → Mm → Option Mm
  | 0 => fun _ _ => none
  | n + 1 => gX11_layBetween_2_Ls (gX11_layBetween_2_L n)
def gX11_layBetween_b (u : Mm) : Option Mm :=
  gX11_layBetween_2_L FU 0 u
def gX11_layBetween (u : Mm) : Option Mm := gX11_layBetween_b u
-- X11_layTours: layTours ()V, depth 0
def gX11_layTours_131 (j2 : Int32 → Mm → Option Mm) (j11 : Int32 → Mm → Option Mm) (j32 : Int32 → Int32 → Mm → Option Mm) (v1 : Int32) (v2 : Int32) (v4 : Int32) (s0 : Int32) (u : Mm) : Option Mm :=
  letv (v4 + 1) fun (v4_1 : Int32) =>
  j32 s0 v4_1 u
def gX11_layTours_117 (j2 : Int32 → Mm → Option Mm) (j11 : Int32 → Mm → Option Mm) (j32 : Int32 → Int32 → Mm → Option Mm) (v1 : Int32) (v2 : Int32) (v3 : Int32) (v4 : Int32) (s0 : Int32) (u : Mm) : Option Mm :=
  if s0 < v3 then
  (gX11_layTours_131 j2 j11 j32 v1 v2 v4 s0 u)
  else
  (gX11_layTours_131 j2 j11 j32 v1 v2 v4 v3 u)
def gX11_layTours_72 (j2 : Int32 → Mm → Option Mm) (j11 : Int32 → Mm → Option Mm) (j32 : Int32 → Int32 → Mm → Option Mm) (v1 : Int32) (v2 : Int32) (v3 : Int32) (v4 : Int32) (s0 : Int32) (u : Mm) : Option Mm :=
  if s0 = 0 then
  (gX11_layTours_117 j2 j11 j32 v1 v2 v3 v4 99999 u)
  else
  (gd (ix ((8 * v2) + v4) 64) <|
   gd (ix ((8 * (v1 &&& ((shl 1 v4) ^^^ (-1)))) + v4) 2048) <|
   gX11_layTours_117 j2 j11 j32 v1 v2 v3 v4 ((u 98 (ixn ((8 * v2) + v4))) + (u 99 (ixn ((8 * (v1 &&& ((shl 1 v4) ^^^ (-1)))) + v4)))) u)
def gX11_layTours_71 (j2 : Int32 → Mm → Option Mm) (j11 : Int32 → Mm → Option Mm) (j32 : Int32 → Int32 → Mm → Option Mm) (v1 : Int32) (v2 : Int32) (v3 : Int32) (v4 : Int32) (u : Mm) : Option Mm :=
  gX11_layTours_72 j2 j11 j32 v1 v2 v3 v4 0 u
def gX11_layTours_32_Ls (j2 : Int32 → Mm → Option Mm) (j11 : Int32 → Mm → Option Mm) (v1 : Int32) (v2 : Int32) (j32 : Int32 → Int32 → Mm → Option Mm) (v3 : Int32) (v4 : Int32) (u : Mm) : Option Mm :=
  if v4 < 8 then
  (if ((shr v1 v4) &&& 1) = 1 then
   (gd (ix ((8 * v2) + v4) 64) <|
    if (u 98 (ixn ((8 * v2) + v4))) < 99999 then
    (gX11_layTours_72 j2 j11 j32 v1 v2 v3 v4 1 u)
    else
    (gX11_layTours_71 j2 j11 j32 v1 v2 v3 v4 u))
   else
   (gX11_layTours_71 j2 j11 j32 v1 v2 v3 v4 u))
  else
  (gd (ix ((8 * v1) + v2) 2048) <|
   letv (stm u 99 (ixn ((8 * v1) + v2)) v3) fun (u2 : Mm) =>
   letv (v2 + 1) fun (v2_4 : Int32) =>
   j11 v2_4 u2)
def gX11_layTours_32_L (j2 : Int32 → Mm → Option Mm) (j11 : Int32 → Mm → Option Mm) (v1 : Int32) (v2 : Int32) : Nat → Int32 → Int32 → Mm → Option Mm
  | 0 => fun _ _ _ => none
  | n + 1 => gX11_layTours_32_Ls j2 j11 v1 v2 (gX11_layTours_32_L j2 j11 v1 v2 n)
def gX11_layTours_28 (j2 : Int32 → Mm → Option Mm) (j11 : Int32 → Mm → Option Mm) (v1 : Int32) (v2 : Int32) (s0 : Int32) (u : Mm) : Option Mm :=
  gX11_layTours_32_L j2 j11 v1 v2 FU s0 0 u
def gX11_layTours_11_Ls (j2 : Int32 → Mm → Option Mm) (v1 : Int32) (j11 : Int32 → Mm → Option Mm) (v2 : Int32) (u : Mm) : Option Mm :=
  if v2 < 8 then
  (if v1 = 0 then
   (gX11_layTours_28 j2 j11 v1 v2 0 u)
   else
   (gX11_layTours_28 j2 j11 v1 v2 99999 u))
  else
  (letv (v1 + 1) fun (v1_2 : Int32) =>
   j2 v1_2 u)
def gX11_layTours_11_L (j2 : Int32 → Mm → Option Mm) (v1 : Int32) : Nat → Int32 → Mm → Option Mm
  | 0 => fun _ _ => none
  | n + 1 => gX11_layTours_11_Ls j2 v1 (gX11_layTours_11_L j2 v1 n)
def gX11_layTours_2_Ls (j2 : Int32 → Mm → Option Mm) (v1 : Int32) (u : Mm) : Option Mm :=
  if v1 < 256 then
  (gX11_layTours_11_L j2 v1 FU 0 u)
  else
  (some u)
def gX11_layTours_2_L : Nat → Int32 → Mm → Option Mm
  | 0 => fun _ _ => none
  | n + 1 => gX11_layTours_2_Ls (gX11_layTours_2_L n)
def gX11_layTours_b (u : Mm) : Option Mm :=
  gX11_layTours_2_L FU 0 u
def gX11_layTours (u : Mm) : Option Mm := gX11_layTours_b u
-- X11_tour: tour (II)I, depth 2
def gX11_tour_141 (j89 : Int32 → Mm → Option (Int32 × Mm)) (v4 : Int32) (v5 : Int32) (v6 : Int32) (s0 : Int32) (u : Mm) : Option (Int32 × Mm) :=
  if s0 = 0 then
  (letv (v6 + 1) fun (v6_2 : Int32) =>
   j89 v6_2 u)
  else
  (gd (ix ((8 * (u 74 18)) + v6) 64) <|
   gd (ix ((8 * (v4 &&& ((shl 1 v6) ^^^ (-1)))) + v6) 2048) <|
   if ((u 98 (ixn ((8 * (u 74 18)) + v6))) + (u 99 (ixn ((8 * (v4 &&& ((shl 1 v6) ^^^ (-1)))) + v6)))) = v5 then
   (some (v6, u))
   else
   (letv (v6 + 1) fun (v6_6 : Int32) =>
    j89 v6_6 u))
def gX11_tour_140 (j89 : Int32 → Mm → Option (Int32 × Mm)) (v4 : Int32) (v5 : Int32) (v6 : Int32) (u : Mm) : Option (Int32 × Mm) :=
  gX11_tour_141 j89 v4 v5 v6 0 u
def gX11_tour_89_Ls (v4 : Int32) (v5 : Int32) (j89 : Int32 → Mm → Option (Int32 × Mm)) (v6 : Int32) (u : Mm) : Option (Int32 × Mm) :=
  if v6 < 8 then
  (if v5 < 99999 then
   (if ((shr v4 v6) &&& 1) = 1 then
    (gd (ix ((8 * (u 74 18)) + v6) 64) <|
     if (u 98 (ixn ((8 * (u 74 18)) + v6))) < 99999 then
     (gX11_tour_141 j89 v4 v5 v6 1 u)
     else
     (gX11_tour_140 j89 v4 v5 v6 u))
    else
    (gX11_tour_140 j89 v4 v5 v6 u))
   else
   (some ((-9), u)))
  else
  (some ((-9), u))
def gX11_tour_89_L (v4 : Int32) (v5 : Int32) : Nat → Int32 → Mm → Option (Int32 × Mm)
  | 0 => fun _ _ => none
  | n + 1 => gX11_tour_89_Ls v4 v5 (gX11_tour_89_L v4 v5 n)
def gX11_tour_b (v1 : Int32) (v2 : Int32) (u : Mm) : Option (Int32 × Mm) :=
  letv (stm u 74 19 0) fun (u1 : Mm) =>
  (gX11_wrongNumber v1 0 255).bind fun (r2 : Int32) =>
  (gX11_wrongBit r2 v2 1).bind fun (r3 : Int32) =>
  if r3 < 0 then
  (bI (gX11_refuse r3 u1) fun (r13 : Int32) (u12 : Mm) =>
   some (r13, u12))
  else
  ((gX11_layBetween u1).bind fun (u5 : Mm) =>
   (gX11_layTours u5).bind fun (u6 : Mm) =>
   letv (v1 &&& ((shl 1 (u6 74 18)) ^^^ (-1))) fun (v4_7 : Int32) =>
   gd (ix ((8 * v4_7) + (u6 74 18)) 2048) <|
   letv (u6 99 (ixn ((8 * v4_7) + (u6 74 18)))) fun (v5_9 : Int32) =>
   if v2 = 0 then
   (if v5_9 < 99999 then
    (some (v5_9, u6))
    else
    (some ((-9), u6)))
   else
   (gX11_tour_89_L v4_7 v5_9 FU 0 u6))
def gX11_tour (v1 : Int32) (v2 : Int32) (u : Mm) : Option (Int32 × Mm) := gX11_tour_b v1 v2 u
-- X11_twoCars: twoCars (I)I, depth 2
def gX11_twoCars_68 (j26 : Int32 → Int32 → Mm → Option (Int32 × Mm)) (v1 : Int32) (v3 : Int32) (s0 : Int32) (s1 : Int32) (u : Mm) : Option (Int32 × Mm) :=
  letv (s1 ||| s0) fun (v2_1 : Int32) =>
  letv (v3 + 1) fun (v3_2 : Int32) =>
  j26 v2_1 v3_2 u
def gX11_twoCars_26_Ls (v1 : Int32) (j26 : Int32 → Int32 → Mm → Option (Int32 × Mm)) (v2 : Int32) (v3 : Int32) (u : Mm) : Option (Int32 × Mm) :=
  if v3 < 8 then
  (gd (ix ((8 * v1) + v3) 64) <|
   gd (ix ((8 * (u 74 18)) + v3) 64) <|
   if (u 98 (ixn ((8 * v1) + v3))) < (u 98 (ixn ((8 * (u 74 18)) + v3))) then
   (gX11_twoCars_68 j26 v1 v3 (shl 1 v3) v2 u)
   else
   (gX11_twoCars_68 j26 v1 v3 0 v2 u))
  else
  (some (v2, u))
def gX11_twoCars_26_L (v1 : Int32) : Nat → Int32 → Int32 → Mm → Option (Int32 × Mm)
  | 0 => fun _ _ _ => none
  | n + 1 => gX11_twoCars_26_Ls v1 (gX11_twoCars_26_L v1 n)
def gX11_twoCars_b (v1 : Int32) (u : Mm) : Option (Int32 × Mm) :=
  letv (stm u 74 19 0) fun (u1 : Mm) =>
  (gX11_isPlace v1).bind fun (r2 : Int32) =>
  if r2 = 0 then
  (bI (gX11_refuse (-1) u1) fun (r6 : Int32) (u5 : Mm) =>
   some (r6, u5))
  else
  ((gX11_layBetween u1).bind fun (u4 : Mm) =>
   gX11_twoCars_26_L v1 FU 0 0 u4)
def gX11_twoCars (v1 : Int32) (u : Mm) : Option (Int32 × Mm) := gX11_twoCars_b v1 u
-- X11_fitsLayer: fitsLayer (II)Z, depth 0
def gX11_fitsLayer_b (v1 : Int32) (v2 : Int32) (u : Mm) : Option Int32 :=
  gd (ix v2 8) <|
  gd (ix v1 12) <|
  if (u 75 (ixn v2)) = ((u 100 (ixn v1)) - 50) then
  (gd (ix v2 8) <|
   gd (ix (v1 + 1) 12) <|
   if (u 76 (ixn v2)) = (u 100 (ixn (v1 + 1))) then
   (some 1)
   else
   (some 0))
  else
  (some 0)
def gX11_fitsLayer (v1 : Int32) (v2 : Int32) (u : Mm) : Option Int32 := gX11_fitsLayer_b v1 v2 u
-- X11_track: track (I)I, depth 1
def gX11_track_99 (j56 : Int32 → Int32 → Int32 → Mm → Option (Int32 × Mm)) (j71 : Int32 → Int32 → Mm → Option (Int32 × Mm)) (v1 : Int32) (v3 : Int32) (v4 : Int32) (v5 : Int32) (v7 : Int32) (s0 : Int32) (s1 : Int32) (u : Mm) : Option (Int32 × Mm) :=
  letv (s1 ||| s0) fun (v6_1 : Int32) =>
  letv (v7 + 1) fun (v7_2 : Int32) =>
  j71 v6_1 v7_2 u
def gX11_track_132 (j56 : Int32 → Int32 → Int32 → Mm → Option (Int32 × Mm)) (v1 : Int32) (v3 : Int32) (v5 : Int32) (s0 : Int32) (u : Mm) : Option (Int32 × Mm) :=
  letv (v5 + 2) fun (v5_1 : Int32) =>
  j56 v3 s0 v5_1 u
def gX11_track_130 (j56 : Int32 → Int32 → Int32 → Mm → Option (Int32 × Mm)) (v1 : Int32) (v3 : Int32) (v4 : Int32) (v5 : Int32) (u : Mm) : Option (Int32 × Mm) :=
  gX11_track_132 j56 v1 v3 v5 v4 u
def gX11_track_71_Ls (j56 : Int32 → Int32 → Int32 → Mm → Option (Int32 × Mm)) (v1 : Int32) (v3 : Int32) (v4 : Int32) (v5 : Int32) (j71 : Int32 → Int32 → Mm → Option (Int32 × Mm)) (v6 : Int32) (v7 : Int32) (u : Mm) : Option (Int32 × Mm) :=
  if v7 < 8 then
  ((gX11_fitsLayer v5 v7 u).bind fun (r5 : Int32) =>
   if r5 = 0 then
   (gX11_track_99 j56 j71 v1 v3 v4 v5 v7 0 v6 u)
   else
   (gX11_track_99 j56 j71 v1 v3 v4 v5 v7 (shl 1 v7) v6 u))
  else
  (letv (v3 ||| v6) fun (v3_2 : Int32) =>
   if v4 < 0 then
   (if v6 = 0 then
    (gX11_track_132 j56 v1 v3_2 v5 (v5 / 2) u)
    else
    (gX11_track_130 j56 v1 v3_2 v4 v5 u))
   else
   (gX11_track_130 j56 v1 v3_2 v4 v5 u))
def gX11_track_71_L (j56 : Int32 → Int32 → Int32 → Mm → Option (Int32 × Mm)) (v1 : Int32) (v3 : Int32) (v4 : Int32) (v5 : Int32) : Nat → Int32 → Int32 → Mm → Option (Int32 × Mm)
  | 0 => fun _ _ _ => none
  | n + 1 => gX11_track_71_Ls j56 v1 v3 v4 v5 (gX11_track_71_L j56 v1 v3 v4 v5 n)
def gX11_track_56_Ls (v1 : Int32) (j56 : Int32 → Int32 → Int32 → Mm → Option (Int32 × Mm)) (v3 : Int32) (v4 : Int32) (v5 : Int32) (u : Mm) : Option (Int32 × Mm) :=
  if v5 < (u 74 58) then
  (gX11_track_71_L j56 v1 v3 v4 v5 FU 0 0 u)
  else
  (if v1 = 0 then
   (some (v3, u))
   else
   (some (v4, u)))
def gX11_track_56_L (v1 : Int32) : Nat → Int32 → Int32 → Int32 → Mm → Option (Int32 × Mm)
  | 0 => fun _ _ _ _ => none
  | n + 1 => gX11_track_56_Ls v1 (gX11_track_56_L v1 n)
def gX11_track_36 (v1 : Int32) (s0 : Int32) (u : Mm) : Option (Int32 × Mm) :=
  if s0 < 0 then
  (bI (gX11_refuse s0 u) fun (r3 : Int32) (u2 : Mm) =>
   some (r3, u2))
  else
  (gX11_track_56_L v1 FU 0 (-9) 0 u)
def gX11_track_b (v1 : Int32) (u : Mm) : Option (Int32 × Mm) :=
  letv (stm u 74 19 0) fun (u1 : Mm) =>
  (gX11_in v1.toInt64 0 1).bind fun (r2 : Int32) =>
  if r2 = 0 then
  (gX11_track_36 v1 (-2) u1)
  else
  (if (irm (u1 74 58) 2) = 1 then
   (gX11_track_36 v1 (-3) u1)
   else
   (gX11_track_36 v1 0 u1))
def gX11_track (v1 : Int32) (u : Mm) : Option (Int32 × Mm) := gX11_track_b v1 u
-- X11_row: row (I)I, depth 1
def gX11_row_31 (u : Mm) : Option (Int32 × Mm) :=
  bI (gX11_refuse (-6) u) fun (r2 : Int32) (u1 : Mm) =>
  some (r2, u1)
def gX11_row_b (v1 : Int32) (u : Mm) : Option (Int32 × Mm) :=
  letv (stm u 74 19 0) fun (u1 : Mm) =>
  if v1 < 0 then
  (bI (gX11_refuse (-4) u1) fun (r9 : Int32) (u8 : Mm) =>
   some (r9, u8))
  else
  (if 99 < v1 then
   (gX11_row_31 u1)
   else
   (if (u1 74 58) = 12 then
    (gX11_row_31 u1)
    else
    (gd (ix (u1 74 58) 12) <|
     letv (stm u1 100 (ixn (u1 74 58)) v1) fun (u5 : Mm) =>
     letv (stm u5 74 58 ((u5 74 58) + 1)) fun (u7 : Mm) =>
     some (u7 74 58, u7))))
def gX11_row (v1 : Int32) (u : Mm) : Option (Int32 × Mm) := gX11_row_b v1 u
-- X11_judge: judge ()I, depth 4
def gX11_judge_56 (j24 : Int32 → Int32 → Mm → Option (Int32 × Mm)) (v1 : Int32) (v3 : Int32) (s0 : Int32) (u : Mm) : Option (Int32 × Mm) :=
  letv (v3 + 1) fun (v3_1 : Int32) =>
  j24 s0 v3_1 u
def gX11_judge_63 (v2 : Int32) (u : Mm) : Option (Int32 × Mm) :=
  (gX11_again u).bind fun (u1 : Mm) =>
  some (v2, u1)
def gX11_judge_24_Ls (v1 : Int32) (j24 : Int32 → Int32 → Mm → Option (Int32 × Mm)) (v2 : Int32) (v3 : Int32) (u : Mm) : Option (Int32 × Mm) :=
  if v3 < v1 then
  (if v2 < 0 then
   ((gX11_holdOn u).bind fun (u3 : Mm) =>
    gd (ix v3 12) <|
    if (u3 74 2) = (u3 100 (ixn v3)) then
    (gX11_judge_56 j24 v1 v3 (-9) u3)
    else
    (gX11_judge_56 j24 v1 v3 v3 u3))
   else
   (gX11_judge_63 v2 u))
  else
  (gX11_judge_63 v2 u)
def gX11_judge_24_L (v1 : Int32) : Nat → Int32 → Int32 → Mm → Option (Int32 × Mm)
  | 0 => fun _ _ _ => none
  | n + 1 => gX11_judge_24_Ls v1 (gX11_judge_24_L v1 n)
def gX11_judge_b (u : Mm) : Option (Int32 × Mm) :=
  letv (stm u 74 19 0) fun (u1 : Mm) =>
  letv (u1 74 58) fun (v1_2 : Int32) =>
  letv (stm u1 74 58 0) fun (u3 : Mm) =>
  (gX11_open u3).bind fun (u4 : Mm) =>
  gX11_judge_24_L v1_2 FU (-9) 0 u4
def gX11_judge (u : Mm) : Option (Int32 × Mm) := gX11_judge_b u
-- X11_clear: clear ()I, depth 0
def gX11_clear_b (u : Mm) : Option (Int32 × Mm) :=
  letv (stm u 74 19 0) fun (u1 : Mm) =>
  letv (u1 74 58) fun (v1_2 : Int32) =>
  letv (stm u1 74 58 0) fun (u3 : Mm) =>
  some (v1_2, u3)
def gX11_clear (u : Mm) : Option (Int32 × Mm) := gX11_clear_b u
-- X11_lots: lots (III)I, depth 3
def gX11_lots_136 (j47 : Int32 → Int32 → Int32 → Int32 → Mm → Option (Int32 × Mm)) (j63 : Int32 → Int32 → Int32 → Mm → Option (Int32 × Mm)) (v1 : Int32) (v3 : Int32) (v5 : Int32) (v6 : Int32) (v7 : Int32) (v8 : Int32) (v10 : Int32) (s0 : Int32) (u : Mm) : Option (Int32 × Mm) :=
  letv (v10 + 1) fun (v10_1 : Int32) =>
  j63 v5 s0 v10_1 u
def gX11_lots_121 (j47 : Int32 → Int32 → Int32 → Int32 → Mm → Option (Int32 × Mm)) (j63 : Int32 → Int32 → Int32 → Mm → Option (Int32 × Mm)) (v1 : Int32) (v3 : Int32) (v5 : Int32) (v6 : Int32) (v7 : Int32) (v8 : Int32) (v10 : Int32) (s0 : Int32) (u : Mm) : Option (Int32 × Mm) :=
  (gX11_stepOn s0 u).bind fun (u1 : Mm) =>
  if (u1 74 2) = 0 then
  (gX11_lots_136 j47 j63 v1 v3 v5 v6 v7 v8 v10 1 u1)
  else
  (gX11_lots_136 j47 j63 v1 v3 v5 v6 v7 v8 v10 0 u1)
def gX11_lots_119 (j47 : Int32 → Int32 → Int32 → Int32 → Mm → Option (Int32 × Mm)) (j63 : Int32 → Int32 → Int32 → Mm → Option (Int32 × Mm)) (v1 : Int32) (v3 : Int32) (v5 : Int32) (v6 : Int32) (v7 : Int32) (v8 : Int32) (v10 : Int32) (v11 : Int32) (u : Mm) : Option (Int32 × Mm) :=
  gX11_lots_121 j47 j63 v1 v3 v5 v6 v7 v8 v10 v11 u
def gX11_lots_172 (j47 : Int32 → Int32 → Int32 → Int32 → Mm → Option (Int32 × Mm)) (v1 : Int32) (v3 : Int32) (v5 : Int32) (v7 : Int32) (v8 : Int32) (v10 : Int32) (s0 : Int32) (s1 : Int32) (u : Mm) : Option (Int32 × Mm) :=
  letv (s1 + s0) fun (v6_1 : Int32) =>
  (gX11_costOf v10 (u 74 21) u).bind fun (r2 : Int32) =>
  letv (v7 + r2) fun (v7_3 : Int32) =>
  letv (v8 + 1) fun (v8_4 : Int32) =>
  j47 v5 v6_1 v7_3 v8_4 u
def gX11_lots_158 (j47 : Int32 → Int32 → Int32 → Int32 → Mm → Option (Int32 × Mm)) (v1 : Int32) (v3 : Int32) (v5 : Int32) (v6 : Int32) (v7 : Int32) (v8 : Int32) (s0 : Int32) (u : Mm) : Option (Int32 × Mm) :=
  if s0 < 0 then
  (gX11_lots_172 j47 v1 v3 v5 v7 v8 s0 0 v6 u)
  else
  (gX11_lots_172 j47 v1 v3 v5 v7 v8 s0 1 v6 u)
def gX11_lots_144 (j47 : Int32 → Int32 → Int32 → Int32 → Mm → Option (Int32 × Mm)) (v1 : Int32) (v3 : Int32) (v5 : Int32) (v6 : Int32) (v7 : Int32) (v8 : Int32) (v9 : Int32) (u : Mm) : Option (Int32 × Mm) :=
  if v9 = 0 then
  (gX11_lots_158 j47 v1 v3 v5 v6 v7 v8 (-9) u)
  else
  ((gX11_fieldAt u).bind fun (r2 : Int32) =>
   gX11_lots_158 j47 v1 v3 v5 v6 v7 v8 r2 u)
def gX11_lots_63_Ls (j47 : Int32 → Int32 → Int32 → Int32 → Mm → Option (Int32 × Mm)) (v1 : Int32) (v3 : Int32) (v6 : Int32) (v7 : Int32) (v8 : Int32) (j63 : Int32 → Int32 → Int32 → Mm → Option (Int32 × Mm)) (v5 : Int32) (v9 : Int32) (v10 : Int32) (u : Mm) : Option (Int32 × Mm) :=
  if v10 < 40 then
  (if v9 = 0 then
   (letv ((v5 * 1103515245) + 12345) fun (v5_3 : Int32) =>
    letv (irm ((v5_3 &&& 2147483647) / 65536) 3) fun (v11_4 : Int32) =>
    if v11_4 = 1 then
    (if (u 74 6) = 0 then
     (gX11_lots_121 j47 j63 v1 v3 v5_3 v6 v7 v8 v10 0 u)
     else
     (gX11_lots_119 j47 j63 v1 v3 v5_3 v6 v7 v8 v10 v11_4 u))
    else
    (gX11_lots_119 j47 j63 v1 v3 v5_3 v6 v7 v8 v10 v11_4 u))
   else
   (gX11_lots_144 j47 v1 v3 v5 v6 v7 v8 v9 u))
  else
  (gX11_lots_144 j47 v1 v3 v5 v6 v7 v8 v9 u)
def gX11_lots_63_L (j47 : Int32 → Int32 → Int32 → Int32 → Mm → Option (Int32 × Mm)) (v1 : Int32) (v3 : Int32) (v6 : Int32) (v7 : Int32) (v8 : Int32) : Nat → Int32 → Int32 → Int32 → Mm → Option (Int32 × Mm)
  | 0 => fun _ _ _ _ => none
  | n + 1 => gX11_lots_63_Ls j47 v1 v3 v6 v7 v8 (gX11_lots_63_L j47 v1 v3 v6 v7 v8 n)
def gX11_lots_47_Ls (v1 : Int32) (v3 : Int32) (j47 : Int32 → Int32 → Int32 → Int32 → Mm → Option (Int32 × Mm)) (v5 : Int32) (v6 : Int32) (v7 : Int32) (v8 : Int32) (u : Mm) : Option (Int32 × Mm) :=
  if v8 < v1 then
  ((gX11_again u).bind fun (u4 : Mm) =>
   gX11_lots_63_L j47 v1 v3 v6 v7 v8 FU v5 0 0 u4)
  else
  ((gX11_again u).bind fun (u2 : Mm) =>
   if v3 = 0 then
   (some (v6, u2))
   else
   (some (v7, u2)))
def gX11_lots_47_L (v1 : Int32) (v3 : Int32) : Nat → Int32 → Int32 → Int32 → Int32 → Mm → Option (Int32 × Mm)
  | 0 => fun _ _ _ _ _ => none
  | n + 1 => gX11_lots_47_Ls v1 v3 (gX11_lots_47_L v1 v3 n)
def gX11_lots_b (v1 : Int32) (v2 : Int32) (v3 : Int32) (u : Mm) : Option (Int32 × Mm) :=
  letv (stm u 74 19 0) fun (u1 : Mm) =>
  (gX11_wrongNumber v1 1 20).bind fun (r2 : Int32) =>
  (gX11_wrongBit r2 v3 1).bind fun (r3 : Int32) =>
  if r3 < 0 then
  (bI (gX11_refuse r3 u1) fun (r7 : Int32) (u6 : Mm) =>
   some (r7, u6))
  else
  ((gX11_open u1).bind fun (u5 : Mm) =>
   gX11_lots_47_L v1 v3 FU v2 0 0 0 u5)
def gX11_lots (v1 : Int32) (v2 : Int32) (v3 : Int32) (u : Mm) : Option (Int32 × Mm) := gX11_lots_b v1 v2 v3 u
-- X11_count: count (I)I, depth 1
def gX11_count_161 (v1 : Int32) (u : Mm) : Option (Int32 × Mm) :=
  (gX11_in v1.toInt64 11 16).bind fun (r1 : Int32) =>
  if r1 = 0 then
  (some ((-9), u))
  else
  (gd (ix (v1 - 10) 7) <|
   some (u 84 (ixn (v1 - 10)), u))
def gX11_count_b (v1 : Int32) (u : Mm) : Option (Int32 × Mm) :=
  letv (stm u 74 19 0) fun (u1 : Mm) =>
  if v1 = 0 then
  (some (u1 74 11, u1))
  else if v1 = 1 then
  (some (u1 74 2, u1))
  else if v1 = 2 then
  (some (u1 74 3, u1))
  else if v1 = 3 then
  (some (u1 74 4, u1))
  else if v1 = 4 then
  (some (u1 74 5, u1))
  else if v1 = 5 then
  (some (u1 74 6, u1))
  else if v1 = 6 then
  (some (u1 74 7, u1))
  else if v1 = 7 then
  (some (u1 74 8, u1))
  else if v1 = 8 then
  (some (u1 74 9, u1))
  else if v1 = 9 then
  (some (u1 74 23, u1))
  else if v1 = 10 then
  (some (u1 74 58, u1))
  else if v1 = 11 then
  (gX11_count_161 v1 u1)
  else if v1 = 12 then
  (gX11_count_161 v1 u1)
  else if v1 = 13 then
  (gX11_count_161 v1 u1)
  else if v1 = 14 then
  (gX11_count_161 v1 u1)
  else if v1 = 15 then
  (gX11_count_161 v1 u1)
  else if v1 = 16 then
  (gX11_count_161 v1 u1)
  else if v1 = 17 then
  (some (u1 74 18, u1))
  else if v1 = 18 then
  (some (u1 74 40, u1))
  else 
  (gX11_count_161 v1 u1)
def gX11_count (v1 : Int32) (u : Mm) : Option (Int32 × Mm) := gX11_count_b v1 u
