abbrev vwCl : List vw_C := [(RJ0, TJ0, 2), (RJx00060, TJx00060, 6), (RX0, TX0, 3), (RX1, TX1, 4), (RX2, TX2, 9), (RX3, TX3, 4), (RX4, TX4, 10), (RX5, TX5, 7), (RX6, TX6, 29)]
/-- the state of both systems: row of cell k; an array's contents, an object's numbers by their fields -/
abbrev zS : Type := Nat → Nat → Int32
/-- one number written -/
def zs (σ : zS) (k j : Nat) (x : Int32) : zS := fun a => if a = k then upd (σ k) j x else σ a
def zw (cs : Nat → ClassId) (ad : Nat → Nat) (σ : zS) (tl : va_W) : va_W :=
  (ad 0, .inr (7, [.ref (ad 1), .ref (ad 2), .ref (ad 9), .ref (ad 13), .ref (ad 23), .ref (ad 27), .int (σ 0 6)])) ::
  (ad 1, .inl (cs 1, 8, .inl (σ 1))) ::
  (ad 2, .inr (4, [.ref (ad 3), .ref (ad 4), .ref (ad 5), .ref (ad 6), .ref (ad 7), .ref (ad 8), .int (σ 2 6), .int (σ 2 7), .int (σ 2 8)])) ::
  (ad 3, .inl (cs 0, 60, .inl (σ 3))) ::
  (ad 4, .inl (cs 1, 60, .inl (σ 4))) ::
  (ad 5, .inl (cs 2, 60, .inl (σ 5))) ::
  (ad 6, .inl (cs 2, 60, .inl (σ 6))) ::
  (ad 7, .inl (cs 1, 60, .inl (σ 7))) ::
  (ad 8, .inl (cs 1, 120, .inl (σ 8))) ::
  (ad 9, .inr (2, [.ref (ad 10), .ref (ad 11), .ref (ad 12)])) ::
  (ad 10, .inl (cs 1, 32, .inl (σ 10))) ::
  (ad 11, .inl (cs 1, 32, .inl (σ 11))) ::
  (ad 12, .inl (cs 1, 32, .inl (σ 12))) ::
  (ad 13, .inr (6, [.ref (ad 14), .ref (ad 15), .ref (ad 16), .ref (ad 17), .ref (ad 18), .ref (ad 19), .ref (ad 20), .ref (ad 21), .ref (ad 22), .int (σ 13 9)])) ::
  (ad 14, .inl (cs 1, 6, .inl (σ 14))) ::
  (ad 15, .inl (cs 1, 6, .inl (σ 15))) ::
  (ad 16, .inl (cs 1, 48, .inl (σ 16))) ::
  (ad 17, .inl (cs 1, 48, .inl (σ 17))) ::
  (ad 18, .inl (cs 1, 48, .inl (σ 18))) ::
  (ad 19, .inl (cs 1, 48, .inl (σ 19))) ::
  (ad 20, .inl (cs 1, 48, .inl (σ 20))) ::
  (ad 21, .inl (cs 1, 48, .inl (σ 21))) ::
  (ad 22, .inl (cs 1, 48, .inl (σ 22))) ::
  (ad 23, .inr (5, [.ref (ad 24), .ref (ad 25), .ref (ad 26), .int (σ 23 3)])) ::
  (ad 24, .inl (cs 1, 8, .inl (σ 24))) ::
  (ad 25, .inl (cs 1, 8, .inl (σ 25))) ::
  (ad 26, .inl (cs 2, 8, .inl (σ 26))) ::
  (ad 27, .inr (3, [.ref (ad 28), .int (σ 27 1), .int (σ 27 2), .int (σ 27 3)])) ::
  (ad 28, .inl (cs 1, 4, .inl (σ 28))) ::
  (ad 29, .inr (8, [.int (σ 29 0), .ref (ad 30), .ref (ad 31), .ref (ad 32), .ref (ad 33), .ref (ad 34), .ref (ad 35), .int (σ 29 7), .ref (ad 36), .ref (ad 37), .ref (ad 38), .ref (ad 39), .ref (ad 40), .ref (ad 41), .ref (ad 42), .ref (ad 43), .ref (ad 44), .ref (ad 45), .ref (ad 46), .ref (ad 47), .int (σ 29 20), .ref (ad 48), .ref (ad 49), .int (σ 29 23), .int (σ 29 24), .int (σ 29 25), .int (σ 29 26), .ref (ad 50), .int (σ 29 28)])) ::
  (ad 30, .inl (cs 1, 8, .inl (σ 30))) ::
  (ad 31, .inl (cs 0, 60, .inl (σ 31))) ::
  (ad 32, .inl (cs 2, 60, .inl (σ 32))) ::
  (ad 33, .inl (cs 1, 60, .inl (σ 33))) ::
  (ad 34, .inl (cs 1, 60, .inl (σ 34))) ::
  (ad 35, .inl (cs 2, 60, .inl (σ 35))) ::
  (ad 36, .inl (cs 1, 32, .inl (σ 36))) ::
  (ad 37, .inl (cs 1, 32, .inl (σ 37))) ::
  (ad 38, .inl (cs 1, 32, .inl (σ 38))) ::
  (ad 39, .inl (cs 1, 48, .inl (σ 39))) ::
  (ad 40, .inl (cs 1, 48, .inl (σ 40))) ::
  (ad 41, .inl (cs 1, 48, .inl (σ 41))) ::
  (ad 42, .inl (cs 1, 48, .inl (σ 42))) ::
  (ad 43, .inl (cs 1, 48, .inl (σ 43))) ::
  (ad 44, .inl (cs 1, 48, .inl (σ 44))) ::
  (ad 45, .inl (cs 1, 48, .inl (σ 45))) ::
  (ad 46, .inl (cs 1, 6, .inl (σ 46))) ::
  (ad 47, .inl (cs 1, 6, .inl (σ 47))) ::
  (ad 48, .inl (cs 1, 8, .inl (σ 48))) ::
  (ad 49, .inl (cs 1, 8, .inl (σ 49))) ::
  (ad 50, .inl (cs 1, 4, .inl (σ 50))) :: tl
theorem zg_0 (cs : Nat → ClassId) (ad : Nat → Nat) (σ : zS) (tl : va_W) : (zw cs ad σ tl)[0]? = some (ad 0, .inr (7, [.ref (ad 1), .ref (ad 2), .ref (ad 9), .ref (ad 13), .ref (ad 23), .ref (ad 27), .int (σ 0 6)])) := rfl
theorem zb_0_6 (cs : Nat → ClassId) (ad : Nat → Nat) (σ : zS) (tl : va_W) (x : Int32) : (zw cs ad σ tl).set 0 (ad 0, .inr (7, [.ref (ad 1), .ref (ad 2), .ref (ad 9), .ref (ad 13), .ref (ad 23), .ref (ad 27), .int (σ 0 6)].set 6 (.int x))) = zw cs ad (zs σ 0 6 x) tl := rfl
theorem zg_1 (cs : Nat → ClassId) (ad : Nat → Nat) (σ : zS) (tl : va_W) : (zw cs ad σ tl)[1]? = some (ad 1, .inl (cs 1, 8, .inl (σ 1))) := rfl
theorem zb_1 (cs : Nat → ClassId) (ad : Nat → Nat) (σ : zS) (tl : va_W) (j : Nat) (x : Int32) : (zw cs ad σ tl).set 1 (ad 1, .inl (cs 1, 8, .inl (upd (σ 1) j x))) = zw cs ad (zs σ 1 j x) tl := rfl
theorem zg_2 (cs : Nat → ClassId) (ad : Nat → Nat) (σ : zS) (tl : va_W) : (zw cs ad σ tl)[2]? = some (ad 2, .inr (4, [.ref (ad 3), .ref (ad 4), .ref (ad 5), .ref (ad 6), .ref (ad 7), .ref (ad 8), .int (σ 2 6), .int (σ 2 7), .int (σ 2 8)])) := rfl
theorem zb_2_6 (cs : Nat → ClassId) (ad : Nat → Nat) (σ : zS) (tl : va_W) (x : Int32) : (zw cs ad σ tl).set 2 (ad 2, .inr (4, [.ref (ad 3), .ref (ad 4), .ref (ad 5), .ref (ad 6), .ref (ad 7), .ref (ad 8), .int (σ 2 6), .int (σ 2 7), .int (σ 2 8)].set 6 (.int x))) = zw cs ad (zs σ 2 6 x) tl := rfl
theorem zb_2_7 (cs : Nat → ClassId) (ad : Nat → Nat) (σ : zS) (tl : va_W) (x : Int32) : (zw cs ad σ tl).set 2 (ad 2, .inr (4, [.ref (ad 3), .ref (ad 4), .ref (ad 5), .ref (ad 6), .ref (ad 7), .ref (ad 8), .int (σ 2 6), .int (σ 2 7), .int (σ 2 8)].set 7 (.int x))) = zw cs ad (zs σ 2 7 x) tl := rfl
theorem zb_2_8 (cs : Nat → ClassId) (ad : Nat → Nat) (σ : zS) (tl : va_W) (x : Int32) : (zw cs ad σ tl).set 2 (ad 2, .inr (4, [.ref (ad 3), .ref (ad 4), .ref (ad 5), .ref (ad 6), .ref (ad 7), .ref (ad 8), .int (σ 2 6), .int (σ 2 7), .int (σ 2 8)].set 8 (.int x))) = zw cs ad (zs σ 2 8 x) tl := rfl
theorem zg_3 (cs : Nat → ClassId) (ad : Nat → Nat) (σ : zS) (tl : va_W) : (zw cs ad σ tl)[3]? = some (ad 3, .inl (cs 0, 60, .inl (σ 3))) := rfl
theorem zb_3 (cs : Nat → ClassId) (ad : Nat → Nat) (σ : zS) (tl : va_W) (j : Nat) (x : Int32) : (zw cs ad σ tl).set 3 (ad 3, .inl (cs 0, 60, .inl (upd (σ 3) j x))) = zw cs ad (zs σ 3 j x) tl := rfl
theorem zg_4 (cs : Nat → ClassId) (ad : Nat → Nat) (σ : zS) (tl : va_W) : (zw cs ad σ tl)[4]? = some (ad 4, .inl (cs 1, 60, .inl (σ 4))) := rfl
theorem zb_4 (cs : Nat → ClassId) (ad : Nat → Nat) (σ : zS) (tl : va_W) (j : Nat) (x : Int32) : (zw cs ad σ tl).set 4 (ad 4, .inl (cs 1, 60, .inl (upd (σ 4) j x))) = zw cs ad (zs σ 4 j x) tl := rfl
theorem zg_5 (cs : Nat → ClassId) (ad : Nat → Nat) (σ : zS) (tl : va_W) : (zw cs ad σ tl)[5]? = some (ad 5, .inl (cs 2, 60, .inl (σ 5))) := rfl
theorem zb_5 (cs : Nat → ClassId) (ad : Nat → Nat) (σ : zS) (tl : va_W) (j : Nat) (x : Int32) : (zw cs ad σ tl).set 5 (ad 5, .inl (cs 2, 60, .inl (upd (σ 5) j x))) = zw cs ad (zs σ 5 j x) tl := rfl
theorem zg_6 (cs : Nat → ClassId) (ad : Nat → Nat) (σ : zS) (tl : va_W) : (zw cs ad σ tl)[6]? = some (ad 6, .inl (cs 2, 60, .inl (σ 6))) := rfl
theorem zb_6 (cs : Nat → ClassId) (ad : Nat → Nat) (σ : zS) (tl : va_W) (j : Nat) (x : Int32) : (zw cs ad σ tl).set 6 (ad 6, .inl (cs 2, 60, .inl (upd (σ 6) j x))) = zw cs ad (zs σ 6 j x) tl := rfl
theorem zg_7 (cs : Nat → ClassId) (ad : Nat → Nat) (σ : zS) (tl : va_W) : (zw cs ad σ tl)[7]? = some (ad 7, .inl (cs 1, 60, .inl (σ 7))) := rfl
theorem zb_7 (cs : Nat → ClassId) (ad : Nat → Nat) (σ : zS) (tl : va_W) (j : Nat) (x : Int32) : (zw cs ad σ tl).set 7 (ad 7, .inl (cs 1, 60, .inl (upd (σ 7) j x))) = zw cs ad (zs σ 7 j x) tl := rfl
theorem zg_8 (cs : Nat → ClassId) (ad : Nat → Nat) (σ : zS) (tl : va_W) : (zw cs ad σ tl)[8]? = some (ad 8, .inl (cs 1, 120, .inl (σ 8))) := rfl
theorem zb_8 (cs : Nat → ClassId) (ad : Nat → Nat) (σ : zS) (tl : va_W) (j : Nat) (x : Int32) : (zw cs ad σ tl).set 8 (ad 8, .inl (cs 1, 120, .inl (upd (σ 8) j x))) = zw cs ad (zs σ 8 j x) tl := rfl
theorem zg_9 (cs : Nat → ClassId) (ad : Nat → Nat) (σ : zS) (tl : va_W) : (zw cs ad σ tl)[9]? = some (ad 9, .inr (2, [.ref (ad 10), .ref (ad 11), .ref (ad 12)])) := rfl
theorem zg_10 (cs : Nat → ClassId) (ad : Nat → Nat) (σ : zS) (tl : va_W) : (zw cs ad σ tl)[10]? = some (ad 10, .inl (cs 1, 32, .inl (σ 10))) := rfl
theorem zb_10 (cs : Nat → ClassId) (ad : Nat → Nat) (σ : zS) (tl : va_W) (j : Nat) (x : Int32) : (zw cs ad σ tl).set 10 (ad 10, .inl (cs 1, 32, .inl (upd (σ 10) j x))) = zw cs ad (zs σ 10 j x) tl := rfl
theorem zg_11 (cs : Nat → ClassId) (ad : Nat → Nat) (σ : zS) (tl : va_W) : (zw cs ad σ tl)[11]? = some (ad 11, .inl (cs 1, 32, .inl (σ 11))) := rfl
theorem zb_11 (cs : Nat → ClassId) (ad : Nat → Nat) (σ : zS) (tl : va_W) (j : Nat) (x : Int32) : (zw cs ad σ tl).set 11 (ad 11, .inl (cs 1, 32, .inl (upd (σ 11) j x))) = zw cs ad (zs σ 11 j x) tl := rfl
theorem zg_12 (cs : Nat → ClassId) (ad : Nat → Nat) (σ : zS) (tl : va_W) : (zw cs ad σ tl)[12]? = some (ad 12, .inl (cs 1, 32, .inl (σ 12))) := rfl
theorem zb_12 (cs : Nat → ClassId) (ad : Nat → Nat) (σ : zS) (tl : va_W) (j : Nat) (x : Int32) : (zw cs ad σ tl).set 12 (ad 12, .inl (cs 1, 32, .inl (upd (σ 12) j x))) = zw cs ad (zs σ 12 j x) tl := rfl
theorem zg_13 (cs : Nat → ClassId) (ad : Nat → Nat) (σ : zS) (tl : va_W) : (zw cs ad σ tl)[13]? = some (ad 13, .inr (6, [.ref (ad 14), .ref (ad 15), .ref (ad 16), .ref (ad 17), .ref (ad 18), .ref (ad 19), .ref (ad 20), .ref (ad 21), .ref (ad 22), .int (σ 13 9)])) := rfl
theorem zb_13_9 (cs : Nat → ClassId) (ad : Nat → Nat) (σ : zS) (tl : va_W) (x : Int32) : (zw cs ad σ tl).set 13 (ad 13, .inr (6, [.ref (ad 14), .ref (ad 15), .ref (ad 16), .ref (ad 17), .ref (ad 18), .ref (ad 19), .ref (ad 20), .ref (ad 21), .ref (ad 22), .int (σ 13 9)].set 9 (.int x))) = zw cs ad (zs σ 13 9 x) tl := rfl
theorem zg_14 (cs : Nat → ClassId) (ad : Nat → Nat) (σ : zS) (tl : va_W) : (zw cs ad σ tl)[14]? = some (ad 14, .inl (cs 1, 6, .inl (σ 14))) := rfl
theorem zb_14 (cs : Nat → ClassId) (ad : Nat → Nat) (σ : zS) (tl : va_W) (j : Nat) (x : Int32) : (zw cs ad σ tl).set 14 (ad 14, .inl (cs 1, 6, .inl (upd (σ 14) j x))) = zw cs ad (zs σ 14 j x) tl := rfl
theorem zg_15 (cs : Nat → ClassId) (ad : Nat → Nat) (σ : zS) (tl : va_W) : (zw cs ad σ tl)[15]? = some (ad 15, .inl (cs 1, 6, .inl (σ 15))) := rfl
theorem zb_15 (cs : Nat → ClassId) (ad : Nat → Nat) (σ : zS) (tl : va_W) (j : Nat) (x : Int32) : (zw cs ad σ tl).set 15 (ad 15, .inl (cs 1, 6, .inl (upd (σ 15) j x))) = zw cs ad (zs σ 15 j x) tl := rfl
theorem zg_16 (cs : Nat → ClassId) (ad : Nat → Nat) (σ : zS) (tl : va_W) : (zw cs ad σ tl)[16]? = some (ad 16, .inl (cs 1, 48, .inl (σ 16))) := rfl
theorem zb_16 (cs : Nat → ClassId) (ad : Nat → Nat) (σ : zS) (tl : va_W) (j : Nat) (x : Int32) : (zw cs ad σ tl).set 16 (ad 16, .inl (cs 1, 48, .inl (upd (σ 16) j x))) = zw cs ad (zs σ 16 j x) tl := rfl
theorem zg_17 (cs : Nat → ClassId) (ad : Nat → Nat) (σ : zS) (tl : va_W) : (zw cs ad σ tl)[17]? = some (ad 17, .inl (cs 1, 48, .inl (σ 17))) := rfl
theorem zb_17 (cs : Nat → ClassId) (ad : Nat → Nat) (σ : zS) (tl : va_W) (j : Nat) (x : Int32) : (zw cs ad σ tl).set 17 (ad 17, .inl (cs 1, 48, .inl (upd (σ 17) j x))) = zw cs ad (zs σ 17 j x) tl := rfl
theorem zg_18 (cs : Nat → ClassId) (ad : Nat → Nat) (σ : zS) (tl : va_W) : (zw cs ad σ tl)[18]? = some (ad 18, .inl (cs 1, 48, .inl (σ 18))) := rfl
theorem zb_18 (cs : Nat → ClassId) (ad : Nat → Nat) (σ : zS) (tl : va_W) (j : Nat) (x : Int32) : (zw cs ad σ tl).set 18 (ad 18, .inl (cs 1, 48, .inl (upd (σ 18) j x))) = zw cs ad (zs σ 18 j x) tl := rfl
theorem zg_19 (cs : Nat → ClassId) (ad : Nat → Nat) (σ : zS) (tl : va_W) : (zw cs ad σ tl)[19]? = some (ad 19, .inl (cs 1, 48, .inl (σ 19))) := rfl
theorem zb_19 (cs : Nat → ClassId) (ad : Nat → Nat) (σ : zS) (tl : va_W) (j : Nat) (x : Int32) : (zw cs ad σ tl).set 19 (ad 19, .inl (cs 1, 48, .inl (upd (σ 19) j x))) = zw cs ad (zs σ 19 j x) tl := rfl
theorem zg_20 (cs : Nat → ClassId) (ad : Nat → Nat) (σ : zS) (tl : va_W) : (zw cs ad σ tl)[20]? = some (ad 20, .inl (cs 1, 48, .inl (σ 20))) := rfl
theorem zb_20 (cs : Nat → ClassId) (ad : Nat → Nat) (σ : zS) (tl : va_W) (j : Nat) (x : Int32) : (zw cs ad σ tl).set 20 (ad 20, .inl (cs 1, 48, .inl (upd (σ 20) j x))) = zw cs ad (zs σ 20 j x) tl := rfl
theorem zg_21 (cs : Nat → ClassId) (ad : Nat → Nat) (σ : zS) (tl : va_W) : (zw cs ad σ tl)[21]? = some (ad 21, .inl (cs 1, 48, .inl (σ 21))) := rfl
theorem zb_21 (cs : Nat → ClassId) (ad : Nat → Nat) (σ : zS) (tl : va_W) (j : Nat) (x : Int32) : (zw cs ad σ tl).set 21 (ad 21, .inl (cs 1, 48, .inl (upd (σ 21) j x))) = zw cs ad (zs σ 21 j x) tl := rfl
theorem zg_22 (cs : Nat → ClassId) (ad : Nat → Nat) (σ : zS) (tl : va_W) : (zw cs ad σ tl)[22]? = some (ad 22, .inl (cs 1, 48, .inl (σ 22))) := rfl
theorem zb_22 (cs : Nat → ClassId) (ad : Nat → Nat) (σ : zS) (tl : va_W) (j : Nat) (x : Int32) : (zw cs ad σ tl).set 22 (ad 22, .inl (cs 1, 48, .inl (upd (σ 22) j x))) = zw cs ad (zs σ 22 j x) tl := rfl
theorem zg_23 (cs : Nat → ClassId) (ad : Nat → Nat) (σ : zS) (tl : va_W) : (zw cs ad σ tl)[23]? = some (ad 23, .inr (5, [.ref (ad 24), .ref (ad 25), .ref (ad 26), .int (σ 23 3)])) := rfl
theorem zb_23_3 (cs : Nat → ClassId) (ad : Nat → Nat) (σ : zS) (tl : va_W) (x : Int32) : (zw cs ad σ tl).set 23 (ad 23, .inr (5, [.ref (ad 24), .ref (ad 25), .ref (ad 26), .int (σ 23 3)].set 3 (.int x))) = zw cs ad (zs σ 23 3 x) tl := rfl
theorem zg_24 (cs : Nat → ClassId) (ad : Nat → Nat) (σ : zS) (tl : va_W) : (zw cs ad σ tl)[24]? = some (ad 24, .inl (cs 1, 8, .inl (σ 24))) := rfl
theorem zb_24 (cs : Nat → ClassId) (ad : Nat → Nat) (σ : zS) (tl : va_W) (j : Nat) (x : Int32) : (zw cs ad σ tl).set 24 (ad 24, .inl (cs 1, 8, .inl (upd (σ 24) j x))) = zw cs ad (zs σ 24 j x) tl := rfl
theorem zg_25 (cs : Nat → ClassId) (ad : Nat → Nat) (σ : zS) (tl : va_W) : (zw cs ad σ tl)[25]? = some (ad 25, .inl (cs 1, 8, .inl (σ 25))) := rfl
theorem zb_25 (cs : Nat → ClassId) (ad : Nat → Nat) (σ : zS) (tl : va_W) (j : Nat) (x : Int32) : (zw cs ad σ tl).set 25 (ad 25, .inl (cs 1, 8, .inl (upd (σ 25) j x))) = zw cs ad (zs σ 25 j x) tl := rfl
theorem zg_26 (cs : Nat → ClassId) (ad : Nat → Nat) (σ : zS) (tl : va_W) : (zw cs ad σ tl)[26]? = some (ad 26, .inl (cs 2, 8, .inl (σ 26))) := rfl
theorem zb_26 (cs : Nat → ClassId) (ad : Nat → Nat) (σ : zS) (tl : va_W) (j : Nat) (x : Int32) : (zw cs ad σ tl).set 26 (ad 26, .inl (cs 2, 8, .inl (upd (σ 26) j x))) = zw cs ad (zs σ 26 j x) tl := rfl
theorem zg_27 (cs : Nat → ClassId) (ad : Nat → Nat) (σ : zS) (tl : va_W) : (zw cs ad σ tl)[27]? = some (ad 27, .inr (3, [.ref (ad 28), .int (σ 27 1), .int (σ 27 2), .int (σ 27 3)])) := rfl
theorem zb_27_1 (cs : Nat → ClassId) (ad : Nat → Nat) (σ : zS) (tl : va_W) (x : Int32) : (zw cs ad σ tl).set 27 (ad 27, .inr (3, [.ref (ad 28), .int (σ 27 1), .int (σ 27 2), .int (σ 27 3)].set 1 (.int x))) = zw cs ad (zs σ 27 1 x) tl := rfl
theorem zb_27_2 (cs : Nat → ClassId) (ad : Nat → Nat) (σ : zS) (tl : va_W) (x : Int32) : (zw cs ad σ tl).set 27 (ad 27, .inr (3, [.ref (ad 28), .int (σ 27 1), .int (σ 27 2), .int (σ 27 3)].set 2 (.int x))) = zw cs ad (zs σ 27 2 x) tl := rfl
theorem zb_27_3 (cs : Nat → ClassId) (ad : Nat → Nat) (σ : zS) (tl : va_W) (x : Int32) : (zw cs ad σ tl).set 27 (ad 27, .inr (3, [.ref (ad 28), .int (σ 27 1), .int (σ 27 2), .int (σ 27 3)].set 3 (.int x))) = zw cs ad (zs σ 27 3 x) tl := rfl
theorem zg_28 (cs : Nat → ClassId) (ad : Nat → Nat) (σ : zS) (tl : va_W) : (zw cs ad σ tl)[28]? = some (ad 28, .inl (cs 1, 4, .inl (σ 28))) := rfl
theorem zb_28 (cs : Nat → ClassId) (ad : Nat → Nat) (σ : zS) (tl : va_W) (j : Nat) (x : Int32) : (zw cs ad σ tl).set 28 (ad 28, .inl (cs 1, 4, .inl (upd (σ 28) j x))) = zw cs ad (zs σ 28 j x) tl := rfl
theorem zg_29 (cs : Nat → ClassId) (ad : Nat → Nat) (σ : zS) (tl : va_W) : (zw cs ad σ tl)[29]? = some (ad 29, .inr (8, [.int (σ 29 0), .ref (ad 30), .ref (ad 31), .ref (ad 32), .ref (ad 33), .ref (ad 34), .ref (ad 35), .int (σ 29 7), .ref (ad 36), .ref (ad 37), .ref (ad 38), .ref (ad 39), .ref (ad 40), .ref (ad 41), .ref (ad 42), .ref (ad 43), .ref (ad 44), .ref (ad 45), .ref (ad 46), .ref (ad 47), .int (σ 29 20), .ref (ad 48), .ref (ad 49), .int (σ 29 23), .int (σ 29 24), .int (σ 29 25), .int (σ 29 26), .ref (ad 50), .int (σ 29 28)])) := rfl
theorem zb_29_0 (cs : Nat → ClassId) (ad : Nat → Nat) (σ : zS) (tl : va_W) (x : Int32) : (zw cs ad σ tl).set 29 (ad 29, .inr (8, [.int (σ 29 0), .ref (ad 30), .ref (ad 31), .ref (ad 32), .ref (ad 33), .ref (ad 34), .ref (ad 35), .int (σ 29 7), .ref (ad 36), .ref (ad 37), .ref (ad 38), .ref (ad 39), .ref (ad 40), .ref (ad 41), .ref (ad 42), .ref (ad 43), .ref (ad 44), .ref (ad 45), .ref (ad 46), .ref (ad 47), .int (σ 29 20), .ref (ad 48), .ref (ad 49), .int (σ 29 23), .int (σ 29 24), .int (σ 29 25), .int (σ 29 26), .ref (ad 50), .int (σ 29 28)].set 0 (.int x))) = zw cs ad (zs σ 29 0 x) tl := rfl
theorem zb_29_7 (cs : Nat → ClassId) (ad : Nat → Nat) (σ : zS) (tl : va_W) (x : Int32) : (zw cs ad σ tl).set 29 (ad 29, .inr (8, [.int (σ 29 0), .ref (ad 30), .ref (ad 31), .ref (ad 32), .ref (ad 33), .ref (ad 34), .ref (ad 35), .int (σ 29 7), .ref (ad 36), .ref (ad 37), .ref (ad 38), .ref (ad 39), .ref (ad 40), .ref (ad 41), .ref (ad 42), .ref (ad 43), .ref (ad 44), .ref (ad 45), .ref (ad 46), .ref (ad 47), .int (σ 29 20), .ref (ad 48), .ref (ad 49), .int (σ 29 23), .int (σ 29 24), .int (σ 29 25), .int (σ 29 26), .ref (ad 50), .int (σ 29 28)].set 7 (.int x))) = zw cs ad (zs σ 29 7 x) tl := rfl
theorem zb_29_20 (cs : Nat → ClassId) (ad : Nat → Nat) (σ : zS) (tl : va_W) (x : Int32) : (zw cs ad σ tl).set 29 (ad 29, .inr (8, [.int (σ 29 0), .ref (ad 30), .ref (ad 31), .ref (ad 32), .ref (ad 33), .ref (ad 34), .ref (ad 35), .int (σ 29 7), .ref (ad 36), .ref (ad 37), .ref (ad 38), .ref (ad 39), .ref (ad 40), .ref (ad 41), .ref (ad 42), .ref (ad 43), .ref (ad 44), .ref (ad 45), .ref (ad 46), .ref (ad 47), .int (σ 29 20), .ref (ad 48), .ref (ad 49), .int (σ 29 23), .int (σ 29 24), .int (σ 29 25), .int (σ 29 26), .ref (ad 50), .int (σ 29 28)].set 20 (.int x))) = zw cs ad (zs σ 29 20 x) tl := rfl
theorem zb_29_23 (cs : Nat → ClassId) (ad : Nat → Nat) (σ : zS) (tl : va_W) (x : Int32) : (zw cs ad σ tl).set 29 (ad 29, .inr (8, [.int (σ 29 0), .ref (ad 30), .ref (ad 31), .ref (ad 32), .ref (ad 33), .ref (ad 34), .ref (ad 35), .int (σ 29 7), .ref (ad 36), .ref (ad 37), .ref (ad 38), .ref (ad 39), .ref (ad 40), .ref (ad 41), .ref (ad 42), .ref (ad 43), .ref (ad 44), .ref (ad 45), .ref (ad 46), .ref (ad 47), .int (σ 29 20), .ref (ad 48), .ref (ad 49), .int (σ 29 23), .int (σ 29 24), .int (σ 29 25), .int (σ 29 26), .ref (ad 50), .int (σ 29 28)].set 23 (.int x))) = zw cs ad (zs σ 29 23 x) tl := rfl
theorem zb_29_24 (cs : Nat → ClassId) (ad : Nat → Nat) (σ : zS) (tl : va_W) (x : Int32) : (zw cs ad σ tl).set 29 (ad 29, .inr (8, [.int (σ 29 0), .ref (ad 30), .ref (ad 31), .ref (ad 32), .ref (ad 33), .ref (ad 34), .ref (ad 35), .int (σ 29 7), .ref (ad 36), .ref (ad 37), .ref (ad 38), .ref (ad 39), .ref (ad 40), .ref (ad 41), .ref (ad 42), .ref (ad 43), .ref (ad 44), .ref (ad 45), .ref (ad 46), .ref (ad 47), .int (σ 29 20), .ref (ad 48), .ref (ad 49), .int (σ 29 23), .int (σ 29 24), .int (σ 29 25), .int (σ 29 26), .ref (ad 50), .int (σ 29 28)].set 24 (.int x))) = zw cs ad (zs σ 29 24 x) tl := rfl
theorem zb_29_25 (cs : Nat → ClassId) (ad : Nat → Nat) (σ : zS) (tl : va_W) (x : Int32) : (zw cs ad σ tl).set 29 (ad 29, .inr (8, [.int (σ 29 0), .ref (ad 30), .ref (ad 31), .ref (ad 32), .ref (ad 33), .ref (ad 34), .ref (ad 35), .int (σ 29 7), .ref (ad 36), .ref (ad 37), .ref (ad 38), .ref (ad 39), .ref (ad 40), .ref (ad 41), .ref (ad 42), .ref (ad 43), .ref (ad 44), .ref (ad 45), .ref (ad 46), .ref (ad 47), .int (σ 29 20), .ref (ad 48), .ref (ad 49), .int (σ 29 23), .int (σ 29 24), .int (σ 29 25), .int (σ 29 26), .ref (ad 50), .int (σ 29 28)].set 25 (.int x))) = zw cs ad (zs σ 29 25 x) tl := rfl
theorem zb_29_26 (cs : Nat → ClassId) (ad : Nat → Nat) (σ : zS) (tl : va_W) (x : Int32) : (zw cs ad σ tl).set 29 (ad 29, .inr (8, [.int (σ 29 0), .ref (ad 30), .ref (ad 31), .ref (ad 32), .ref (ad 33), .ref (ad 34), .ref (ad 35), .int (σ 29 7), .ref (ad 36), .ref (ad 37), .ref (ad 38), .ref (ad 39), .ref (ad 40), .ref (ad 41), .ref (ad 42), .ref (ad 43), .ref (ad 44), .ref (ad 45), .ref (ad 46), .ref (ad 47), .int (σ 29 20), .ref (ad 48), .ref (ad 49), .int (σ 29 23), .int (σ 29 24), .int (σ 29 25), .int (σ 29 26), .ref (ad 50), .int (σ 29 28)].set 26 (.int x))) = zw cs ad (zs σ 29 26 x) tl := rfl
theorem zb_29_28 (cs : Nat → ClassId) (ad : Nat → Nat) (σ : zS) (tl : va_W) (x : Int32) : (zw cs ad σ tl).set 29 (ad 29, .inr (8, [.int (σ 29 0), .ref (ad 30), .ref (ad 31), .ref (ad 32), .ref (ad 33), .ref (ad 34), .ref (ad 35), .int (σ 29 7), .ref (ad 36), .ref (ad 37), .ref (ad 38), .ref (ad 39), .ref (ad 40), .ref (ad 41), .ref (ad 42), .ref (ad 43), .ref (ad 44), .ref (ad 45), .ref (ad 46), .ref (ad 47), .int (σ 29 20), .ref (ad 48), .ref (ad 49), .int (σ 29 23), .int (σ 29 24), .int (σ 29 25), .int (σ 29 26), .ref (ad 50), .int (σ 29 28)].set 28 (.int x))) = zw cs ad (zs σ 29 28 x) tl := rfl
theorem zg_30 (cs : Nat → ClassId) (ad : Nat → Nat) (σ : zS) (tl : va_W) : (zw cs ad σ tl)[30]? = some (ad 30, .inl (cs 1, 8, .inl (σ 30))) := rfl
theorem zb_30 (cs : Nat → ClassId) (ad : Nat → Nat) (σ : zS) (tl : va_W) (j : Nat) (x : Int32) : (zw cs ad σ tl).set 30 (ad 30, .inl (cs 1, 8, .inl (upd (σ 30) j x))) = zw cs ad (zs σ 30 j x) tl := rfl
theorem zg_31 (cs : Nat → ClassId) (ad : Nat → Nat) (σ : zS) (tl : va_W) : (zw cs ad σ tl)[31]? = some (ad 31, .inl (cs 0, 60, .inl (σ 31))) := rfl
theorem zb_31 (cs : Nat → ClassId) (ad : Nat → Nat) (σ : zS) (tl : va_W) (j : Nat) (x : Int32) : (zw cs ad σ tl).set 31 (ad 31, .inl (cs 0, 60, .inl (upd (σ 31) j x))) = zw cs ad (zs σ 31 j x) tl := rfl
theorem zg_32 (cs : Nat → ClassId) (ad : Nat → Nat) (σ : zS) (tl : va_W) : (zw cs ad σ tl)[32]? = some (ad 32, .inl (cs 2, 60, .inl (σ 32))) := rfl
theorem zb_32 (cs : Nat → ClassId) (ad : Nat → Nat) (σ : zS) (tl : va_W) (j : Nat) (x : Int32) : (zw cs ad σ tl).set 32 (ad 32, .inl (cs 2, 60, .inl (upd (σ 32) j x))) = zw cs ad (zs σ 32 j x) tl := rfl
theorem zg_33 (cs : Nat → ClassId) (ad : Nat → Nat) (σ : zS) (tl : va_W) : (zw cs ad σ tl)[33]? = some (ad 33, .inl (cs 1, 60, .inl (σ 33))) := rfl
theorem zb_33 (cs : Nat → ClassId) (ad : Nat → Nat) (σ : zS) (tl : va_W) (j : Nat) (x : Int32) : (zw cs ad σ tl).set 33 (ad 33, .inl (cs 1, 60, .inl (upd (σ 33) j x))) = zw cs ad (zs σ 33 j x) tl := rfl
theorem zg_34 (cs : Nat → ClassId) (ad : Nat → Nat) (σ : zS) (tl : va_W) : (zw cs ad σ tl)[34]? = some (ad 34, .inl (cs 1, 60, .inl (σ 34))) := rfl
theorem zb_34 (cs : Nat → ClassId) (ad : Nat → Nat) (σ : zS) (tl : va_W) (j : Nat) (x : Int32) : (zw cs ad σ tl).set 34 (ad 34, .inl (cs 1, 60, .inl (upd (σ 34) j x))) = zw cs ad (zs σ 34 j x) tl := rfl
theorem zg_35 (cs : Nat → ClassId) (ad : Nat → Nat) (σ : zS) (tl : va_W) : (zw cs ad σ tl)[35]? = some (ad 35, .inl (cs 2, 60, .inl (σ 35))) := rfl
theorem zb_35 (cs : Nat → ClassId) (ad : Nat → Nat) (σ : zS) (tl : va_W) (j : Nat) (x : Int32) : (zw cs ad σ tl).set 35 (ad 35, .inl (cs 2, 60, .inl (upd (σ 35) j x))) = zw cs ad (zs σ 35 j x) tl := rfl
theorem zg_36 (cs : Nat → ClassId) (ad : Nat → Nat) (σ : zS) (tl : va_W) : (zw cs ad σ tl)[36]? = some (ad 36, .inl (cs 1, 32, .inl (σ 36))) := rfl
theorem zb_36 (cs : Nat → ClassId) (ad : Nat → Nat) (σ : zS) (tl : va_W) (j : Nat) (x : Int32) : (zw cs ad σ tl).set 36 (ad 36, .inl (cs 1, 32, .inl (upd (σ 36) j x))) = zw cs ad (zs σ 36 j x) tl := rfl
theorem zg_37 (cs : Nat → ClassId) (ad : Nat → Nat) (σ : zS) (tl : va_W) : (zw cs ad σ tl)[37]? = some (ad 37, .inl (cs 1, 32, .inl (σ 37))) := rfl
theorem zb_37 (cs : Nat → ClassId) (ad : Nat → Nat) (σ : zS) (tl : va_W) (j : Nat) (x : Int32) : (zw cs ad σ tl).set 37 (ad 37, .inl (cs 1, 32, .inl (upd (σ 37) j x))) = zw cs ad (zs σ 37 j x) tl := rfl
theorem zg_38 (cs : Nat → ClassId) (ad : Nat → Nat) (σ : zS) (tl : va_W) : (zw cs ad σ tl)[38]? = some (ad 38, .inl (cs 1, 32, .inl (σ 38))) := rfl
theorem zb_38 (cs : Nat → ClassId) (ad : Nat → Nat) (σ : zS) (tl : va_W) (j : Nat) (x : Int32) : (zw cs ad σ tl).set 38 (ad 38, .inl (cs 1, 32, .inl (upd (σ 38) j x))) = zw cs ad (zs σ 38 j x) tl := rfl
theorem zg_39 (cs : Nat → ClassId) (ad : Nat → Nat) (σ : zS) (tl : va_W) : (zw cs ad σ tl)[39]? = some (ad 39, .inl (cs 1, 48, .inl (σ 39))) := rfl
theorem zb_39 (cs : Nat → ClassId) (ad : Nat → Nat) (σ : zS) (tl : va_W) (j : Nat) (x : Int32) : (zw cs ad σ tl).set 39 (ad 39, .inl (cs 1, 48, .inl (upd (σ 39) j x))) = zw cs ad (zs σ 39 j x) tl := rfl
theorem zg_40 (cs : Nat → ClassId) (ad : Nat → Nat) (σ : zS) (tl : va_W) : (zw cs ad σ tl)[40]? = some (ad 40, .inl (cs 1, 48, .inl (σ 40))) := rfl
theorem zb_40 (cs : Nat → ClassId) (ad : Nat → Nat) (σ : zS) (tl : va_W) (j : Nat) (x : Int32) : (zw cs ad σ tl).set 40 (ad 40, .inl (cs 1, 48, .inl (upd (σ 40) j x))) = zw cs ad (zs σ 40 j x) tl := rfl
theorem zg_41 (cs : Nat → ClassId) (ad : Nat → Nat) (σ : zS) (tl : va_W) : (zw cs ad σ tl)[41]? = some (ad 41, .inl (cs 1, 48, .inl (σ 41))) := rfl
theorem zb_41 (cs : Nat → ClassId) (ad : Nat → Nat) (σ : zS) (tl : va_W) (j : Nat) (x : Int32) : (zw cs ad σ tl).set 41 (ad 41, .inl (cs 1, 48, .inl (upd (σ 41) j x))) = zw cs ad (zs σ 41 j x) tl := rfl
theorem zg_42 (cs : Nat → ClassId) (ad : Nat → Nat) (σ : zS) (tl : va_W) : (zw cs ad σ tl)[42]? = some (ad 42, .inl (cs 1, 48, .inl (σ 42))) := rfl
theorem zb_42 (cs : Nat → ClassId) (ad : Nat → Nat) (σ : zS) (tl : va_W) (j : Nat) (x : Int32) : (zw cs ad σ tl).set 42 (ad 42, .inl (cs 1, 48, .inl (upd (σ 42) j x))) = zw cs ad (zs σ 42 j x) tl := rfl
theorem zg_43 (cs : Nat → ClassId) (ad : Nat → Nat) (σ : zS) (tl : va_W) : (zw cs ad σ tl)[43]? = some (ad 43, .inl (cs 1, 48, .inl (σ 43))) := rfl
theorem zb_43 (cs : Nat → ClassId) (ad : Nat → Nat) (σ : zS) (tl : va_W) (j : Nat) (x : Int32) : (zw cs ad σ tl).set 43 (ad 43, .inl (cs 1, 48, .inl (upd (σ 43) j x))) = zw cs ad (zs σ 43 j x) tl := rfl
theorem zg_44 (cs : Nat → ClassId) (ad : Nat → Nat) (σ : zS) (tl : va_W) : (zw cs ad σ tl)[44]? = some (ad 44, .inl (cs 1, 48, .inl (σ 44))) := rfl
theorem zb_44 (cs : Nat → ClassId) (ad : Nat → Nat) (σ : zS) (tl : va_W) (j : Nat) (x : Int32) : (zw cs ad σ tl).set 44 (ad 44, .inl (cs 1, 48, .inl (upd (σ 44) j x))) = zw cs ad (zs σ 44 j x) tl := rfl
theorem zg_45 (cs : Nat → ClassId) (ad : Nat → Nat) (σ : zS) (tl : va_W) : (zw cs ad σ tl)[45]? = some (ad 45, .inl (cs 1, 48, .inl (σ 45))) := rfl
theorem zb_45 (cs : Nat → ClassId) (ad : Nat → Nat) (σ : zS) (tl : va_W) (j : Nat) (x : Int32) : (zw cs ad σ tl).set 45 (ad 45, .inl (cs 1, 48, .inl (upd (σ 45) j x))) = zw cs ad (zs σ 45 j x) tl := rfl
theorem zg_46 (cs : Nat → ClassId) (ad : Nat → Nat) (σ : zS) (tl : va_W) : (zw cs ad σ tl)[46]? = some (ad 46, .inl (cs 1, 6, .inl (σ 46))) := rfl
theorem zb_46 (cs : Nat → ClassId) (ad : Nat → Nat) (σ : zS) (tl : va_W) (j : Nat) (x : Int32) : (zw cs ad σ tl).set 46 (ad 46, .inl (cs 1, 6, .inl (upd (σ 46) j x))) = zw cs ad (zs σ 46 j x) tl := rfl
theorem zg_47 (cs : Nat → ClassId) (ad : Nat → Nat) (σ : zS) (tl : va_W) : (zw cs ad σ tl)[47]? = some (ad 47, .inl (cs 1, 6, .inl (σ 47))) := rfl
theorem zb_47 (cs : Nat → ClassId) (ad : Nat → Nat) (σ : zS) (tl : va_W) (j : Nat) (x : Int32) : (zw cs ad σ tl).set 47 (ad 47, .inl (cs 1, 6, .inl (upd (σ 47) j x))) = zw cs ad (zs σ 47 j x) tl := rfl
theorem zg_48 (cs : Nat → ClassId) (ad : Nat → Nat) (σ : zS) (tl : va_W) : (zw cs ad σ tl)[48]? = some (ad 48, .inl (cs 1, 8, .inl (σ 48))) := rfl
theorem zb_48 (cs : Nat → ClassId) (ad : Nat → Nat) (σ : zS) (tl : va_W) (j : Nat) (x : Int32) : (zw cs ad σ tl).set 48 (ad 48, .inl (cs 1, 8, .inl (upd (σ 48) j x))) = zw cs ad (zs σ 48 j x) tl := rfl
theorem zg_49 (cs : Nat → ClassId) (ad : Nat → Nat) (σ : zS) (tl : va_W) : (zw cs ad σ tl)[49]? = some (ad 49, .inl (cs 1, 8, .inl (σ 49))) := rfl
theorem zb_49 (cs : Nat → ClassId) (ad : Nat → Nat) (σ : zS) (tl : va_W) (j : Nat) (x : Int32) : (zw cs ad σ tl).set 49 (ad 49, .inl (cs 1, 8, .inl (upd (σ 49) j x))) = zw cs ad (zs σ 49 j x) tl := rfl
theorem zg_50 (cs : Nat → ClassId) (ad : Nat → Nat) (σ : zS) (tl : va_W) : (zw cs ad σ tl)[50]? = some (ad 50, .inl (cs 1, 4, .inl (σ 50))) := rfl
theorem zb_50 (cs : Nat → ClassId) (ad : Nat → Nat) (σ : zS) (tl : va_W) (j : Nat) (x : Int32) : (zw cs ad σ tl).set 50 (ad 50, .inl (cs 1, 4, .inl (upd (σ 50) j x))) = zw cs ad (zs σ 50 j x) tl := rfl
/-- the texts of the class -/
def zStr : List (Nat × String) := [(406, "no such unit"), (408, "no such kind of alarm"), (410, "no such priority"), (73, "the alarm is active"), (380, "there are 60 lines"), (387, "the alarm is not active"), (107, "no such number of hours"), (114, "the alarm is shelved"), (127, "no alarm is active and not shelved"), (134, "there are 6 procedures"), (392, "no such procedure"), (412, "no such state"), (149, "the procedure has 8 steps"), (173, "all steps of the procedure are done"), (184, "no open permit bars the step"), (186, "the next step cannot be taken"), (203, "no step is done"), (399, "no crew is on duty, or a hand-over goes on"), (210, "the unit was set since, or a permit bars the step"), (228, "there are no steps"), (230, "no such set of units"), (233, "there are 8 permits"), (238, "an open permit has one of the units, or the crew is tired"), (397, "no such permit"), (248, "the permit is closed"), (385, "no such line"), (260, "the line is not of a note"), (263, "the line is closed"), (417, "no such crew"), (274, "a crew is on duty"), (279, "the crew is on duty"), (284, "the crew is not rested"), (404, "no hand-over goes on"), (298, "the line is closed, or it is acknowledged"), (306, "an open line is not acknowledged"), (320, "no crew is on duty"), (330, "no such open line"), (341, "there are no lines"), (344, "there are no open lines")]
/-- words that are no good words -/
def zNws : List Cond := [.methodLinkNest RX1 25 yX5_isCrew "HandoverDeck", .methodLinkNest RX4 47 yX5_stepPlace "HandoverDeck", .methodLinkNest RX4 70 yX5_stepNumber "HandoverDeck", .castable "java/lang/IndexOutOfBoundsException" "java/lang/IndexOutOfBoundsException", .castable "java/lang/IllegalArgumentException" "java/lang/IllegalArgumentException", .castable "java/lang/IllegalStateException" "java/lang/IllegalStateException", .castable "java/util/NoSuchElementException" "java/util/NoSuchElementException", .castable "java/lang/UnsupportedOperationException" "java/lang/UnsupportedOperationException", .castable "java/lang/ArithmeticException" "java/lang/ArithmeticException", .declares (Bundle.initS "java/lang/RuntimeException"), .declares (Bundle.initS "java/lang/Exception"), .declares (Bundle.initS Bundle.tN), .methodLinkNest RX5 15 yX2_init "HandoverDeck", .methodLinkNest RX5 22 yX0_init "HandoverDeck", .methodLinkNest RX5 29 yX4_init "HandoverDeck", .methodLinkNest RX5 36 yX3_init "HandoverDeck", .methodLinkNest RX5 43 yX1_init "HandoverDeck"]
def zNcs : List (String × String) := [("java/lang/IllegalArgumentException", "java/lang/IndexOutOfBoundsException"), ("java/lang/IllegalStateException", "java/lang/IndexOutOfBoundsException"), ("java/lang/IllegalStateException", "java/lang/IllegalArgumentException"), ("java/util/NoSuchElementException", "java/lang/IndexOutOfBoundsException"), ("java/lang/IllegalArgumentException", "java/util/NoSuchElementException"), ("java/lang/IllegalStateException", "java/util/NoSuchElementException"), ("java/lang/IndexOutOfBoundsException", "java/util/NoSuchElementException"), ("java/lang/UnsupportedOperationException", "java/util/NoSuchElementException"), ("java/lang/UnsupportedOperationException", "java/lang/IllegalStateException"), ("java/lang/UnsupportedOperationException", "java/lang/IllegalArgumentException"), ("java/lang/IllegalStateException", "java/lang/UnsupportedOperationException")]
def zen : Nat → String := fun k => match k with
  | 1 => "java/lang/IndexOutOfBoundsException"
  | 2 => "java/lang/IllegalArgumentException"
  | 3 => "java/lang/IllegalStateException"
  | 4 => "java/util/NoSuchElementException"
  | 5 => "java/lang/UnsupportedOperationException"
  | _ => "java/lang/ArithmeticException"
abbrev ztys (cs : Nat → ClassId) : List (ClassId × FieldType) := [(cs 0, .char), (cs 1, .int), (cs 2, .boolean), (cs 3, .long), (cs 4, .double)]
/-- what stays: tables, texts, the statics that a throw reads, none of them among A -/
def zE (G : va_G) (cs : Nat → ClassId) (A : Nat → Prop) (U : State) (H : Heap) : Prop := va_K G vwCl (ztys cs) U ∧ (∀ w ∈ zNws, va_Nw w U) ∧ (∀ q ∈ zStr, ∃ sa, vk_R RX5 q.1 q.2 sa U) ∧ vx_Zq Bundle.tN "UNASSIGNED_STACK" Bundle.steD A U H ∧ vx_Zq Bundle.tN "SUPPRESSED_SENTINEL" Bundle.listD A U H ∧ ∀ q ∈ zNcs, va_Nc q.1 q.2 U
def zPre (G : va_G) (cs : Nat → ClassId) (sz : Nat) (w0 : va_W) (U : State) : Prop := U.heap.size = sz ∧ va_P G vwCl w0 U.heap ∧ va_D (fun _ => True) w0 ∧ zE G cs (va_A w0 sz) U U.heap
def zPo (G : va_G) (A : Nat → Prop) (w1 : va_W) (t : State) : Prop := va_P G vwCl w1 t.heap ∧ va_D A w1
/-- CONTRACTS: an int comes back; nothing; either throws by the number k, which is 0 where it returns -/
def zMi (l : Launch) (y : MethodName) (ws : List Cond) (rm : Room) (G : va_G) (cs : Nat → ClassId) (As : List Value) (w0 : va_W) (v : Int32) (w1 : va_W) (mc ms : Nat) : Prop :=
  ∀ sz : Nat, Met l y ws rm (va_Pc As (zPre G cs sz w0)) (va_Qi (fun (r : Int32) (_ : Unit) => r = v) (fun _ t => zPo G (va_A w0 sz) w1 t) (va_A w0 sz)) mc ms (va_A w0 sz)
def zMv (l : Launch) (y : MethodName) (ws : List Cond) (rm : Room) (G : va_G) (cs : Nat → ClassId) (As : List Value) (w0 w1 : va_W) (mc ms : Nat) : Prop :=
  ∀ sz : Nat, Met l y ws rm (va_Pc As (zPre G cs sz w0)) (va_Qv (fun (_ : Unit) => True) (fun _ t => zPo G (va_A w0 sz) w1 t) (va_A w0 sz)) mc ms (va_A w0 sz)
def zXi (l : Launch) (y : MethodName) (ws : List Cond) (rm : Room) (G : va_G) (cs : Nat → ClassId) (As : List Value) (w0 : va_W) (k : Nat) (v : Int32) (w1 : va_W) (mc ms : Nat) : Prop :=
  ∀ sz : Nat, vx_Met l y ws rm (va_Pc As (zPre G cs sz w0)) (va_Qi (fun (r : Int32) (_ : Unit) => k = 0 ∧ r = v) (fun _ t => zPo G (va_A w0 sz) w1 t) (va_A w0 sz)) (vx_X (fun (_ : Unit) => ¬ k = 0) (fun E _ t => E = zen k ∧ zPo G (va_A w0 sz) w1 t) (va_A w0 sz)) mc ms (va_A w0 sz)
def zXv (l : Launch) (y : MethodName) (ws : List Cond) (rm : Room) (G : va_G) (cs : Nat → ClassId) (As : List Value) (w0 : va_W) (k : Nat) (w1 : va_W) (mc ms : Nat) : Prop :=
  ∀ sz : Nat, vx_Met l y ws rm (va_Pc As (zPre G cs sz w0)) (va_Qv (fun (_ : Unit) => k = 0) (fun _ t => zPo G (va_A w0 sz) w1 t) (va_A w0 sz)) (vx_X (fun (_ : Unit) => ¬ k = 0) (fun E _ t => E = zen k ∧ zPo G (va_A w0 sz) w1 t) (va_A w0 sz)) mc ms (va_A w0 sz)
theorem zNw_warm {s U : State} (hW : s.WarmedH U.vm) (h : ∀ w ∈ zNws, va_Nw w s) : ∀ w ∈ zNws, va_Nw w U := by
  intro w hw
  have h1 := h w hw
  simp only [zNws, List.mem_cons, List.not_mem_nil, or_false] at hw
  rcases hw with rfl | rfl | rfl | rfl | rfl | rfl | rfl | rfl | rfl | rfl | rfl | rfl | rfl | rfl | rfl | rfl | rfl <;> first | exact va_Nw.warmM hW h1 | exact va_Nw.warmC hW h1 | exact va_tabs rfl (rfl : (s.setVm U.vm).vm = U.vm) (by rw [Cond.declares_setVm hW.alike]; exact h1)
/-- seen from a callee's start: later heap, warmer tables, fewer addresses -/
theorem zE.call {G : va_G} {cs : Nat → ClassId} {A B : Nat → Prop} {s U : State} {H : Heap} {locs : List Loc} (h : zE G cs A s s.heap) (hS : va_S A s.heap H locs) (hAB : ∀ q, B q → A q) (hU : U.heap = H) (hW : s.WarmedH U.vm) : zE G cs B U U.heap := by
  obtain ⟨h1, h2, h3, h4, h5, h6⟩ := h
  rw [hU]
  refine ⟨va_K.moved hW.alike h1, zNw_warm hW h2, fun q hq => ?_, (vx_Zq.moved hW.alike (h4.kept hS.2.1)).narrow hAB, (vx_Zq.moved hW.alike (h5.kept hS.2.1)).narrow hAB, fun q hq => va_Nc.moved hW.alike (h6 q hq)⟩
  obtain ⟨sa, hsa⟩ := h3 q hq
  exact ⟨sa, hsa.warm hW⟩
theorem zE.narrow {G : va_G} {cs : Nat → ClassId} {A B : Nat → Prop} {s : State} {H : Heap} (h : zE G cs A s H) (hAB : ∀ q, B q → A q) : zE G cs B s H := ⟨h.1, h.2.1, h.2.2.1, h.2.2.2.1.narrow hAB, h.2.2.2.2.1.narrow hAB, h.2.2.2.2.2⟩
theorem zE.blind {G : va_G} {cs : Nat → ClassId} {A : Nat → Prop} {U : State} (g : JFrame) (mk : MethodId) (a : Array Value) (h : zE G cs A U U.heap) : zE G cs A (U.calling g mk a) (U.calling g mk a).heap := by
  obtain ⟨h1, h2, h3, h4, h5, h6⟩ := h
  have hvm : U.vm = (U.calling g mk a).vm := rfl
  refine ⟨va_K.moved (u := U) (U := U.calling g mk a) (Vm.Alike.refl U.vm) h1, fun w hw => va_Nw.same ?_ hvm (h2 w hw), fun q hq => ?_, vx_Zq.moved (u := U) (U := U.calling g mk a) (Vm.Alike.refl U.vm) h4, vx_Zq.moved (u := U) (U := U.calling g mk a) (Vm.Alike.refl U.vm) h5, fun q hq => va_Nc.moved (u := U) (U := U.calling g mk a) (Vm.Alike.refl U.vm) (h6 q hq)⟩
  · simp only [zNws, List.mem_cons, List.not_mem_nil, or_false] at hw
    rcases hw with rfl | rfl | rfl | rfl | rfl | rfl | rfl | rfl | rfl | rfl | rfl | rfl | rfl | rfl | rfl | rfl | rfl <;> rfl
  · obtain ⟨sa, hsa⟩ := h3 q hq
    exact ⟨sa, hsa.same hvm.symm⟩
theorem zPre.blind {G : va_G} {cs : Nat → ClassId} {sz : Nat} {w0 : va_W} {As : List Value} : FrameBlind (va_Pc As (zPre G cs sz w0)) := fun a U g mk h => ⟨h.1, h.2.1, h.2.2.1, h.2.2.2.1, zE.blind g mk a h.2.2.2.2⟩
theorem zsub {A : Nat → Prop} {w0 : va_W} {H0 H : Heap} {locs : List Loc} (hD : va_D A w0) (hS : va_S A H0 H locs) (hA : ∀ q, H0.size ≤ q → A q) : ∀ q, va_A w0 H.size q → A q := by
  intro q h
  rcases h with ⟨k, e, h⟩ | h
  · exact hD.2 k _ h
  · exact hA q (Nat.le_trans hS.1 h)
theorem zat {G : va_G} {cs : Nat → ClassId} {A : Nat → Prop} {w0 : va_W} {s U : State} {H : Heap} {locs : List Loc} {As : List Value} (hE : zE G cs A s s.heap) (hP : va_P G vwCl w0 H) (hD : va_D A w0) (hS : va_S A s.heap H locs) (hA : ∀ q, s.heap.size ≤ q → A q) (hU : U.heap = H) (hW : s.WarmedH U.vm) : va_Pc As (zPre G cs H.size w0) As.toArray U := by
  refine ⟨rfl, by rw [hU], by rw [hU]; exact hP, hD.weaken (fun _ _ _ _ => trivial), ?_⟩
  rw [hU]
  have h := zE.call (B := va_A w0 H.size) hE hS (zsub hD hS hA) hU hW
  rw [hU] at h
  exact h
theorem zpv {G : va_G} {cs : Nat → ClassId} {A : Nat → Prop} {w0 : va_W} {s : State} {H : Heap} {locs : List Loc} {b : Nat} {As : List Value} (hE : zE G cs A s s.heap) (hP : va_P G vwCl w0 H) (hD : va_D A w0) (hS : va_S A s.heap H locs) (hA : ∀ q, s.heap.size ≤ q → A q) {q0 ci : Nat} {q : vw_C} {fs : List Value} (he : w0[q0]? = some (b, .inr (ci, fs))) (hc : vwCl[ci]? = some q) : PreV s H q.1 b (va_Pc (.ref b :: As) (zPre G cs H.size w0)) As :=
  ⟨zPre.blind, va_recv hE.1 hP hc he, fun _ hU hW => zat hE hP hD hS hA hU hW⟩
theorem zps {G : va_G} {cs : Nat → ClassId} {A : Nat → Prop} {w0 : va_W} {s : State} {H : Heap} {locs : List Loc} {As : List Value} (hE : zE G cs A s s.heap) (hP : va_P G vwCl w0 H) (hD : va_D A w0) (hS : va_S A s.heap H locs) (hA : ∀ q, s.heap.size ≤ q → A q) : PreS s H (va_Pc As (zPre G cs H.size w0)) As :=
  ⟨zPre.blind, fun _ hU hW => zat hE hP hD hS hA hU hW⟩
section ZC
variable {p : Program} {l : Launch} {e : Env} {R : Room} {s : State} {m : MethodId} {args : Array Value} {below : List Frame} {meth : Method} {c : Code} {H : Heap} {locs : List Loc} {cells slots : Nat} {Q : State → Prop}
variable {pc : Nat} {ls : Array Slot} {rest st0 : List Value} {a : Array Value} {A : Nat → Prop} {mc ms : Nat} {G : va_G} {cs : Nat → ClassId} {w0 w1 : va_W} {v : Int32} {k : Nat}
/-- behind a call that gives an int -/
theorem zai (hr : va_Run p l e R s m args below meth c H locs cells slots mc ms (F0 m pc ls st0) rest (va_Qi (fun (r : Int32) (_ : Unit) => r = v) (fun _ t => zPo G (va_A w0 H.size) w1 t) (va_A w0 H.size) a) (va_A w0 H.size)) (hD : va_D A w0) (hS : va_S A s.heap H locs) (hA : ∀ q, s.heap.size ≤ q → A q)
    (kk : ∀ (H1 : Heap) (locs1 : List Loc), va_P G vwCl w1 H1 → va_D A w1 → va_S A s.heap H1 locs1 → W p l e R s m args below meth c H1 locs1 (cells + mc) (slots + ms) Q (F0 m (pc + 3) ls (.int v :: rest))) : W p l e R s m args below meth c H locs cells slots Q (F0 m pc ls st0) := by
  have hF := zsub hD hS hA
  refine va_calli hr hS (fun q _ h => hF q h) hF (fun r _ t H1 locs1 ht hvm hw hB hz1 hk1 hS1 => ?_)
  obtain ⟨hP1, hD1⟩ := hB
  rw [ht] at hP1
  rw [hw]
  exact kk H1 locs1 hP1 (hD1.weaken fun _ q _ h => hF q.1 h) hS1
theorem zav (hr : va_Run p l e R s m args below meth c H locs cells slots mc ms (F0 m pc ls st0) rest (va_Qv (fun (_ : Unit) => True) (fun _ t => zPo G (va_A w0 H.size) w1 t) (va_A w0 H.size) a) (va_A w0 H.size)) (hD : va_D A w0) (hS : va_S A s.heap H locs) (hA : ∀ q, s.heap.size ≤ q → A q)
    (kk : ∀ (H1 : Heap) (locs1 : List Loc), va_P G vwCl w1 H1 → va_D A w1 → va_S A s.heap H1 locs1 → W p l e R s m args below meth c H1 locs1 (cells + mc) (slots + ms) Q (F0 m (pc + 3) ls rest)) : W p l e R s m args below meth c H locs cells slots Q (F0 m pc ls st0) := by
  have hF := zsub hD hS hA
  refine va_callv hr hS (fun q _ h => hF q h) hF (fun _ t H1 locs1 ht hvm hw hB hz1 hk1 hS1 => ?_)
  obtain ⟨hP1, hD1⟩ := hB
  rw [ht] at hP1
  exact kk H1 locs1 hP1 (hD1.weaken fun _ q _ h => hF q.1 h) hS1
theorem zaxi (hr : vx_Run p l e R s m args below meth c H locs cells slots mc ms (F0 m pc ls st0) rest (va_Qi (fun (r : Int32) (_ : Unit) => k = 0 ∧ r = v) (fun _ t => zPo G (va_A w0 H.size) w1 t) (va_A w0 H.size) a) (vx_X (fun (_ : Unit) => ¬ k = 0) (fun E _ t => E = zen k ∧ zPo G (va_A w0 H.size) w1 t) (va_A w0 H.size)) (va_A w0 H.size)) (hD : va_D A w0) (hS : va_S A s.heap H locs) (hA : ∀ q, s.heap.size ≤ q → A q)
    (kx : ¬ k = 0 → ∀ (ce : Cell) (q9 : Addr) (H1 : Heap) (locs1 : List Loc), va_P G vwCl w1 H1 → va_D A w1 → va_S A s.heap H1 locs1 → H1[q9]? = some ce → ce.vm = .none → s.vm.findClass (zen k) = some ce.cls → vx_W p l e R s m args below meth c H1 locs1 (cells + mc) (slots + ms) Q (F0 m pc ls rest) q9)
    (kk : k = 0 → ∀ (H1 : Heap) (locs1 : List Loc), va_P G vwCl w1 H1 → va_D A w1 → va_S A s.heap H1 locs1 → W p l e R s m args below meth c H1 locs1 (cells + mc) (slots + ms) Q (F0 m (pc + 3) ls (.int v :: rest))) : W p l e R s m args below meth c H locs cells slots Q (F0 m pc ls st0) := by
  have hF := zsub hD hS hA
  refine vx_calli hr hS (fun q _ h => hF q h) hF (fun q _ h => hF q h) (fun E ce q9 _ t H1 locs1 ht hvm hw hB hz1 hk1 hS1 h1 h2 h3 => ?_) (fun r _ t H1 locs1 ht hvm hw hB hz1 hk1 hS1 => ?_)
  · obtain ⟨rfl, hP1, hD1⟩ := hB
    rw [ht] at hP1
    exact kx hw ce q9 H1 locs1 hP1 (hD1.weaken fun _ q _ h => hF q.1 h) hS1 h1 h2 h3
  · obtain ⟨hP1, hD1⟩ := hB
    rw [ht] at hP1
    rw [hw.2]
    exact kk hw.1 H1 locs1 hP1 (hD1.weaken fun _ q _ h => hF q.1 h) hS1
theorem zaxv (hr : vx_Run p l e R s m args below meth c H locs cells slots mc ms (F0 m pc ls st0) rest (va_Qv (fun (_ : Unit) => k = 0) (fun _ t => zPo G (va_A w0 H.size) w1 t) (va_A w0 H.size) a) (vx_X (fun (_ : Unit) => ¬ k = 0) (fun E _ t => E = zen k ∧ zPo G (va_A w0 H.size) w1 t) (va_A w0 H.size)) (va_A w0 H.size)) (hD : va_D A w0) (hS : va_S A s.heap H locs) (hA : ∀ q, s.heap.size ≤ q → A q)
    (kx : ¬ k = 0 → ∀ (ce : Cell) (q9 : Addr) (H1 : Heap) (locs1 : List Loc), va_P G vwCl w1 H1 → va_D A w1 → va_S A s.heap H1 locs1 → H1[q9]? = some ce → ce.vm = .none → s.vm.findClass (zen k) = some ce.cls → vx_W p l e R s m args below meth c H1 locs1 (cells + mc) (slots + ms) Q (F0 m pc ls rest) q9)
    (kk : k = 0 → ∀ (H1 : Heap) (locs1 : List Loc), va_P G vwCl w1 H1 → va_D A w1 → va_S A s.heap H1 locs1 → W p l e R s m args below meth c H1 locs1 (cells + mc) (slots + ms) Q (F0 m (pc + 3) ls rest)) : W p l e R s m args below meth c H locs cells slots Q (F0 m pc ls st0) := by
  have hF := zsub hD hS hA
  refine vx_callv hr hS (fun q _ h => hF q h) hF (fun q _ h => hF q h) (fun E ce q9 _ t H1 locs1 ht hvm hw hB hz1 hk1 hS1 h1 h2 h3 => ?_) (fun _ t H1 locs1 ht hvm hw hB hz1 hk1 hS1 => ?_)
  · obtain ⟨rfl, hP1, hD1⟩ := hB
    rw [ht] at hP1
    exact kx hw ce q9 H1 locs1 hP1 (hD1.weaken fun _ q _ h => hF q.1 h) hS1 h1 h2 h3
  · obtain ⟨hP1, hD1⟩ := hB
    rw [ht] at hP1
    exact kk hw H1 locs1 hP1 (hD1.weaken fun _ q _ h => hF q.1 h) hS1
variable {cc : ByteArray} {ad : Nat → Nat} {σ : zS} {tl : va_W}
theorem z_iald (hx : p.tables.exec = Jvm.exec) (hb : c.code = cc) (hE : zE G cs A s s.heap) (hP : va_P G vwCl (zw cs ad σ tl) H) {k n : Nat} (ha : (zw cs ad σ tl)[k]? = some (ad k, .inl (cs 1, n, .inl (σ k)))) {i v : Int32} (hin : vp_in i n) (hv : σ k i.toNatClampNeg = v) (hdg : decode cc pc = .ok (.iaload, 1))
    (kk : W p l e R s m args below meth c H locs cells slots Q (F0 m (pc + 1) ls (.int v :: rest))) : W p l e R s m args below meth c H locs cells slots Q (F0 m pc ls (.int i :: .ref (ad k) :: rest)) := va_iald hx hb hE.1 hP k 1 ha rfl hin hdg (by rw [hv]; exact kk)
theorem z_zald (hx : p.tables.exec = Jvm.exec) (hb : c.code = cc) (hE : zE G cs A s s.heap) (hP : va_P G vwCl (zw cs ad σ tl) H) {k n : Nat} (ha : (zw cs ad σ tl)[k]? = some (ad k, .inl (cs 2, n, .inl (σ k)))) {i v : Int32} (hin : vp_in i n) (hv : σ k i.toNatClampNeg = v) (hdg : decode cc pc = .ok (.baload, 1))
    (kk : W p l e R s m args below meth c H locs cells slots Q (F0 m (pc + 1) ls (.int v :: rest))) : W p l e R s m args below meth c H locs cells slots Q (F0 m pc ls (.int i :: .ref (ad k) :: rest)) := va_zald hx hb hE.1 hP k 2 ha rfl hin hdg (by rw [hv]; exact kk)
theorem z_cald (hx : p.tables.exec = Jvm.exec) (hb : c.code = cc) (hE : zE G cs A s s.heap) (hP : va_P G vwCl (zw cs ad σ tl) H) {k n : Nat} (ha : (zw cs ad σ tl)[k]? = some (ad k, .inl (cs 0, n, .inl (σ k)))) {i v : Int32} (hin : vp_in i n) (hv : σ k i.toNatClampNeg = v) (hdg : decode cc pc = .ok (.caload, 1))
    (kk : W p l e R s m args below meth c H locs cells slots Q (F0 m (pc + 1) ls (.int v :: rest))) : W p l e R s m args below meth c H locs cells slots Q (F0 m pc ls (.int i :: .ref (ad k) :: rest)) := va_cald hx hb hE.1 hP k 0 ha rfl hin hdg (by rw [hv]; exact kk)
theorem z_iast (hx : p.tables.exec = Jvm.exec) (hb : c.code = cc) (hE : zE G cs A s s.heap) (hP : va_P G vwCl (zw cs ad σ tl) H) (hD : va_D A (zw cs ad σ tl)) (hS : va_S A s.heap H locs) {k n : Nat} (ha : (zw cs ad σ tl)[k]? = some (ad k, .inl (cs 1, n, .inl (σ k)))) (hset : ∀ (j : Nat) (x : Int32), (zw cs ad σ tl).set k (ad k, .inl (cs 1, n, .inl (upd (σ k) j x))) = zw cs ad (zs σ k j x) tl) {i x : Int32} (hin : vp_in i n) (hdg : decode cc pc = .ok (.iastore, 1))
    (kk : ∀ (H1 : Heap) (locs1 : List Loc), va_P G vwCl (zw cs ad (zs σ k i.toNatClampNeg x) tl) H1 → va_D A (zw cs ad (zs σ k i.toNatClampNeg x) tl) → va_S A s.heap H1 locs1 → W p l e R s m args below meth c H1 locs1 cells slots Q (F0 m (pc + 1) ls rest)) : W p l e R s m args below meth c H locs cells slots Q (F0 m pc ls (.int x :: .int i :: .ref (ad k) :: rest)) :=
  va_iast hx hb hE.1 hP hD hS k 1 ha rfl hin hdg (fun H1 locs1 h1 h2 h3 => kk H1 locs1 (by rw [← hset]; exact h1) (by rw [← hset]; exact h2) h3)
theorem z_zast (hx : p.tables.exec = Jvm.exec) (hb : c.code = cc) (hE : zE G cs A s s.heap) (hP : va_P G vwCl (zw cs ad σ tl) H) (hD : va_D A (zw cs ad σ tl)) (hS : va_S A s.heap H locs) {k n : Nat} (ha : (zw cs ad σ tl)[k]? = some (ad k, .inl (cs 2, n, .inl (σ k)))) (hset : ∀ (j : Nat) (x : Int32), (zw cs ad σ tl).set k (ad k, .inl (cs 2, n, .inl (upd (σ k) j x))) = zw cs ad (zs σ k j x) tl) {i x : Int32} (hin : vp_in i n) (hn : vp_nar .boolean x = x) (hdg : decode cc pc = .ok (.bastore, 1))
    (kk : ∀ (H1 : Heap) (locs1 : List Loc), va_P G vwCl (zw cs ad (zs σ k i.toNatClampNeg x) tl) H1 → va_D A (zw cs ad (zs σ k i.toNatClampNeg x) tl) → va_S A s.heap H1 locs1 → W p l e R s m args below meth c H1 locs1 cells slots Q (F0 m (pc + 1) ls rest)) : W p l e R s m args below meth c H locs cells slots Q (F0 m pc ls (.int x :: .int i :: .ref (ad k) :: rest)) :=
  va_zast hx hb hE.1 hP hD hS k 2 ha rfl hin hdg (fun H1 locs1 h1 h2 h3 => kk H1 locs1 (by rw [hn, hset] at h1; exact h1) (by rw [hn, hset] at h2; exact h2) h3)
theorem z_cast (hx : p.tables.exec = Jvm.exec) (hb : c.code = cc) (hE : zE G cs A s s.heap) (hP : va_P G vwCl (zw cs ad σ tl) H) (hD : va_D A (zw cs ad σ tl)) (hS : va_S A s.heap H locs) {k n : Nat} (ha : (zw cs ad σ tl)[k]? = some (ad k, .inl (cs 0, n, .inl (σ k)))) (hset : ∀ (j : Nat) (x : Int32), (zw cs ad σ tl).set k (ad k, .inl (cs 0, n, .inl (upd (σ k) j x))) = zw cs ad (zs σ k j x) tl) {i x : Int32} (hin : vp_in i n) (hn : vp_nar .char x = x) (hdg : decode cc pc = .ok (.castore, 1))
    (kk : ∀ (H1 : Heap) (locs1 : List Loc), va_P G vwCl (zw cs ad (zs σ k i.toNatClampNeg x) tl) H1 → va_D A (zw cs ad (zs σ k i.toNatClampNeg x) tl) → va_S A s.heap H1 locs1 → W p l e R s m args below meth c H1 locs1 cells slots Q (F0 m (pc + 1) ls rest)) : W p l e R s m args below meth c H locs cells slots Q (F0 m pc ls (.int x :: .int i :: .ref (ad k) :: rest)) :=
  va_cast hx hb hE.1 hP hD hS k 0 ha rfl hin hdg (fun H1 locs1 h1 h2 h3 => kk H1 locs1 (by rw [hn, hset] at h1; exact h1) (by rw [hn, hset] at h2; exact h2) h3)
end ZC
