/-! THE WORLD AFTER THE START: 87 cells; a record says what they hold (ints and longs by cell and slot, rows by cell) -/
abbrev rSt : Type := (Nat → Nat → Int32) × (Nat → Nat → Int64) × (Nat → Nat → Int32) × (Nat → Nat → Int64)
def rTp (j : Nat) : Option Nat := if j < 6 then some (48 + 2 * j) else none
def rWc (S : rSt) : List rCl := [cO 9 [.ref 1, .ref 16, .int (S.1 0 2), .ref 31, .ref 33, .ref 35, .ref 38, .ref 43, .ref 47],
  cO 6 [.ref 2, .ref 5, .ref 7, .ref 10, .ref 13],
  cO 0 [.int (S.1 2 0), .int (S.1 2 1), .int (S.1 2 2), .int (S.1 2 3), .ref 3, .ref 4],
  cI 56 (S.2.2.1 3),
  cI 256 (S.2.2.1 4),
  cO 5 [.ref 2, .ref 6, .long (S.2.1 5 2), .long (S.2.1 5 3)],
  cI 56 (S.2.2.1 6),
  cO 3 [.ref 8, .ref 9, .int (S.1 7 2)],
  cI 4 (S.2.2.1 8),
  cI 4 (S.2.2.1 9),
  cO 3 [.ref 11, .ref 12, .int (S.1 10 2)],
  cI 8 (S.2.2.1 11),
  cI 8 (S.2.2.1 12),
  cO 3 [.ref 14, .ref 15, .int (S.1 13 2)],
  cI 8 (S.2.2.1 14),
  cI 8 (S.2.2.1 15),
  cO 6 [.ref 17, .ref 20, .ref 22, .ref 25, .ref 28],
  cO 0 [.int (S.1 17 0), .int (S.1 17 1), .int (S.1 17 2), .int (S.1 17 3), .ref 18, .ref 19],
  cI 56 (S.2.2.1 18),
  cI 256 (S.2.2.1 19),
  cO 5 [.ref 17, .ref 21, .long (S.2.1 20 2), .long (S.2.1 20 3)],
  cI 56 (S.2.2.1 21),
  cO 3 [.ref 23, .ref 24, .int (S.1 22 2)],
  cI 4 (S.2.2.1 23),
  cI 4 (S.2.2.1 24),
  cO 3 [.ref 26, .ref 27, .int (S.1 25 2)],
  cI 8 (S.2.2.1 26),
  cI 8 (S.2.2.1 27),
  cO 3 [.ref 29, .ref 30, .int (S.1 28 2)],
  cI 8 (S.2.2.1 29),
  cI 8 (S.2.2.1 30),
  cO 5 [.ref 2, .ref 32, .long (S.2.1 31 2), .long (S.2.1 31 3)],
  cI 56 (S.2.2.1 32),
  cO 8 [.ref 34, .int (S.1 33 1), .int (S.1 33 2)],
  cI 6 (S.2.2.1 34),
  cO 1 [.ref 36, .int (S.1 35 1), .int (S.1 35 2), .int (S.1 35 3)],
  cO 8 [.ref 37, .int (S.1 36 1), .int (S.1 36 2)],
  cI 6 (S.2.2.1 37),
  cO 2 [.int (S.1 38 0), .int (S.1 38 1), .int (S.1 38 2), .int (S.1 38 3), .ref 39, .ref 40, .ref 41, .ref 42],
  cJ 20 (S.2.2.2 39),
  cJ 6 (S.2.2.2 40),
  cI 20 (S.2.2.1 41),
  cI 20 (S.2.2.1 42),
  cO 4 [.ref 44, .int (S.1 43 1), .ref 45, .ref 46, .int (S.1 43 4), .int (S.1 43 5)],
  cI 100 (S.2.2.1 44),
  cI 12 (S.2.2.1 45),
  cI 36 (S.2.2.1 46),
  cR 6 rTp,
  cO 7 [.int (S.1 48 0), .int (S.1 48 1), .ref 49],
  cJ 60 (S.2.2.2 49),
  cO 7 [.int (S.1 50 0), .int (S.1 50 1), .ref 51],
  cJ 60 (S.2.2.2 51),
  cO 7 [.int (S.1 52 0), .int (S.1 52 1), .ref 53],
  cJ 60 (S.2.2.2 53),
  cO 7 [.int (S.1 54 0), .int (S.1 54 1), .ref 55],
  cJ 60 (S.2.2.2 55),
  cO 7 [.int (S.1 56 0), .int (S.1 56 1), .ref 57],
  cJ 60 (S.2.2.2 57),
  cO 7 [.int (S.1 58 0), .int (S.1 58 1), .ref 59],
  cJ 60 (S.2.2.2 59),
  cO 10 [.int (S.1 60 0), .int (S.1 60 1), .int (S.1 60 2), .int (S.1 60 3), .ref 61, .ref 62, .ref 63, .ref 64, .ref 65, .ref 66, .ref 67, .int (S.1 60 11), .ref 68, .ref 69, .int (S.1 60 14), .ref 70, .ref 71, .int (S.1 60 17), .ref 72, .int (S.1 60 19), .int (S.1 60 20), .ref 73, .ref 74, .int (S.1 60 23), .ref 75, .ref 76, .ref 77, .ref 78, .ref 79, .int (S.1 60 29), .ref 80, .ref 81, .ref 82, .ref 83, .int (S.1 60 34), .ref 84, .ref 85, .ref 86, .int (S.1 60 38), .int (S.1 60 39), .int (S.1 60 40), .int (S.1 60 41)],
  cI 56 (S.2.2.1 61),
  cI 256 (S.2.2.1 62),
  cI 56 (S.2.2.1 63),
  cI 56 (S.2.2.1 64),
  cI 56 (S.2.2.1 65),
  cI 4 (S.2.2.1 66),
  cI 4 (S.2.2.1 67),
  cI 8 (S.2.2.1 68),
  cI 8 (S.2.2.1 69),
  cI 8 (S.2.2.1 70),
  cI 8 (S.2.2.1 71),
  cI 100 (S.2.2.1 72),
  cI 12 (S.2.2.1 73),
  cI 36 (S.2.2.1 74),
  cJ 360 (S.2.2.2 75),
  cI 6 (S.2.2.1 76),
  cI 6 (S.2.2.1 77),
  cI 220 (S.2.2.1 78),
  cI 220 (S.2.2.1 79),
  cI 56 (S.2.2.1 80),
  cI 8 (S.2.2.1 81),
  cI 56 (S.2.2.1 82),
  cI 600 (S.2.2.1 83),
  cI 56 (S.2.2.1 84),
  cI 56 (S.2.2.1 85),
  cI 1536 (S.2.2.1 86)]
def Wd (S : rSt) : rW := rWc S
def si (S : rSt) (a k : Nat) (x : Int32) : rSt := (fun b j => if b = a then (if j = k then x else S.1 b j) else S.1 b j, S.2)
def sl (S : rSt) (a k : Nat) (x : Int64) : rSt := (S.1, fun b j => if b = a then (if j = k then x else S.2.1 b j) else S.2.1 b j, S.2.2)
def sa (S : rSt) (a : Nat) (f : Nat → Int32) : rSt := (S.1, S.2.1, fun b => if b = a then f else S.2.2.1 b, S.2.2.2)
def sj (S : rSt) (a : Nat) (f : Nat → Int64) : rSt := (S.1, S.2.1, S.2.2.1, fun b => if b = a then f else S.2.2.2 b)
theorem wg_0 (S : rSt) : (Wd S)[0]? = some (cO 9 [.ref 1, .ref 16, .int (S.1 0 2), .ref 31, .ref 33, .ref 35, .ref 38, .ref 43, .ref 47]) := rfl
theorem wg_1 (S : rSt) : (Wd S)[1]? = some (cO 6 [.ref 2, .ref 5, .ref 7, .ref 10, .ref 13]) := rfl
theorem wg_2 (S : rSt) : (Wd S)[2]? = some (cO 0 [.int (S.1 2 0), .int (S.1 2 1), .int (S.1 2 2), .int (S.1 2 3), .ref 3, .ref 4]) := rfl
theorem wg_3 (S : rSt) : (Wd S)[3]? = some (cI 56 (S.2.2.1 3)) := rfl
theorem wg_4 (S : rSt) : (Wd S)[4]? = some (cI 256 (S.2.2.1 4)) := rfl
theorem wg_5 (S : rSt) : (Wd S)[5]? = some (cO 5 [.ref 2, .ref 6, .long (S.2.1 5 2), .long (S.2.1 5 3)]) := rfl
theorem wg_6 (S : rSt) : (Wd S)[6]? = some (cI 56 (S.2.2.1 6)) := rfl
theorem wg_7 (S : rSt) : (Wd S)[7]? = some (cO 3 [.ref 8, .ref 9, .int (S.1 7 2)]) := rfl
theorem wg_8 (S : rSt) : (Wd S)[8]? = some (cI 4 (S.2.2.1 8)) := rfl
theorem wg_9 (S : rSt) : (Wd S)[9]? = some (cI 4 (S.2.2.1 9)) := rfl
theorem wg_10 (S : rSt) : (Wd S)[10]? = some (cO 3 [.ref 11, .ref 12, .int (S.1 10 2)]) := rfl
theorem wg_11 (S : rSt) : (Wd S)[11]? = some (cI 8 (S.2.2.1 11)) := rfl
theorem wg_12 (S : rSt) : (Wd S)[12]? = some (cI 8 (S.2.2.1 12)) := rfl
theorem wg_13 (S : rSt) : (Wd S)[13]? = some (cO 3 [.ref 14, .ref 15, .int (S.1 13 2)]) := rfl
theorem wg_14 (S : rSt) : (Wd S)[14]? = some (cI 8 (S.2.2.1 14)) := rfl
theorem wg_15 (S : rSt) : (Wd S)[15]? = some (cI 8 (S.2.2.1 15)) := rfl
theorem wg_16 (S : rSt) : (Wd S)[16]? = some (cO 6 [.ref 17, .ref 20, .ref 22, .ref 25, .ref 28]) := rfl
theorem wg_17 (S : rSt) : (Wd S)[17]? = some (cO 0 [.int (S.1 17 0), .int (S.1 17 1), .int (S.1 17 2), .int (S.1 17 3), .ref 18, .ref 19]) := rfl
theorem wg_18 (S : rSt) : (Wd S)[18]? = some (cI 56 (S.2.2.1 18)) := rfl
theorem wg_19 (S : rSt) : (Wd S)[19]? = some (cI 256 (S.2.2.1 19)) := rfl
theorem wg_20 (S : rSt) : (Wd S)[20]? = some (cO 5 [.ref 17, .ref 21, .long (S.2.1 20 2), .long (S.2.1 20 3)]) := rfl
theorem wg_21 (S : rSt) : (Wd S)[21]? = some (cI 56 (S.2.2.1 21)) := rfl
theorem wg_22 (S : rSt) : (Wd S)[22]? = some (cO 3 [.ref 23, .ref 24, .int (S.1 22 2)]) := rfl
theorem wg_23 (S : rSt) : (Wd S)[23]? = some (cI 4 (S.2.2.1 23)) := rfl
theorem wg_24 (S : rSt) : (Wd S)[24]? = some (cI 4 (S.2.2.1 24)) := rfl
theorem wg_25 (S : rSt) : (Wd S)[25]? = some (cO 3 [.ref 26, .ref 27, .int (S.1 25 2)]) := rfl
theorem wg_26 (S : rSt) : (Wd S)[26]? = some (cI 8 (S.2.2.1 26)) := rfl
theorem wg_27 (S : rSt) : (Wd S)[27]? = some (cI 8 (S.2.2.1 27)) := rfl
theorem wg_28 (S : rSt) : (Wd S)[28]? = some (cO 3 [.ref 29, .ref 30, .int (S.1 28 2)]) := rfl
theorem wg_29 (S : rSt) : (Wd S)[29]? = some (cI 8 (S.2.2.1 29)) := rfl
theorem wg_30 (S : rSt) : (Wd S)[30]? = some (cI 8 (S.2.2.1 30)) := rfl
theorem wg_31 (S : rSt) : (Wd S)[31]? = some (cO 5 [.ref 2, .ref 32, .long (S.2.1 31 2), .long (S.2.1 31 3)]) := rfl
theorem wg_32 (S : rSt) : (Wd S)[32]? = some (cI 56 (S.2.2.1 32)) := rfl
theorem wg_33 (S : rSt) : (Wd S)[33]? = some (cO 8 [.ref 34, .int (S.1 33 1), .int (S.1 33 2)]) := rfl
theorem wg_34 (S : rSt) : (Wd S)[34]? = some (cI 6 (S.2.2.1 34)) := rfl
theorem wg_35 (S : rSt) : (Wd S)[35]? = some (cO 1 [.ref 36, .int (S.1 35 1), .int (S.1 35 2), .int (S.1 35 3)]) := rfl
theorem wg_36 (S : rSt) : (Wd S)[36]? = some (cO 8 [.ref 37, .int (S.1 36 1), .int (S.1 36 2)]) := rfl
theorem wg_37 (S : rSt) : (Wd S)[37]? = some (cI 6 (S.2.2.1 37)) := rfl
theorem wg_38 (S : rSt) : (Wd S)[38]? = some (cO 2 [.int (S.1 38 0), .int (S.1 38 1), .int (S.1 38 2), .int (S.1 38 3), .ref 39, .ref 40, .ref 41, .ref 42]) := rfl
theorem wg_39 (S : rSt) : (Wd S)[39]? = some (cJ 20 (S.2.2.2 39)) := rfl
theorem wg_40 (S : rSt) : (Wd S)[40]? = some (cJ 6 (S.2.2.2 40)) := rfl
theorem wg_41 (S : rSt) : (Wd S)[41]? = some (cI 20 (S.2.2.1 41)) := rfl
theorem wg_42 (S : rSt) : (Wd S)[42]? = some (cI 20 (S.2.2.1 42)) := rfl
theorem wg_43 (S : rSt) : (Wd S)[43]? = some (cO 4 [.ref 44, .int (S.1 43 1), .ref 45, .ref 46, .int (S.1 43 4), .int (S.1 43 5)]) := rfl
theorem wg_44 (S : rSt) : (Wd S)[44]? = some (cI 100 (S.2.2.1 44)) := rfl
theorem wg_45 (S : rSt) : (Wd S)[45]? = some (cI 12 (S.2.2.1 45)) := rfl
theorem wg_46 (S : rSt) : (Wd S)[46]? = some (cI 36 (S.2.2.1 46)) := rfl
theorem wg_47 (S : rSt) : (Wd S)[47]? = some (cR 6 rTp) := rfl
theorem wg_48 (S : rSt) : (Wd S)[48]? = some (cO 7 [.int (S.1 48 0), .int (S.1 48 1), .ref 49]) := rfl
theorem wg_49 (S : rSt) : (Wd S)[49]? = some (cJ 60 (S.2.2.2 49)) := rfl
theorem wg_50 (S : rSt) : (Wd S)[50]? = some (cO 7 [.int (S.1 50 0), .int (S.1 50 1), .ref 51]) := rfl
theorem wg_51 (S : rSt) : (Wd S)[51]? = some (cJ 60 (S.2.2.2 51)) := rfl
theorem wg_52 (S : rSt) : (Wd S)[52]? = some (cO 7 [.int (S.1 52 0), .int (S.1 52 1), .ref 53]) := rfl
theorem wg_53 (S : rSt) : (Wd S)[53]? = some (cJ 60 (S.2.2.2 53)) := rfl
theorem wg_54 (S : rSt) : (Wd S)[54]? = some (cO 7 [.int (S.1 54 0), .int (S.1 54 1), .ref 55]) := rfl
theorem wg_55 (S : rSt) : (Wd S)[55]? = some (cJ 60 (S.2.2.2 55)) := rfl
theorem wg_56 (S : rSt) : (Wd S)[56]? = some (cO 7 [.int (S.1 56 0), .int (S.1 56 1), .ref 57]) := rfl
theorem wg_57 (S : rSt) : (Wd S)[57]? = some (cJ 60 (S.2.2.2 57)) := rfl
theorem wg_58 (S : rSt) : (Wd S)[58]? = some (cO 7 [.int (S.1 58 0), .int (S.1 58 1), .ref 59]) := rfl
theorem wg_59 (S : rSt) : (Wd S)[59]? = some (cJ 60 (S.2.2.2 59)) := rfl
theorem wg_60 (S : rSt) : (Wd S)[60]? = some (cO 10 [.int (S.1 60 0), .int (S.1 60 1), .int (S.1 60 2), .int (S.1 60 3), .ref 61, .ref 62, .ref 63, .ref 64, .ref 65, .ref 66, .ref 67, .int (S.1 60 11), .ref 68, .ref 69, .int (S.1 60 14), .ref 70, .ref 71, .int (S.1 60 17), .ref 72, .int (S.1 60 19), .int (S.1 60 20), .ref 73, .ref 74, .int (S.1 60 23), .ref 75, .ref 76, .ref 77, .ref 78, .ref 79, .int (S.1 60 29), .ref 80, .ref 81, .ref 82, .ref 83, .int (S.1 60 34), .ref 84, .ref 85, .ref 86, .int (S.1 60 38), .int (S.1 60 39), .int (S.1 60 40), .int (S.1 60 41)]) := rfl
theorem wg_61 (S : rSt) : (Wd S)[61]? = some (cI 56 (S.2.2.1 61)) := rfl
theorem wg_62 (S : rSt) : (Wd S)[62]? = some (cI 256 (S.2.2.1 62)) := rfl
theorem wg_63 (S : rSt) : (Wd S)[63]? = some (cI 56 (S.2.2.1 63)) := rfl
theorem wg_64 (S : rSt) : (Wd S)[64]? = some (cI 56 (S.2.2.1 64)) := rfl
theorem wg_65 (S : rSt) : (Wd S)[65]? = some (cI 56 (S.2.2.1 65)) := rfl
theorem wg_66 (S : rSt) : (Wd S)[66]? = some (cI 4 (S.2.2.1 66)) := rfl
theorem wg_67 (S : rSt) : (Wd S)[67]? = some (cI 4 (S.2.2.1 67)) := rfl
theorem wg_68 (S : rSt) : (Wd S)[68]? = some (cI 8 (S.2.2.1 68)) := rfl
theorem wg_69 (S : rSt) : (Wd S)[69]? = some (cI 8 (S.2.2.1 69)) := rfl
theorem wg_70 (S : rSt) : (Wd S)[70]? = some (cI 8 (S.2.2.1 70)) := rfl
theorem wg_71 (S : rSt) : (Wd S)[71]? = some (cI 8 (S.2.2.1 71)) := rfl
theorem wg_72 (S : rSt) : (Wd S)[72]? = some (cI 100 (S.2.2.1 72)) := rfl
theorem wg_73 (S : rSt) : (Wd S)[73]? = some (cI 12 (S.2.2.1 73)) := rfl
theorem wg_74 (S : rSt) : (Wd S)[74]? = some (cI 36 (S.2.2.1 74)) := rfl
theorem wg_75 (S : rSt) : (Wd S)[75]? = some (cJ 360 (S.2.2.2 75)) := rfl
theorem wg_76 (S : rSt) : (Wd S)[76]? = some (cI 6 (S.2.2.1 76)) := rfl
theorem wg_77 (S : rSt) : (Wd S)[77]? = some (cI 6 (S.2.2.1 77)) := rfl
theorem wg_78 (S : rSt) : (Wd S)[78]? = some (cI 220 (S.2.2.1 78)) := rfl
theorem wg_79 (S : rSt) : (Wd S)[79]? = some (cI 220 (S.2.2.1 79)) := rfl
theorem wg_80 (S : rSt) : (Wd S)[80]? = some (cI 56 (S.2.2.1 80)) := rfl
theorem wg_81 (S : rSt) : (Wd S)[81]? = some (cI 8 (S.2.2.1 81)) := rfl
theorem wg_82 (S : rSt) : (Wd S)[82]? = some (cI 56 (S.2.2.1 82)) := rfl
theorem wg_83 (S : rSt) : (Wd S)[83]? = some (cI 600 (S.2.2.1 83)) := rfl
theorem wg_84 (S : rSt) : (Wd S)[84]? = some (cI 56 (S.2.2.1 84)) := rfl
theorem wg_85 (S : rSt) : (Wd S)[85]? = some (cI 56 (S.2.2.1 85)) := rfl
theorem wg_86 (S : rSt) : (Wd S)[86]? = some (cI 1536 (S.2.2.1 86)) := rfl
theorem wf_0_0 (S : rSt) : gR (Wd S) 0 9 0 = some 1 := rfl
theorem wf_0_1 (S : rSt) : gR (Wd S) 0 9 1 = some 16 := rfl
theorem wf_0_2 (S : rSt) : gI (Wd S) 0 9 2 = some (S.1 0 2) := rfl
theorem wp_0_2 (S : rSt) (x : Int32) : pF (Wd S) 0 9 2 (.int x) = some (Wd (si S 0 2 x)) := rfl
theorem wf_0_3 (S : rSt) : gR (Wd S) 0 9 3 = some 31 := rfl
theorem wf_0_4 (S : rSt) : gR (Wd S) 0 9 4 = some 33 := rfl
theorem wf_0_5 (S : rSt) : gR (Wd S) 0 9 5 = some 35 := rfl
theorem wf_0_6 (S : rSt) : gR (Wd S) 0 9 6 = some 38 := rfl
theorem wf_0_7 (S : rSt) : gR (Wd S) 0 9 7 = some 43 := rfl
theorem wf_0_8 (S : rSt) : gR (Wd S) 0 9 8 = some 47 := rfl
theorem wf_1_0 (S : rSt) : gR (Wd S) 1 6 0 = some 2 := rfl
theorem wf_1_1 (S : rSt) : gR (Wd S) 1 6 1 = some 5 := rfl
theorem wf_1_2 (S : rSt) : gR (Wd S) 1 6 2 = some 7 := rfl
theorem wf_1_3 (S : rSt) : gR (Wd S) 1 6 3 = some 10 := rfl
theorem wf_1_4 (S : rSt) : gR (Wd S) 1 6 4 = some 13 := rfl
theorem wf_2_0 (S : rSt) : gI (Wd S) 2 0 0 = some (S.1 2 0) := rfl
theorem wp_2_0 (S : rSt) (x : Int32) : pF (Wd S) 2 0 0 (.int x) = some (Wd (si S 2 0 x)) := rfl
theorem wf_2_1 (S : rSt) : gI (Wd S) 2 0 1 = some (S.1 2 1) := rfl
theorem wp_2_1 (S : rSt) (x : Int32) : pF (Wd S) 2 0 1 (.int x) = some (Wd (si S 2 1 x)) := rfl
theorem wf_2_2 (S : rSt) : gI (Wd S) 2 0 2 = some (S.1 2 2) := rfl
theorem wp_2_2 (S : rSt) (x : Int32) : pF (Wd S) 2 0 2 (.int x) = some (Wd (si S 2 2 x)) := rfl
theorem wf_2_3 (S : rSt) : gI (Wd S) 2 0 3 = some (S.1 2 3) := rfl
theorem wp_2_3 (S : rSt) (x : Int32) : pF (Wd S) 2 0 3 (.int x) = some (Wd (si S 2 3 x)) := rfl
theorem wf_2_4 (S : rSt) : gR (Wd S) 2 0 4 = some 3 := rfl
theorem wf_2_5 (S : rSt) : gR (Wd S) 2 0 5 = some 4 := rfl
theorem ws_3 (S : rSt) (f : Nat → Int32) : (Wd S).set 3 (cI 56 f) = Wd (sa S 3 f) := rfl
theorem ws_4 (S : rSt) (f : Nat → Int32) : (Wd S).set 4 (cI 256 f) = Wd (sa S 4 f) := rfl
theorem wf_5_0 (S : rSt) : gR (Wd S) 5 5 0 = some 2 := rfl
theorem wf_5_1 (S : rSt) : gR (Wd S) 5 5 1 = some 6 := rfl
theorem wf_5_2 (S : rSt) : gJ (Wd S) 5 5 2 = some (S.2.1 5 2) := rfl
theorem wp_5_2 (S : rSt) (x : Int64) : pF (Wd S) 5 5 2 (.long x) = some (Wd (sl S 5 2 x)) := rfl
theorem wf_5_3 (S : rSt) : gJ (Wd S) 5 5 3 = some (S.2.1 5 3) := rfl
theorem wp_5_3 (S : rSt) (x : Int64) : pF (Wd S) 5 5 3 (.long x) = some (Wd (sl S 5 3 x)) := rfl
theorem ws_6 (S : rSt) (f : Nat → Int32) : (Wd S).set 6 (cI 56 f) = Wd (sa S 6 f) := rfl
theorem wf_7_0 (S : rSt) : gR (Wd S) 7 3 0 = some 8 := rfl
theorem wf_7_1 (S : rSt) : gR (Wd S) 7 3 1 = some 9 := rfl
theorem wf_7_2 (S : rSt) : gI (Wd S) 7 3 2 = some (S.1 7 2) := rfl
theorem wp_7_2 (S : rSt) (x : Int32) : pF (Wd S) 7 3 2 (.int x) = some (Wd (si S 7 2 x)) := rfl
theorem ws_8 (S : rSt) (f : Nat → Int32) : (Wd S).set 8 (cI 4 f) = Wd (sa S 8 f) := rfl
theorem ws_9 (S : rSt) (f : Nat → Int32) : (Wd S).set 9 (cI 4 f) = Wd (sa S 9 f) := rfl
theorem wf_10_0 (S : rSt) : gR (Wd S) 10 3 0 = some 11 := rfl
theorem wf_10_1 (S : rSt) : gR (Wd S) 10 3 1 = some 12 := rfl
theorem wf_10_2 (S : rSt) : gI (Wd S) 10 3 2 = some (S.1 10 2) := rfl
theorem wp_10_2 (S : rSt) (x : Int32) : pF (Wd S) 10 3 2 (.int x) = some (Wd (si S 10 2 x)) := rfl
theorem ws_11 (S : rSt) (f : Nat → Int32) : (Wd S).set 11 (cI 8 f) = Wd (sa S 11 f) := rfl
theorem ws_12 (S : rSt) (f : Nat → Int32) : (Wd S).set 12 (cI 8 f) = Wd (sa S 12 f) := rfl
theorem wf_13_0 (S : rSt) : gR (Wd S) 13 3 0 = some 14 := rfl
theorem wf_13_1 (S : rSt) : gR (Wd S) 13 3 1 = some 15 := rfl
theorem wf_13_2 (S : rSt) : gI (Wd S) 13 3 2 = some (S.1 13 2) := rfl
theorem wp_13_2 (S : rSt) (x : Int32) : pF (Wd S) 13 3 2 (.int x) = some (Wd (si S 13 2 x)) := rfl
theorem ws_14 (S : rSt) (f : Nat → Int32) : (Wd S).set 14 (cI 8 f) = Wd (sa S 14 f) := rfl
theorem ws_15 (S : rSt) (f : Nat → Int32) : (Wd S).set 15 (cI 8 f) = Wd (sa S 15 f) := rfl
theorem wf_16_0 (S : rSt) : gR (Wd S) 16 6 0 = some 17 := rfl
theorem wf_16_1 (S : rSt) : gR (Wd S) 16 6 1 = some 20 := rfl
theorem wf_16_2 (S : rSt) : gR (Wd S) 16 6 2 = some 22 := rfl
theorem wf_16_3 (S : rSt) : gR (Wd S) 16 6 3 = some 25 := rfl
theorem wf_16_4 (S : rSt) : gR (Wd S) 16 6 4 = some 28 := rfl
theorem wf_17_0 (S : rSt) : gI (Wd S) 17 0 0 = some (S.1 17 0) := rfl
theorem wp_17_0 (S : rSt) (x : Int32) : pF (Wd S) 17 0 0 (.int x) = some (Wd (si S 17 0 x)) := rfl
theorem wf_17_1 (S : rSt) : gI (Wd S) 17 0 1 = some (S.1 17 1) := rfl
theorem wp_17_1 (S : rSt) (x : Int32) : pF (Wd S) 17 0 1 (.int x) = some (Wd (si S 17 1 x)) := rfl
theorem wf_17_2 (S : rSt) : gI (Wd S) 17 0 2 = some (S.1 17 2) := rfl
theorem wp_17_2 (S : rSt) (x : Int32) : pF (Wd S) 17 0 2 (.int x) = some (Wd (si S 17 2 x)) := rfl
theorem wf_17_3 (S : rSt) : gI (Wd S) 17 0 3 = some (S.1 17 3) := rfl
theorem wp_17_3 (S : rSt) (x : Int32) : pF (Wd S) 17 0 3 (.int x) = some (Wd (si S 17 3 x)) := rfl
theorem wf_17_4 (S : rSt) : gR (Wd S) 17 0 4 = some 18 := rfl
theorem wf_17_5 (S : rSt) : gR (Wd S) 17 0 5 = some 19 := rfl
theorem ws_18 (S : rSt) (f : Nat → Int32) : (Wd S).set 18 (cI 56 f) = Wd (sa S 18 f) := rfl
theorem ws_19 (S : rSt) (f : Nat → Int32) : (Wd S).set 19 (cI 256 f) = Wd (sa S 19 f) := rfl
theorem wf_20_0 (S : rSt) : gR (Wd S) 20 5 0 = some 17 := rfl
theorem wf_20_1 (S : rSt) : gR (Wd S) 20 5 1 = some 21 := rfl
theorem wf_20_2 (S : rSt) : gJ (Wd S) 20 5 2 = some (S.2.1 20 2) := rfl
theorem wp_20_2 (S : rSt) (x : Int64) : pF (Wd S) 20 5 2 (.long x) = some (Wd (sl S 20 2 x)) := rfl
theorem wf_20_3 (S : rSt) : gJ (Wd S) 20 5 3 = some (S.2.1 20 3) := rfl
theorem wp_20_3 (S : rSt) (x : Int64) : pF (Wd S) 20 5 3 (.long x) = some (Wd (sl S 20 3 x)) := rfl
theorem ws_21 (S : rSt) (f : Nat → Int32) : (Wd S).set 21 (cI 56 f) = Wd (sa S 21 f) := rfl
theorem wf_22_0 (S : rSt) : gR (Wd S) 22 3 0 = some 23 := rfl
theorem wf_22_1 (S : rSt) : gR (Wd S) 22 3 1 = some 24 := rfl
theorem wf_22_2 (S : rSt) : gI (Wd S) 22 3 2 = some (S.1 22 2) := rfl
theorem wp_22_2 (S : rSt) (x : Int32) : pF (Wd S) 22 3 2 (.int x) = some (Wd (si S 22 2 x)) := rfl
theorem ws_23 (S : rSt) (f : Nat → Int32) : (Wd S).set 23 (cI 4 f) = Wd (sa S 23 f) := rfl
theorem ws_24 (S : rSt) (f : Nat → Int32) : (Wd S).set 24 (cI 4 f) = Wd (sa S 24 f) := rfl
theorem wf_25_0 (S : rSt) : gR (Wd S) 25 3 0 = some 26 := rfl
theorem wf_25_1 (S : rSt) : gR (Wd S) 25 3 1 = some 27 := rfl
theorem wf_25_2 (S : rSt) : gI (Wd S) 25 3 2 = some (S.1 25 2) := rfl
theorem wp_25_2 (S : rSt) (x : Int32) : pF (Wd S) 25 3 2 (.int x) = some (Wd (si S 25 2 x)) := rfl
theorem ws_26 (S : rSt) (f : Nat → Int32) : (Wd S).set 26 (cI 8 f) = Wd (sa S 26 f) := rfl
theorem ws_27 (S : rSt) (f : Nat → Int32) : (Wd S).set 27 (cI 8 f) = Wd (sa S 27 f) := rfl
theorem wf_28_0 (S : rSt) : gR (Wd S) 28 3 0 = some 29 := rfl
theorem wf_28_1 (S : rSt) : gR (Wd S) 28 3 1 = some 30 := rfl
theorem wf_28_2 (S : rSt) : gI (Wd S) 28 3 2 = some (S.1 28 2) := rfl
theorem wp_28_2 (S : rSt) (x : Int32) : pF (Wd S) 28 3 2 (.int x) = some (Wd (si S 28 2 x)) := rfl
theorem ws_29 (S : rSt) (f : Nat → Int32) : (Wd S).set 29 (cI 8 f) = Wd (sa S 29 f) := rfl
theorem ws_30 (S : rSt) (f : Nat → Int32) : (Wd S).set 30 (cI 8 f) = Wd (sa S 30 f) := rfl
theorem wf_31_0 (S : rSt) : gR (Wd S) 31 5 0 = some 2 := rfl
theorem wf_31_1 (S : rSt) : gR (Wd S) 31 5 1 = some 32 := rfl
theorem wf_31_2 (S : rSt) : gJ (Wd S) 31 5 2 = some (S.2.1 31 2) := rfl
theorem wp_31_2 (S : rSt) (x : Int64) : pF (Wd S) 31 5 2 (.long x) = some (Wd (sl S 31 2 x)) := rfl
theorem wf_31_3 (S : rSt) : gJ (Wd S) 31 5 3 = some (S.2.1 31 3) := rfl
theorem wp_31_3 (S : rSt) (x : Int64) : pF (Wd S) 31 5 3 (.long x) = some (Wd (sl S 31 3 x)) := rfl
theorem ws_32 (S : rSt) (f : Nat → Int32) : (Wd S).set 32 (cI 56 f) = Wd (sa S 32 f) := rfl
theorem wf_33_0 (S : rSt) : gR (Wd S) 33 8 0 = some 34 := rfl
theorem wf_33_1 (S : rSt) : gI (Wd S) 33 8 1 = some (S.1 33 1) := rfl
theorem wp_33_1 (S : rSt) (x : Int32) : pF (Wd S) 33 8 1 (.int x) = some (Wd (si S 33 1 x)) := rfl
theorem wf_33_2 (S : rSt) : gI (Wd S) 33 8 2 = some (S.1 33 2) := rfl
theorem wp_33_2 (S : rSt) (x : Int32) : pF (Wd S) 33 8 2 (.int x) = some (Wd (si S 33 2 x)) := rfl
theorem ws_34 (S : rSt) (f : Nat → Int32) : (Wd S).set 34 (cI 6 f) = Wd (sa S 34 f) := rfl
theorem wf_35_0 (S : rSt) : gR (Wd S) 35 1 0 = some 36 := rfl
theorem wf_35_1 (S : rSt) : gI (Wd S) 35 1 1 = some (S.1 35 1) := rfl
theorem wp_35_1 (S : rSt) (x : Int32) : pF (Wd S) 35 1 1 (.int x) = some (Wd (si S 35 1 x)) := rfl
theorem wf_35_2 (S : rSt) : gI (Wd S) 35 1 2 = some (S.1 35 2) := rfl
theorem wp_35_2 (S : rSt) (x : Int32) : pF (Wd S) 35 1 2 (.int x) = some (Wd (si S 35 2 x)) := rfl
theorem wf_35_3 (S : rSt) : gI (Wd S) 35 1 3 = some (S.1 35 3) := rfl
theorem wp_35_3 (S : rSt) (x : Int32) : pF (Wd S) 35 1 3 (.int x) = some (Wd (si S 35 3 x)) := rfl
theorem wf_36_0 (S : rSt) : gR (Wd S) 36 8 0 = some 37 := rfl
theorem wf_36_1 (S : rSt) : gI (Wd S) 36 8 1 = some (S.1 36 1) := rfl
theorem wp_36_1 (S : rSt) (x : Int32) : pF (Wd S) 36 8 1 (.int x) = some (Wd (si S 36 1 x)) := rfl
theorem wf_36_2 (S : rSt) : gI (Wd S) 36 8 2 = some (S.1 36 2) := rfl
theorem wp_36_2 (S : rSt) (x : Int32) : pF (Wd S) 36 8 2 (.int x) = some (Wd (si S 36 2 x)) := rfl
theorem ws_37 (S : rSt) (f : Nat → Int32) : (Wd S).set 37 (cI 6 f) = Wd (sa S 37 f) := rfl
theorem wf_38_0 (S : rSt) : gI (Wd S) 38 2 0 = some (S.1 38 0) := rfl
theorem wp_38_0 (S : rSt) (x : Int32) : pF (Wd S) 38 2 0 (.int x) = some (Wd (si S 38 0 x)) := rfl
theorem wf_38_1 (S : rSt) : gI (Wd S) 38 2 1 = some (S.1 38 1) := rfl
theorem wp_38_1 (S : rSt) (x : Int32) : pF (Wd S) 38 2 1 (.int x) = some (Wd (si S 38 1 x)) := rfl
theorem wf_38_2 (S : rSt) : gI (Wd S) 38 2 2 = some (S.1 38 2) := rfl
theorem wp_38_2 (S : rSt) (x : Int32) : pF (Wd S) 38 2 2 (.int x) = some (Wd (si S 38 2 x)) := rfl
theorem wf_38_3 (S : rSt) : gI (Wd S) 38 2 3 = some (S.1 38 3) := rfl
theorem wp_38_3 (S : rSt) (x : Int32) : pF (Wd S) 38 2 3 (.int x) = some (Wd (si S 38 3 x)) := rfl
theorem wf_38_4 (S : rSt) : gR (Wd S) 38 2 4 = some 39 := rfl
theorem wf_38_5 (S : rSt) : gR (Wd S) 38 2 5 = some 40 := rfl
theorem wf_38_6 (S : rSt) : gR (Wd S) 38 2 6 = some 41 := rfl
theorem wf_38_7 (S : rSt) : gR (Wd S) 38 2 7 = some 42 := rfl
theorem ws_39 (S : rSt) (f : Nat → Int64) : (Wd S).set 39 (cJ 20 f) = Wd (sj S 39 f) := rfl
theorem ws_40 (S : rSt) (f : Nat → Int64) : (Wd S).set 40 (cJ 6 f) = Wd (sj S 40 f) := rfl
theorem ws_41 (S : rSt) (f : Nat → Int32) : (Wd S).set 41 (cI 20 f) = Wd (sa S 41 f) := rfl
theorem ws_42 (S : rSt) (f : Nat → Int32) : (Wd S).set 42 (cI 20 f) = Wd (sa S 42 f) := rfl
theorem wf_43_0 (S : rSt) : gR (Wd S) 43 4 0 = some 44 := rfl
theorem wf_43_1 (S : rSt) : gI (Wd S) 43 4 1 = some (S.1 43 1) := rfl
theorem wp_43_1 (S : rSt) (x : Int32) : pF (Wd S) 43 4 1 (.int x) = some (Wd (si S 43 1 x)) := rfl
theorem wf_43_2 (S : rSt) : gR (Wd S) 43 4 2 = some 45 := rfl
theorem wf_43_3 (S : rSt) : gR (Wd S) 43 4 3 = some 46 := rfl
theorem wf_43_4 (S : rSt) : gI (Wd S) 43 4 4 = some (S.1 43 4) := rfl
theorem wp_43_4 (S : rSt) (x : Int32) : pF (Wd S) 43 4 4 (.int x) = some (Wd (si S 43 4 x)) := rfl
theorem wf_43_5 (S : rSt) : gI (Wd S) 43 4 5 = some (S.1 43 5) := rfl
theorem wp_43_5 (S : rSt) (x : Int32) : pF (Wd S) 43 4 5 (.int x) = some (Wd (si S 43 5 x)) := rfl
theorem ws_44 (S : rSt) (f : Nat → Int32) : (Wd S).set 44 (cI 100 f) = Wd (sa S 44 f) := rfl
theorem ws_45 (S : rSt) (f : Nat → Int32) : (Wd S).set 45 (cI 12 f) = Wd (sa S 45 f) := rfl
theorem ws_46 (S : rSt) (f : Nat → Int32) : (Wd S).set 46 (cI 36 f) = Wd (sa S 46 f) := rfl
theorem wf_48_0 (S : rSt) : gI (Wd S) 48 7 0 = some (S.1 48 0) := rfl
theorem wp_48_0 (S : rSt) (x : Int32) : pF (Wd S) 48 7 0 (.int x) = some (Wd (si S 48 0 x)) := rfl
theorem wf_48_1 (S : rSt) : gI (Wd S) 48 7 1 = some (S.1 48 1) := rfl
theorem wp_48_1 (S : rSt) (x : Int32) : pF (Wd S) 48 7 1 (.int x) = some (Wd (si S 48 1 x)) := rfl
theorem wf_48_2 (S : rSt) : gR (Wd S) 48 7 2 = some 49 := rfl
theorem ws_49 (S : rSt) (f : Nat → Int64) : (Wd S).set 49 (cJ 60 f) = Wd (sj S 49 f) := rfl
theorem wf_50_0 (S : rSt) : gI (Wd S) 50 7 0 = some (S.1 50 0) := rfl
theorem wp_50_0 (S : rSt) (x : Int32) : pF (Wd S) 50 7 0 (.int x) = some (Wd (si S 50 0 x)) := rfl
theorem wf_50_1 (S : rSt) : gI (Wd S) 50 7 1 = some (S.1 50 1) := rfl
theorem wp_50_1 (S : rSt) (x : Int32) : pF (Wd S) 50 7 1 (.int x) = some (Wd (si S 50 1 x)) := rfl
theorem wf_50_2 (S : rSt) : gR (Wd S) 50 7 2 = some 51 := rfl
theorem ws_51 (S : rSt) (f : Nat → Int64) : (Wd S).set 51 (cJ 60 f) = Wd (sj S 51 f) := rfl
theorem wf_52_0 (S : rSt) : gI (Wd S) 52 7 0 = some (S.1 52 0) := rfl
theorem wp_52_0 (S : rSt) (x : Int32) : pF (Wd S) 52 7 0 (.int x) = some (Wd (si S 52 0 x)) := rfl
theorem wf_52_1 (S : rSt) : gI (Wd S) 52 7 1 = some (S.1 52 1) := rfl
theorem wp_52_1 (S : rSt) (x : Int32) : pF (Wd S) 52 7 1 (.int x) = some (Wd (si S 52 1 x)) := rfl
theorem wf_52_2 (S : rSt) : gR (Wd S) 52 7 2 = some 53 := rfl
theorem ws_53 (S : rSt) (f : Nat → Int64) : (Wd S).set 53 (cJ 60 f) = Wd (sj S 53 f) := rfl
theorem wf_54_0 (S : rSt) : gI (Wd S) 54 7 0 = some (S.1 54 0) := rfl
theorem wp_54_0 (S : rSt) (x : Int32) : pF (Wd S) 54 7 0 (.int x) = some (Wd (si S 54 0 x)) := rfl
theorem wf_54_1 (S : rSt) : gI (Wd S) 54 7 1 = some (S.1 54 1) := rfl
theorem wp_54_1 (S : rSt) (x : Int32) : pF (Wd S) 54 7 1 (.int x) = some (Wd (si S 54 1 x)) := rfl
theorem wf_54_2 (S : rSt) : gR (Wd S) 54 7 2 = some 55 := rfl
theorem ws_55 (S : rSt) (f : Nat → Int64) : (Wd S).set 55 (cJ 60 f) = Wd (sj S 55 f) := rfl
theorem wf_56_0 (S : rSt) : gI (Wd S) 56 7 0 = some (S.1 56 0) := rfl
theorem wp_56_0 (S : rSt) (x : Int32) : pF (Wd S) 56 7 0 (.int x) = some (Wd (si S 56 0 x)) := rfl
theorem wf_56_1 (S : rSt) : gI (Wd S) 56 7 1 = some (S.1 56 1) := rfl
theorem wp_56_1 (S : rSt) (x : Int32) : pF (Wd S) 56 7 1 (.int x) = some (Wd (si S 56 1 x)) := rfl
theorem wf_56_2 (S : rSt) : gR (Wd S) 56 7 2 = some 57 := rfl
theorem ws_57 (S : rSt) (f : Nat → Int64) : (Wd S).set 57 (cJ 60 f) = Wd (sj S 57 f) := rfl
theorem wf_58_0 (S : rSt) : gI (Wd S) 58 7 0 = some (S.1 58 0) := rfl
theorem wp_58_0 (S : rSt) (x : Int32) : pF (Wd S) 58 7 0 (.int x) = some (Wd (si S 58 0 x)) := rfl
theorem wf_58_1 (S : rSt) : gI (Wd S) 58 7 1 = some (S.1 58 1) := rfl
theorem wp_58_1 (S : rSt) (x : Int32) : pF (Wd S) 58 7 1 (.int x) = some (Wd (si S 58 1 x)) := rfl
theorem wf_58_2 (S : rSt) : gR (Wd S) 58 7 2 = some 59 := rfl
theorem ws_59 (S : rSt) (f : Nat → Int64) : (Wd S).set 59 (cJ 60 f) = Wd (sj S 59 f) := rfl
theorem wf_60_0 (S : rSt) : gI (Wd S) 60 10 0 = some (S.1 60 0) := rfl
theorem wp_60_0 (S : rSt) (x : Int32) : pF (Wd S) 60 10 0 (.int x) = some (Wd (si S 60 0 x)) := rfl
theorem wf_60_1 (S : rSt) : gI (Wd S) 60 10 1 = some (S.1 60 1) := rfl
theorem wp_60_1 (S : rSt) (x : Int32) : pF (Wd S) 60 10 1 (.int x) = some (Wd (si S 60 1 x)) := rfl
theorem wf_60_2 (S : rSt) : gI (Wd S) 60 10 2 = some (S.1 60 2) := rfl
theorem wp_60_2 (S : rSt) (x : Int32) : pF (Wd S) 60 10 2 (.int x) = some (Wd (si S 60 2 x)) := rfl
theorem wf_60_3 (S : rSt) : gI (Wd S) 60 10 3 = some (S.1 60 3) := rfl
theorem wp_60_3 (S : rSt) (x : Int32) : pF (Wd S) 60 10 3 (.int x) = some (Wd (si S 60 3 x)) := rfl
theorem wf_60_4 (S : rSt) : gR (Wd S) 60 10 4 = some 61 := rfl
theorem wf_60_5 (S : rSt) : gR (Wd S) 60 10 5 = some 62 := rfl
theorem wf_60_6 (S : rSt) : gR (Wd S) 60 10 6 = some 63 := rfl
theorem wf_60_7 (S : rSt) : gR (Wd S) 60 10 7 = some 64 := rfl
theorem wf_60_8 (S : rSt) : gR (Wd S) 60 10 8 = some 65 := rfl
theorem wf_60_9 (S : rSt) : gR (Wd S) 60 10 9 = some 66 := rfl
theorem wf_60_10 (S : rSt) : gR (Wd S) 60 10 10 = some 67 := rfl
theorem wf_60_11 (S : rSt) : gI (Wd S) 60 10 11 = some (S.1 60 11) := rfl
theorem wp_60_11 (S : rSt) (x : Int32) : pF (Wd S) 60 10 11 (.int x) = some (Wd (si S 60 11 x)) := rfl
theorem wf_60_12 (S : rSt) : gR (Wd S) 60 10 12 = some 68 := rfl
theorem wf_60_13 (S : rSt) : gR (Wd S) 60 10 13 = some 69 := rfl
theorem wf_60_14 (S : rSt) : gI (Wd S) 60 10 14 = some (S.1 60 14) := rfl
theorem wp_60_14 (S : rSt) (x : Int32) : pF (Wd S) 60 10 14 (.int x) = some (Wd (si S 60 14 x)) := rfl
theorem wf_60_15 (S : rSt) : gR (Wd S) 60 10 15 = some 70 := rfl
theorem wf_60_16 (S : rSt) : gR (Wd S) 60 10 16 = some 71 := rfl
theorem wf_60_17 (S : rSt) : gI (Wd S) 60 10 17 = some (S.1 60 17) := rfl
theorem wp_60_17 (S : rSt) (x : Int32) : pF (Wd S) 60 10 17 (.int x) = some (Wd (si S 60 17 x)) := rfl
theorem wf_60_18 (S : rSt) : gR (Wd S) 60 10 18 = some 72 := rfl
theorem wf_60_19 (S : rSt) : gI (Wd S) 60 10 19 = some (S.1 60 19) := rfl
theorem wp_60_19 (S : rSt) (x : Int32) : pF (Wd S) 60 10 19 (.int x) = some (Wd (si S 60 19 x)) := rfl
theorem wf_60_20 (S : rSt) : gI (Wd S) 60 10 20 = some (S.1 60 20) := rfl
theorem wp_60_20 (S : rSt) (x : Int32) : pF (Wd S) 60 10 20 (.int x) = some (Wd (si S 60 20 x)) := rfl
theorem wf_60_21 (S : rSt) : gR (Wd S) 60 10 21 = some 73 := rfl
theorem wf_60_22 (S : rSt) : gR (Wd S) 60 10 22 = some 74 := rfl
theorem wf_60_23 (S : rSt) : gI (Wd S) 60 10 23 = some (S.1 60 23) := rfl
theorem wp_60_23 (S : rSt) (x : Int32) : pF (Wd S) 60 10 23 (.int x) = some (Wd (si S 60 23 x)) := rfl
theorem wf_60_24 (S : rSt) : gR (Wd S) 60 10 24 = some 75 := rfl
theorem wf_60_25 (S : rSt) : gR (Wd S) 60 10 25 = some 76 := rfl
theorem wf_60_26 (S : rSt) : gR (Wd S) 60 10 26 = some 77 := rfl
theorem wf_60_27 (S : rSt) : gR (Wd S) 60 10 27 = some 78 := rfl
theorem wf_60_28 (S : rSt) : gR (Wd S) 60 10 28 = some 79 := rfl
theorem wf_60_29 (S : rSt) : gI (Wd S) 60 10 29 = some (S.1 60 29) := rfl
theorem wp_60_29 (S : rSt) (x : Int32) : pF (Wd S) 60 10 29 (.int x) = some (Wd (si S 60 29 x)) := rfl
theorem wf_60_30 (S : rSt) : gR (Wd S) 60 10 30 = some 80 := rfl
theorem wf_60_31 (S : rSt) : gR (Wd S) 60 10 31 = some 81 := rfl
theorem wf_60_32 (S : rSt) : gR (Wd S) 60 10 32 = some 82 := rfl
theorem wf_60_33 (S : rSt) : gR (Wd S) 60 10 33 = some 83 := rfl
theorem wf_60_34 (S : rSt) : gI (Wd S) 60 10 34 = some (S.1 60 34) := rfl
theorem wp_60_34 (S : rSt) (x : Int32) : pF (Wd S) 60 10 34 (.int x) = some (Wd (si S 60 34 x)) := rfl
theorem wf_60_35 (S : rSt) : gR (Wd S) 60 10 35 = some 84 := rfl
theorem wf_60_36 (S : rSt) : gR (Wd S) 60 10 36 = some 85 := rfl
theorem wf_60_37 (S : rSt) : gR (Wd S) 60 10 37 = some 86 := rfl
theorem wf_60_38 (S : rSt) : gI (Wd S) 60 10 38 = some (S.1 60 38) := rfl
theorem wp_60_38 (S : rSt) (x : Int32) : pF (Wd S) 60 10 38 (.int x) = some (Wd (si S 60 38 x)) := rfl
theorem wf_60_39 (S : rSt) : gI (Wd S) 60 10 39 = some (S.1 60 39) := rfl
theorem wp_60_39 (S : rSt) (x : Int32) : pF (Wd S) 60 10 39 (.int x) = some (Wd (si S 60 39 x)) := rfl
theorem wf_60_40 (S : rSt) : gI (Wd S) 60 10 40 = some (S.1 60 40) := rfl
theorem wp_60_40 (S : rSt) (x : Int32) : pF (Wd S) 60 10 40 (.int x) = some (Wd (si S 60 40 x)) := rfl
theorem wf_60_41 (S : rSt) : gI (Wd S) 60 10 41 = some (S.1 60 41) := rfl
theorem wp_60_41 (S : rSt) (x : Int32) : pF (Wd S) 60 10 41 (.int x) = some (Wd (si S 60 41 x)) := rfl
theorem ws_61 (S : rSt) (f : Nat → Int32) : (Wd S).set 61 (cI 56 f) = Wd (sa S 61 f) := rfl
theorem ws_62 (S : rSt) (f : Nat → Int32) : (Wd S).set 62 (cI 256 f) = Wd (sa S 62 f) := rfl
theorem ws_63 (S : rSt) (f : Nat → Int32) : (Wd S).set 63 (cI 56 f) = Wd (sa S 63 f) := rfl
theorem ws_64 (S : rSt) (f : Nat → Int32) : (Wd S).set 64 (cI 56 f) = Wd (sa S 64 f) := rfl
theorem ws_65 (S : rSt) (f : Nat → Int32) : (Wd S).set 65 (cI 56 f) = Wd (sa S 65 f) := rfl
theorem ws_66 (S : rSt) (f : Nat → Int32) : (Wd S).set 66 (cI 4 f) = Wd (sa S 66 f) := rfl
theorem ws_67 (S : rSt) (f : Nat → Int32) : (Wd S).set 67 (cI 4 f) = Wd (sa S 67 f) := rfl
theorem ws_68 (S : rSt) (f : Nat → Int32) : (Wd S).set 68 (cI 8 f) = Wd (sa S 68 f) := rfl
theorem ws_69 (S : rSt) (f : Nat → Int32) : (Wd S).set 69 (cI 8 f) = Wd (sa S 69 f) := rfl
theorem ws_70 (S : rSt) (f : Nat → Int32) : (Wd S).set 70 (cI 8 f) = Wd (sa S 70 f) := rfl
theorem ws_71 (S : rSt) (f : Nat → Int32) : (Wd S).set 71 (cI 8 f) = Wd (sa S 71 f) := rfl
theorem ws_72 (S : rSt) (f : Nat → Int32) : (Wd S).set 72 (cI 100 f) = Wd (sa S 72 f) := rfl
theorem ws_73 (S : rSt) (f : Nat → Int32) : (Wd S).set 73 (cI 12 f) = Wd (sa S 73 f) := rfl
theorem ws_74 (S : rSt) (f : Nat → Int32) : (Wd S).set 74 (cI 36 f) = Wd (sa S 74 f) := rfl
theorem ws_75 (S : rSt) (f : Nat → Int64) : (Wd S).set 75 (cJ 360 f) = Wd (sj S 75 f) := rfl
theorem ws_76 (S : rSt) (f : Nat → Int32) : (Wd S).set 76 (cI 6 f) = Wd (sa S 76 f) := rfl
theorem ws_77 (S : rSt) (f : Nat → Int32) : (Wd S).set 77 (cI 6 f) = Wd (sa S 77 f) := rfl
theorem ws_78 (S : rSt) (f : Nat → Int32) : (Wd S).set 78 (cI 220 f) = Wd (sa S 78 f) := rfl
theorem ws_79 (S : rSt) (f : Nat → Int32) : (Wd S).set 79 (cI 220 f) = Wd (sa S 79 f) := rfl
theorem ws_80 (S : rSt) (f : Nat → Int32) : (Wd S).set 80 (cI 56 f) = Wd (sa S 80 f) := rfl
theorem ws_81 (S : rSt) (f : Nat → Int32) : (Wd S).set 81 (cI 8 f) = Wd (sa S 81 f) := rfl
theorem ws_82 (S : rSt) (f : Nat → Int32) : (Wd S).set 82 (cI 56 f) = Wd (sa S 82 f) := rfl
theorem ws_83 (S : rSt) (f : Nat → Int32) : (Wd S).set 83 (cI 600 f) = Wd (sa S 83 f) := rfl
theorem ws_84 (S : rSt) (f : Nat → Int32) : (Wd S).set 84 (cI 56 f) = Wd (sa S 84 f) := rfl
theorem ws_85 (S : rSt) (f : Nat → Int32) : (Wd S).set 85 (cI 56 f) = Wd (sa S 85 f) := rfl
theorem ws_86 (S : rSt) (f : Nat → Int32) : (Wd S).set 86 (cI 1536 f) = Wd (sa S 86 f) := rfl
theorem wr_0 {α : Type} (S : rSt) (F : Option α) : rRc (Wd S) 0 9 F = F := Eq.trans rfl rfl
theorem wr_1 {α : Type} (S : rSt) (F : Option α) : rRc (Wd S) 1 6 F = F := Eq.trans rfl rfl
theorem wr_2 {α : Type} (S : rSt) (F : Option α) : rRc (Wd S) 2 0 F = F := Eq.trans rfl rfl
theorem wa_3 {S : rSt} {j : Nat} (h : j < 56) : aI (Wd S) 3 (nI j) = some (S.2.2.1 3 j) := aI_eq (wg_3 S) h (by decide)
theorem wt_3 {S : rSt} {j : Nat} {x : Int32} (h : j < 56) : sI (Wd S) 3 (nI j) x = some (Wd (sa S 3 (upd (S.2.2.1 3) j x))) := by rw [sI_eq (wg_3 S) h (by decide), ws_3]
theorem wa_4 {S : rSt} {j : Nat} (h : j < 256) : aI (Wd S) 4 (nI j) = some (S.2.2.1 4 j) := aI_eq (wg_4 S) h (by decide)
theorem wt_4 {S : rSt} {j : Nat} {x : Int32} (h : j < 256) : sI (Wd S) 4 (nI j) x = some (Wd (sa S 4 (upd (S.2.2.1 4) j x))) := by rw [sI_eq (wg_4 S) h (by decide), ws_4]
theorem wr_5 {α : Type} (S : rSt) (F : Option α) : rRc (Wd S) 5 5 F = F := Eq.trans rfl rfl
theorem wa_6 {S : rSt} {j : Nat} (h : j < 56) : aI (Wd S) 6 (nI j) = some (S.2.2.1 6 j) := aI_eq (wg_6 S) h (by decide)
theorem wt_6 {S : rSt} {j : Nat} {x : Int32} (h : j < 56) : sI (Wd S) 6 (nI j) x = some (Wd (sa S 6 (upd (S.2.2.1 6) j x))) := by rw [sI_eq (wg_6 S) h (by decide), ws_6]
theorem wr_7 {α : Type} (S : rSt) (F : Option α) : rRc (Wd S) 7 3 F = F := Eq.trans rfl rfl
theorem wa_8 {S : rSt} {j : Nat} (h : j < 4) : aI (Wd S) 8 (nI j) = some (S.2.2.1 8 j) := aI_eq (wg_8 S) h (by decide)
theorem wt_8 {S : rSt} {j : Nat} {x : Int32} (h : j < 4) : sI (Wd S) 8 (nI j) x = some (Wd (sa S 8 (upd (S.2.2.1 8) j x))) := by rw [sI_eq (wg_8 S) h (by decide), ws_8]
theorem wa_9 {S : rSt} {j : Nat} (h : j < 4) : aI (Wd S) 9 (nI j) = some (S.2.2.1 9 j) := aI_eq (wg_9 S) h (by decide)
theorem wt_9 {S : rSt} {j : Nat} {x : Int32} (h : j < 4) : sI (Wd S) 9 (nI j) x = some (Wd (sa S 9 (upd (S.2.2.1 9) j x))) := by rw [sI_eq (wg_9 S) h (by decide), ws_9]
theorem wr_10 {α : Type} (S : rSt) (F : Option α) : rRc (Wd S) 10 3 F = F := Eq.trans rfl rfl
theorem wa_11 {S : rSt} {j : Nat} (h : j < 8) : aI (Wd S) 11 (nI j) = some (S.2.2.1 11 j) := aI_eq (wg_11 S) h (by decide)
theorem wt_11 {S : rSt} {j : Nat} {x : Int32} (h : j < 8) : sI (Wd S) 11 (nI j) x = some (Wd (sa S 11 (upd (S.2.2.1 11) j x))) := by rw [sI_eq (wg_11 S) h (by decide), ws_11]
theorem wa_12 {S : rSt} {j : Nat} (h : j < 8) : aI (Wd S) 12 (nI j) = some (S.2.2.1 12 j) := aI_eq (wg_12 S) h (by decide)
theorem wt_12 {S : rSt} {j : Nat} {x : Int32} (h : j < 8) : sI (Wd S) 12 (nI j) x = some (Wd (sa S 12 (upd (S.2.2.1 12) j x))) := by rw [sI_eq (wg_12 S) h (by decide), ws_12]
theorem wr_13 {α : Type} (S : rSt) (F : Option α) : rRc (Wd S) 13 3 F = F := Eq.trans rfl rfl
theorem wa_14 {S : rSt} {j : Nat} (h : j < 8) : aI (Wd S) 14 (nI j) = some (S.2.2.1 14 j) := aI_eq (wg_14 S) h (by decide)
theorem wt_14 {S : rSt} {j : Nat} {x : Int32} (h : j < 8) : sI (Wd S) 14 (nI j) x = some (Wd (sa S 14 (upd (S.2.2.1 14) j x))) := by rw [sI_eq (wg_14 S) h (by decide), ws_14]
theorem wa_15 {S : rSt} {j : Nat} (h : j < 8) : aI (Wd S) 15 (nI j) = some (S.2.2.1 15 j) := aI_eq (wg_15 S) h (by decide)
theorem wt_15 {S : rSt} {j : Nat} {x : Int32} (h : j < 8) : sI (Wd S) 15 (nI j) x = some (Wd (sa S 15 (upd (S.2.2.1 15) j x))) := by rw [sI_eq (wg_15 S) h (by decide), ws_15]
theorem wr_16 {α : Type} (S : rSt) (F : Option α) : rRc (Wd S) 16 6 F = F := Eq.trans rfl rfl
theorem wr_17 {α : Type} (S : rSt) (F : Option α) : rRc (Wd S) 17 0 F = F := Eq.trans rfl rfl
theorem wa_18 {S : rSt} {j : Nat} (h : j < 56) : aI (Wd S) 18 (nI j) = some (S.2.2.1 18 j) := aI_eq (wg_18 S) h (by decide)
theorem wt_18 {S : rSt} {j : Nat} {x : Int32} (h : j < 56) : sI (Wd S) 18 (nI j) x = some (Wd (sa S 18 (upd (S.2.2.1 18) j x))) := by rw [sI_eq (wg_18 S) h (by decide), ws_18]
theorem wa_19 {S : rSt} {j : Nat} (h : j < 256) : aI (Wd S) 19 (nI j) = some (S.2.2.1 19 j) := aI_eq (wg_19 S) h (by decide)
theorem wt_19 {S : rSt} {j : Nat} {x : Int32} (h : j < 256) : sI (Wd S) 19 (nI j) x = some (Wd (sa S 19 (upd (S.2.2.1 19) j x))) := by rw [sI_eq (wg_19 S) h (by decide), ws_19]
theorem wr_20 {α : Type} (S : rSt) (F : Option α) : rRc (Wd S) 20 5 F = F := Eq.trans rfl rfl
theorem wa_21 {S : rSt} {j : Nat} (h : j < 56) : aI (Wd S) 21 (nI j) = some (S.2.2.1 21 j) := aI_eq (wg_21 S) h (by decide)
theorem wt_21 {S : rSt} {j : Nat} {x : Int32} (h : j < 56) : sI (Wd S) 21 (nI j) x = some (Wd (sa S 21 (upd (S.2.2.1 21) j x))) := by rw [sI_eq (wg_21 S) h (by decide), ws_21]
theorem wr_22 {α : Type} (S : rSt) (F : Option α) : rRc (Wd S) 22 3 F = F := Eq.trans rfl rfl
theorem wa_23 {S : rSt} {j : Nat} (h : j < 4) : aI (Wd S) 23 (nI j) = some (S.2.2.1 23 j) := aI_eq (wg_23 S) h (by decide)
theorem wt_23 {S : rSt} {j : Nat} {x : Int32} (h : j < 4) : sI (Wd S) 23 (nI j) x = some (Wd (sa S 23 (upd (S.2.2.1 23) j x))) := by rw [sI_eq (wg_23 S) h (by decide), ws_23]
theorem wa_24 {S : rSt} {j : Nat} (h : j < 4) : aI (Wd S) 24 (nI j) = some (S.2.2.1 24 j) := aI_eq (wg_24 S) h (by decide)
theorem wt_24 {S : rSt} {j : Nat} {x : Int32} (h : j < 4) : sI (Wd S) 24 (nI j) x = some (Wd (sa S 24 (upd (S.2.2.1 24) j x))) := by rw [sI_eq (wg_24 S) h (by decide), ws_24]
theorem wr_25 {α : Type} (S : rSt) (F : Option α) : rRc (Wd S) 25 3 F = F := Eq.trans rfl rfl
theorem wa_26 {S : rSt} {j : Nat} (h : j < 8) : aI (Wd S) 26 (nI j) = some (S.2.2.1 26 j) := aI_eq (wg_26 S) h (by decide)
theorem wt_26 {S : rSt} {j : Nat} {x : Int32} (h : j < 8) : sI (Wd S) 26 (nI j) x = some (Wd (sa S 26 (upd (S.2.2.1 26) j x))) := by rw [sI_eq (wg_26 S) h (by decide), ws_26]
theorem wa_27 {S : rSt} {j : Nat} (h : j < 8) : aI (Wd S) 27 (nI j) = some (S.2.2.1 27 j) := aI_eq (wg_27 S) h (by decide)
theorem wt_27 {S : rSt} {j : Nat} {x : Int32} (h : j < 8) : sI (Wd S) 27 (nI j) x = some (Wd (sa S 27 (upd (S.2.2.1 27) j x))) := by rw [sI_eq (wg_27 S) h (by decide), ws_27]
theorem wr_28 {α : Type} (S : rSt) (F : Option α) : rRc (Wd S) 28 3 F = F := Eq.trans rfl rfl
theorem wa_29 {S : rSt} {j : Nat} (h : j < 8) : aI (Wd S) 29 (nI j) = some (S.2.2.1 29 j) := aI_eq (wg_29 S) h (by decide)
theorem wt_29 {S : rSt} {j : Nat} {x : Int32} (h : j < 8) : sI (Wd S) 29 (nI j) x = some (Wd (sa S 29 (upd (S.2.2.1 29) j x))) := by rw [sI_eq (wg_29 S) h (by decide), ws_29]
theorem wa_30 {S : rSt} {j : Nat} (h : j < 8) : aI (Wd S) 30 (nI j) = some (S.2.2.1 30 j) := aI_eq (wg_30 S) h (by decide)
theorem wt_30 {S : rSt} {j : Nat} {x : Int32} (h : j < 8) : sI (Wd S) 30 (nI j) x = some (Wd (sa S 30 (upd (S.2.2.1 30) j x))) := by rw [sI_eq (wg_30 S) h (by decide), ws_30]
theorem wr_31 {α : Type} (S : rSt) (F : Option α) : rRc (Wd S) 31 5 F = F := Eq.trans rfl rfl
theorem wa_32 {S : rSt} {j : Nat} (h : j < 56) : aI (Wd S) 32 (nI j) = some (S.2.2.1 32 j) := aI_eq (wg_32 S) h (by decide)
theorem wt_32 {S : rSt} {j : Nat} {x : Int32} (h : j < 56) : sI (Wd S) 32 (nI j) x = some (Wd (sa S 32 (upd (S.2.2.1 32) j x))) := by rw [sI_eq (wg_32 S) h (by decide), ws_32]
theorem wr_33 {α : Type} (S : rSt) (F : Option α) : rRc (Wd S) 33 8 F = F := Eq.trans rfl rfl
theorem wa_34 {S : rSt} {j : Nat} (h : j < 6) : aI (Wd S) 34 (nI j) = some (S.2.2.1 34 j) := aI_eq (wg_34 S) h (by decide)
theorem wt_34 {S : rSt} {j : Nat} {x : Int32} (h : j < 6) : sI (Wd S) 34 (nI j) x = some (Wd (sa S 34 (upd (S.2.2.1 34) j x))) := by rw [sI_eq (wg_34 S) h (by decide), ws_34]
theorem wr_35 {α : Type} (S : rSt) (F : Option α) : rRc (Wd S) 35 1 F = F := Eq.trans rfl rfl
theorem wr_36 {α : Type} (S : rSt) (F : Option α) : rRc (Wd S) 36 8 F = F := Eq.trans rfl rfl
theorem wa_37 {S : rSt} {j : Nat} (h : j < 6) : aI (Wd S) 37 (nI j) = some (S.2.2.1 37 j) := aI_eq (wg_37 S) h (by decide)
theorem wt_37 {S : rSt} {j : Nat} {x : Int32} (h : j < 6) : sI (Wd S) 37 (nI j) x = some (Wd (sa S 37 (upd (S.2.2.1 37) j x))) := by rw [sI_eq (wg_37 S) h (by decide), ws_37]
theorem wr_38 {α : Type} (S : rSt) (F : Option α) : rRc (Wd S) 38 2 F = F := Eq.trans rfl rfl
theorem wa_39 {S : rSt} {j : Nat} (h : j < 20) : aJ (Wd S) 39 (nI j) = some (S.2.2.2 39 j) := aJ_eq (wg_39 S) h (by decide)
theorem wt_39 {S : rSt} {j : Nat} {x : Int64} (h : j < 20) : sJ (Wd S) 39 (nI j) x = some (Wd (sj S 39 (vp_updL (S.2.2.2 39) j x))) := by rw [sJ_eq (wg_39 S) h (by decide), ws_39]
theorem wa_40 {S : rSt} {j : Nat} (h : j < 6) : aJ (Wd S) 40 (nI j) = some (S.2.2.2 40 j) := aJ_eq (wg_40 S) h (by decide)
theorem wt_40 {S : rSt} {j : Nat} {x : Int64} (h : j < 6) : sJ (Wd S) 40 (nI j) x = some (Wd (sj S 40 (vp_updL (S.2.2.2 40) j x))) := by rw [sJ_eq (wg_40 S) h (by decide), ws_40]
theorem wa_41 {S : rSt} {j : Nat} (h : j < 20) : aI (Wd S) 41 (nI j) = some (S.2.2.1 41 j) := aI_eq (wg_41 S) h (by decide)
theorem wt_41 {S : rSt} {j : Nat} {x : Int32} (h : j < 20) : sI (Wd S) 41 (nI j) x = some (Wd (sa S 41 (upd (S.2.2.1 41) j x))) := by rw [sI_eq (wg_41 S) h (by decide), ws_41]
theorem wa_42 {S : rSt} {j : Nat} (h : j < 20) : aI (Wd S) 42 (nI j) = some (S.2.2.1 42 j) := aI_eq (wg_42 S) h (by decide)
theorem wt_42 {S : rSt} {j : Nat} {x : Int32} (h : j < 20) : sI (Wd S) 42 (nI j) x = some (Wd (sa S 42 (upd (S.2.2.1 42) j x))) := by rw [sI_eq (wg_42 S) h (by decide), ws_42]
theorem wr_43 {α : Type} (S : rSt) (F : Option α) : rRc (Wd S) 43 4 F = F := Eq.trans rfl rfl
theorem wa_44 {S : rSt} {j : Nat} (h : j < 100) : aI (Wd S) 44 (nI j) = some (S.2.2.1 44 j) := aI_eq (wg_44 S) h (by decide)
theorem wt_44 {S : rSt} {j : Nat} {x : Int32} (h : j < 100) : sI (Wd S) 44 (nI j) x = some (Wd (sa S 44 (upd (S.2.2.1 44) j x))) := by rw [sI_eq (wg_44 S) h (by decide), ws_44]
theorem wa_45 {S : rSt} {j : Nat} (h : j < 12) : aI (Wd S) 45 (nI j) = some (S.2.2.1 45 j) := aI_eq (wg_45 S) h (by decide)
theorem wt_45 {S : rSt} {j : Nat} {x : Int32} (h : j < 12) : sI (Wd S) 45 (nI j) x = some (Wd (sa S 45 (upd (S.2.2.1 45) j x))) := by rw [sI_eq (wg_45 S) h (by decide), ws_45]
theorem wa_46 {S : rSt} {j : Nat} (h : j < 36) : aI (Wd S) 46 (nI j) = some (S.2.2.1 46 j) := aI_eq (wg_46 S) h (by decide)
theorem wt_46 {S : rSt} {j : Nat} {x : Int32} (h : j < 36) : sI (Wd S) 46 (nI j) x = some (Wd (sa S 46 (upd (S.2.2.1 46) j x))) := by rw [sI_eq (wg_46 S) h (by decide), ws_46]
theorem wr_48 {α : Type} (S : rSt) (F : Option α) : rRc (Wd S) 48 7 F = F := Eq.trans rfl rfl
theorem wa_49 {S : rSt} {j : Nat} (h : j < 60) : aJ (Wd S) 49 (nI j) = some (S.2.2.2 49 j) := aJ_eq (wg_49 S) h (by decide)
theorem wt_49 {S : rSt} {j : Nat} {x : Int64} (h : j < 60) : sJ (Wd S) 49 (nI j) x = some (Wd (sj S 49 (vp_updL (S.2.2.2 49) j x))) := by rw [sJ_eq (wg_49 S) h (by decide), ws_49]
theorem wr_50 {α : Type} (S : rSt) (F : Option α) : rRc (Wd S) 50 7 F = F := Eq.trans rfl rfl
theorem wa_51 {S : rSt} {j : Nat} (h : j < 60) : aJ (Wd S) 51 (nI j) = some (S.2.2.2 51 j) := aJ_eq (wg_51 S) h (by decide)
theorem wt_51 {S : rSt} {j : Nat} {x : Int64} (h : j < 60) : sJ (Wd S) 51 (nI j) x = some (Wd (sj S 51 (vp_updL (S.2.2.2 51) j x))) := by rw [sJ_eq (wg_51 S) h (by decide), ws_51]
theorem wr_52 {α : Type} (S : rSt) (F : Option α) : rRc (Wd S) 52 7 F = F := Eq.trans rfl rfl
theorem wa_53 {S : rSt} {j : Nat} (h : j < 60) : aJ (Wd S) 53 (nI j) = some (S.2.2.2 53 j) := aJ_eq (wg_53 S) h (by decide)
theorem wt_53 {S : rSt} {j : Nat} {x : Int64} (h : j < 60) : sJ (Wd S) 53 (nI j) x = some (Wd (sj S 53 (vp_updL (S.2.2.2 53) j x))) := by rw [sJ_eq (wg_53 S) h (by decide), ws_53]
theorem wr_54 {α : Type} (S : rSt) (F : Option α) : rRc (Wd S) 54 7 F = F := Eq.trans rfl rfl
theorem wa_55 {S : rSt} {j : Nat} (h : j < 60) : aJ (Wd S) 55 (nI j) = some (S.2.2.2 55 j) := aJ_eq (wg_55 S) h (by decide)
theorem wt_55 {S : rSt} {j : Nat} {x : Int64} (h : j < 60) : sJ (Wd S) 55 (nI j) x = some (Wd (sj S 55 (vp_updL (S.2.2.2 55) j x))) := by rw [sJ_eq (wg_55 S) h (by decide), ws_55]
theorem wr_56 {α : Type} (S : rSt) (F : Option α) : rRc (Wd S) 56 7 F = F := Eq.trans rfl rfl
theorem wa_57 {S : rSt} {j : Nat} (h : j < 60) : aJ (Wd S) 57 (nI j) = some (S.2.2.2 57 j) := aJ_eq (wg_57 S) h (by decide)
theorem wt_57 {S : rSt} {j : Nat} {x : Int64} (h : j < 60) : sJ (Wd S) 57 (nI j) x = some (Wd (sj S 57 (vp_updL (S.2.2.2 57) j x))) := by rw [sJ_eq (wg_57 S) h (by decide), ws_57]
theorem wr_58 {α : Type} (S : rSt) (F : Option α) : rRc (Wd S) 58 7 F = F := Eq.trans rfl rfl
theorem wa_59 {S : rSt} {j : Nat} (h : j < 60) : aJ (Wd S) 59 (nI j) = some (S.2.2.2 59 j) := aJ_eq (wg_59 S) h (by decide)
theorem wt_59 {S : rSt} {j : Nat} {x : Int64} (h : j < 60) : sJ (Wd S) 59 (nI j) x = some (Wd (sj S 59 (vp_updL (S.2.2.2 59) j x))) := by rw [sJ_eq (wg_59 S) h (by decide), ws_59]
theorem wr_60 {α : Type} (S : rSt) (F : Option α) : rRc (Wd S) 60 10 F = F := Eq.trans rfl rfl
theorem wa_61 {S : rSt} {j : Nat} (h : j < 56) : aI (Wd S) 61 (nI j) = some (S.2.2.1 61 j) := aI_eq (wg_61 S) h (by decide)
theorem wt_61 {S : rSt} {j : Nat} {x : Int32} (h : j < 56) : sI (Wd S) 61 (nI j) x = some (Wd (sa S 61 (upd (S.2.2.1 61) j x))) := by rw [sI_eq (wg_61 S) h (by decide), ws_61]
theorem wa_62 {S : rSt} {j : Nat} (h : j < 256) : aI (Wd S) 62 (nI j) = some (S.2.2.1 62 j) := aI_eq (wg_62 S) h (by decide)
theorem wt_62 {S : rSt} {j : Nat} {x : Int32} (h : j < 256) : sI (Wd S) 62 (nI j) x = some (Wd (sa S 62 (upd (S.2.2.1 62) j x))) := by rw [sI_eq (wg_62 S) h (by decide), ws_62]
theorem wa_63 {S : rSt} {j : Nat} (h : j < 56) : aI (Wd S) 63 (nI j) = some (S.2.2.1 63 j) := aI_eq (wg_63 S) h (by decide)
theorem wt_63 {S : rSt} {j : Nat} {x : Int32} (h : j < 56) : sI (Wd S) 63 (nI j) x = some (Wd (sa S 63 (upd (S.2.2.1 63) j x))) := by rw [sI_eq (wg_63 S) h (by decide), ws_63]
theorem wa_64 {S : rSt} {j : Nat} (h : j < 56) : aI (Wd S) 64 (nI j) = some (S.2.2.1 64 j) := aI_eq (wg_64 S) h (by decide)
theorem wt_64 {S : rSt} {j : Nat} {x : Int32} (h : j < 56) : sI (Wd S) 64 (nI j) x = some (Wd (sa S 64 (upd (S.2.2.1 64) j x))) := by rw [sI_eq (wg_64 S) h (by decide), ws_64]
theorem wa_65 {S : rSt} {j : Nat} (h : j < 56) : aI (Wd S) 65 (nI j) = some (S.2.2.1 65 j) := aI_eq (wg_65 S) h (by decide)
theorem wt_65 {S : rSt} {j : Nat} {x : Int32} (h : j < 56) : sI (Wd S) 65 (nI j) x = some (Wd (sa S 65 (upd (S.2.2.1 65) j x))) := by rw [sI_eq (wg_65 S) h (by decide), ws_65]
theorem wa_66 {S : rSt} {j : Nat} (h : j < 4) : aI (Wd S) 66 (nI j) = some (S.2.2.1 66 j) := aI_eq (wg_66 S) h (by decide)
theorem wt_66 {S : rSt} {j : Nat} {x : Int32} (h : j < 4) : sI (Wd S) 66 (nI j) x = some (Wd (sa S 66 (upd (S.2.2.1 66) j x))) := by rw [sI_eq (wg_66 S) h (by decide), ws_66]
theorem wa_67 {S : rSt} {j : Nat} (h : j < 4) : aI (Wd S) 67 (nI j) = some (S.2.2.1 67 j) := aI_eq (wg_67 S) h (by decide)
theorem wt_67 {S : rSt} {j : Nat} {x : Int32} (h : j < 4) : sI (Wd S) 67 (nI j) x = some (Wd (sa S 67 (upd (S.2.2.1 67) j x))) := by rw [sI_eq (wg_67 S) h (by decide), ws_67]
theorem wa_68 {S : rSt} {j : Nat} (h : j < 8) : aI (Wd S) 68 (nI j) = some (S.2.2.1 68 j) := aI_eq (wg_68 S) h (by decide)
theorem wt_68 {S : rSt} {j : Nat} {x : Int32} (h : j < 8) : sI (Wd S) 68 (nI j) x = some (Wd (sa S 68 (upd (S.2.2.1 68) j x))) := by rw [sI_eq (wg_68 S) h (by decide), ws_68]
theorem wa_69 {S : rSt} {j : Nat} (h : j < 8) : aI (Wd S) 69 (nI j) = some (S.2.2.1 69 j) := aI_eq (wg_69 S) h (by decide)
theorem wt_69 {S : rSt} {j : Nat} {x : Int32} (h : j < 8) : sI (Wd S) 69 (nI j) x = some (Wd (sa S 69 (upd (S.2.2.1 69) j x))) := by rw [sI_eq (wg_69 S) h (by decide), ws_69]
theorem wa_70 {S : rSt} {j : Nat} (h : j < 8) : aI (Wd S) 70 (nI j) = some (S.2.2.1 70 j) := aI_eq (wg_70 S) h (by decide)
theorem wt_70 {S : rSt} {j : Nat} {x : Int32} (h : j < 8) : sI (Wd S) 70 (nI j) x = some (Wd (sa S 70 (upd (S.2.2.1 70) j x))) := by rw [sI_eq (wg_70 S) h (by decide), ws_70]
theorem wa_71 {S : rSt} {j : Nat} (h : j < 8) : aI (Wd S) 71 (nI j) = some (S.2.2.1 71 j) := aI_eq (wg_71 S) h (by decide)
theorem wt_71 {S : rSt} {j : Nat} {x : Int32} (h : j < 8) : sI (Wd S) 71 (nI j) x = some (Wd (sa S 71 (upd (S.2.2.1 71) j x))) := by rw [sI_eq (wg_71 S) h (by decide), ws_71]
theorem wa_72 {S : rSt} {j : Nat} (h : j < 100) : aI (Wd S) 72 (nI j) = some (S.2.2.1 72 j) := aI_eq (wg_72 S) h (by decide)
theorem wt_72 {S : rSt} {j : Nat} {x : Int32} (h : j < 100) : sI (Wd S) 72 (nI j) x = some (Wd (sa S 72 (upd (S.2.2.1 72) j x))) := by rw [sI_eq (wg_72 S) h (by decide), ws_72]
theorem wa_73 {S : rSt} {j : Nat} (h : j < 12) : aI (Wd S) 73 (nI j) = some (S.2.2.1 73 j) := aI_eq (wg_73 S) h (by decide)
theorem wt_73 {S : rSt} {j : Nat} {x : Int32} (h : j < 12) : sI (Wd S) 73 (nI j) x = some (Wd (sa S 73 (upd (S.2.2.1 73) j x))) := by rw [sI_eq (wg_73 S) h (by decide), ws_73]
theorem wa_74 {S : rSt} {j : Nat} (h : j < 36) : aI (Wd S) 74 (nI j) = some (S.2.2.1 74 j) := aI_eq (wg_74 S) h (by decide)
theorem wt_74 {S : rSt} {j : Nat} {x : Int32} (h : j < 36) : sI (Wd S) 74 (nI j) x = some (Wd (sa S 74 (upd (S.2.2.1 74) j x))) := by rw [sI_eq (wg_74 S) h (by decide), ws_74]
theorem wa_75 {S : rSt} {j : Nat} (h : j < 360) : aJ (Wd S) 75 (nI j) = some (S.2.2.2 75 j) := aJ_eq (wg_75 S) h (by decide)
theorem wt_75 {S : rSt} {j : Nat} {x : Int64} (h : j < 360) : sJ (Wd S) 75 (nI j) x = some (Wd (sj S 75 (vp_updL (S.2.2.2 75) j x))) := by rw [sJ_eq (wg_75 S) h (by decide), ws_75]
theorem wa_76 {S : rSt} {j : Nat} (h : j < 6) : aI (Wd S) 76 (nI j) = some (S.2.2.1 76 j) := aI_eq (wg_76 S) h (by decide)
theorem wt_76 {S : rSt} {j : Nat} {x : Int32} (h : j < 6) : sI (Wd S) 76 (nI j) x = some (Wd (sa S 76 (upd (S.2.2.1 76) j x))) := by rw [sI_eq (wg_76 S) h (by decide), ws_76]
theorem wa_77 {S : rSt} {j : Nat} (h : j < 6) : aI (Wd S) 77 (nI j) = some (S.2.2.1 77 j) := aI_eq (wg_77 S) h (by decide)
theorem wt_77 {S : rSt} {j : Nat} {x : Int32} (h : j < 6) : sI (Wd S) 77 (nI j) x = some (Wd (sa S 77 (upd (S.2.2.1 77) j x))) := by rw [sI_eq (wg_77 S) h (by decide), ws_77]
theorem wa_78 {S : rSt} {j : Nat} (h : j < 220) : aI (Wd S) 78 (nI j) = some (S.2.2.1 78 j) := aI_eq (wg_78 S) h (by decide)
theorem wt_78 {S : rSt} {j : Nat} {x : Int32} (h : j < 220) : sI (Wd S) 78 (nI j) x = some (Wd (sa S 78 (upd (S.2.2.1 78) j x))) := by rw [sI_eq (wg_78 S) h (by decide), ws_78]
theorem wa_79 {S : rSt} {j : Nat} (h : j < 220) : aI (Wd S) 79 (nI j) = some (S.2.2.1 79 j) := aI_eq (wg_79 S) h (by decide)
theorem wt_79 {S : rSt} {j : Nat} {x : Int32} (h : j < 220) : sI (Wd S) 79 (nI j) x = some (Wd (sa S 79 (upd (S.2.2.1 79) j x))) := by rw [sI_eq (wg_79 S) h (by decide), ws_79]
theorem wa_80 {S : rSt} {j : Nat} (h : j < 56) : aI (Wd S) 80 (nI j) = some (S.2.2.1 80 j) := aI_eq (wg_80 S) h (by decide)
theorem wt_80 {S : rSt} {j : Nat} {x : Int32} (h : j < 56) : sI (Wd S) 80 (nI j) x = some (Wd (sa S 80 (upd (S.2.2.1 80) j x))) := by rw [sI_eq (wg_80 S) h (by decide), ws_80]
theorem wa_81 {S : rSt} {j : Nat} (h : j < 8) : aI (Wd S) 81 (nI j) = some (S.2.2.1 81 j) := aI_eq (wg_81 S) h (by decide)
theorem wt_81 {S : rSt} {j : Nat} {x : Int32} (h : j < 8) : sI (Wd S) 81 (nI j) x = some (Wd (sa S 81 (upd (S.2.2.1 81) j x))) := by rw [sI_eq (wg_81 S) h (by decide), ws_81]
theorem wa_82 {S : rSt} {j : Nat} (h : j < 56) : aI (Wd S) 82 (nI j) = some (S.2.2.1 82 j) := aI_eq (wg_82 S) h (by decide)
theorem wt_82 {S : rSt} {j : Nat} {x : Int32} (h : j < 56) : sI (Wd S) 82 (nI j) x = some (Wd (sa S 82 (upd (S.2.2.1 82) j x))) := by rw [sI_eq (wg_82 S) h (by decide), ws_82]
theorem wa_83 {S : rSt} {j : Nat} (h : j < 600) : aI (Wd S) 83 (nI j) = some (S.2.2.1 83 j) := aI_eq (wg_83 S) h (by decide)
theorem wt_83 {S : rSt} {j : Nat} {x : Int32} (h : j < 600) : sI (Wd S) 83 (nI j) x = some (Wd (sa S 83 (upd (S.2.2.1 83) j x))) := by rw [sI_eq (wg_83 S) h (by decide), ws_83]
theorem wa_84 {S : rSt} {j : Nat} (h : j < 56) : aI (Wd S) 84 (nI j) = some (S.2.2.1 84 j) := aI_eq (wg_84 S) h (by decide)
theorem wt_84 {S : rSt} {j : Nat} {x : Int32} (h : j < 56) : sI (Wd S) 84 (nI j) x = some (Wd (sa S 84 (upd (S.2.2.1 84) j x))) := by rw [sI_eq (wg_84 S) h (by decide), ws_84]
theorem wa_85 {S : rSt} {j : Nat} (h : j < 56) : aI (Wd S) 85 (nI j) = some (S.2.2.1 85 j) := aI_eq (wg_85 S) h (by decide)
theorem wt_85 {S : rSt} {j : Nat} {x : Int32} (h : j < 56) : sI (Wd S) 85 (nI j) x = some (Wd (sa S 85 (upd (S.2.2.1 85) j x))) := by rw [sI_eq (wg_85 S) h (by decide), ws_85]
theorem wa_86 {S : rSt} {j : Nat} (h : j < 1536) : aI (Wd S) 86 (nI j) = some (S.2.2.1 86 j) := aI_eq (wg_86 S) h (by decide)
theorem wt_86 {S : rSt} {j : Nat} {x : Int32} (h : j < 1536) : sI (Wd S) 86 (nI j) x = some (Wd (sa S 86 (upd (S.2.2.1 86) j x))) := by rw [sI_eq (wg_86 S) h (by decide), ws_86]
theorem wl_47 {S : rSt} {j : Nat} (h : j < 6) : aR (Wd S) 47 (nI j) = some (48 + 2 * j) := by
  have hj : nI j < 0 ∨ 6 ≤ (nI j).toNatClampNeg ↔ False := iff_false_intro (nI_in h (by decide))
  show (if nI j < 0 ∨ 6 ≤ (nI j).toNatClampNeg then none else rTp (nI j).toNatClampNeg) = _
  rw [if_neg (nI_in h (by decide)), nI_clamp (by omega)]
  simp [rTp, h]
theorem sa_ss (S : rSt) (a : Nat) (f g : Nat → Int32) : sa (sa S a f) a g = sa S a g := by
  simp only [sa, Prod.mk.injEq, and_true, true_and]
  funext b
  by_cases h : b = a <;> simp [h]
theorem sj_ss (S : rSt) (a : Nat) (f g : Nat → Int64) : sj (sj S a f) a g = sj S a g := by
  simp only [sj, Prod.mk.injEq, and_true, true_and]
  funext b
  by_cases h : b = a <;> simp [h]
theorem si_ss (S : rSt) (a k : Nat) (x y : Int32) : si (si S a k x) a k y = si S a k y := by
  simp only [si, Prod.mk.injEq, and_true, true_and]
  funext b j
  by_cases h : b = a <;> by_cases h2 : j = k <;> simp [h, h2]
theorem sl_ss (S : rSt) (a k : Nat) (x y : Int64) : sl (sl S a k x) a k y = sl S a k y := by
  simp only [sl, Prod.mk.injEq, and_true, true_and]
  funext b j
  by_cases h : b = a <;> by_cases h2 : j = k <;> simp [h, h2]
theorem sa_sw {S : rSt} {a b : Nat} {f g : Nat → Int32} (h : a < b) : sa (sa S b g) a f = sa (sa S a f) b g := by
  simp only [sa, Prod.mk.injEq, and_true, true_and]
  funext c
  by_cases h1 : c = a <;> by_cases h2 : c = b <;> simp [h1, h2]
  all_goals omega
theorem sj_sw {S : rSt} {a b : Nat} {f g : Nat → Int64} (h : a < b) : sj (sj S b g) a f = sj (sj S a f) b g := by
  simp only [sj, Prod.mk.injEq, and_true, true_and]
  funext c
  by_cases h1 : c = a <;> by_cases h2 : c = b <;> simp [h1, h2]
  all_goals omega
theorem si_sw1 {S : rSt} {a b k j : Nat} {x y : Int32} (h : a < b) : si (si S b j y) a k x = si (si S a k x) b j y := by
  simp only [si, Prod.mk.injEq, and_true, true_and]
  have h3 : a ≠ b := by omega
  have h4 : b ≠ a := by omega
  funext c q
  by_cases h1 : c = a
  · subst h1; simp [h3]
  · by_cases h2 : c = b
    · subst h2; simp [h4]
    · simp [h1, h2]
theorem si_sw2 {S : rSt} {a k j : Nat} {x y : Int32} (h : k < j) : si (si S a j y) a k x = si (si S a k x) a j y := by
  simp only [si, Prod.mk.injEq, and_true, true_and]
  funext c q
  by_cases h0 : c = a <;> by_cases h1 : q = k <;> by_cases h2 : q = j <;> simp [h0, h1, h2]
  all_goals omega
theorem sl_sw1 {S : rSt} {a b k j : Nat} {x y : Int64} (h : a < b) : sl (sl S b j y) a k x = sl (sl S a k x) b j y := by
  simp only [sl, Prod.mk.injEq, and_true, true_and]
  have h3 : a ≠ b := by omega
  have h4 : b ≠ a := by omega
  funext c q
  by_cases h1 : c = a
  · subst h1; simp [h3]
  · by_cases h2 : c = b
    · subst h2; simp [h4]
    · simp [h1, h2]
theorem sl_sw2 {S : rSt} {a k j : Nat} {x y : Int64} (h : k < j) : sl (sl S a j y) a k x = sl (sl S a k x) a j y := by
  simp only [sl, Prod.mk.injEq, and_true, true_and]
  funext c q
  by_cases h0 : c = a <;> by_cases h1 : q = k <;> by_cases h2 : q = j <;> simp [h0, h1, h2]
  all_goals omega
theorem si_sl (S : rSt) (a k b j : Nat) (x : Int32) (y : Int64) : si (sl S b j y) a k x = sl (si S a k x) b j y := rfl
theorem si_sa (S : rSt) (a k b : Nat) (x : Int32) (f : Nat → Int32) : si (sa S b f) a k x = sa (si S a k x) b f := rfl
theorem si_sj (S : rSt) (a k b : Nat) (x : Int32) (f : Nat → Int64) : si (sj S b f) a k x = sj (si S a k x) b f := rfl
theorem sl_sa (S : rSt) (a k b : Nat) (x : Int64) (f : Nat → Int32) : sl (sa S b f) a k x = sa (sl S a k x) b f := rfl
theorem sl_sj (S : rSt) (a k b : Nat) (x : Int64) (f : Nat → Int64) : sl (sj S b f) a k x = sj (sl S a k x) b f := rfl
theorem sa_sj (S : rSt) (a b : Nat) (f : Nat → Int32) (g : Nat → Int64) : sa (sj S b g) a f = sj (sa S a f) b g := rfl
theorem ri_i (S : rSt) (a k b j : Nat) (x : Int32) : (si S a k x).1 b j = if b = a then (if j = k then x else S.1 b j) else S.1 b j := rfl
theorem ri_2 (S : rSt) (a k : Nat) (x : Int32) : (si S a k x).2 = S.2 := rfl
theorem rl_1 (S : rSt) (a k : Nat) (x : Int64) : (sl S a k x).1 = S.1 := rfl
theorem rl_l (S : rSt) (a k b j : Nat) (x : Int64) : (sl S a k x).2.1 b j = if b = a then (if j = k then x else S.2.1 b j) else S.2.1 b j := rfl
theorem rl_3 (S : rSt) (a k : Nat) (x : Int64) : (sl S a k x).2.2 = S.2.2 := rfl
theorem ra_1 (S : rSt) (a : Nat) (f : Nat → Int32) : (sa S a f).1 = S.1 := rfl
theorem ra_2 (S : rSt) (a : Nat) (f : Nat → Int32) : (sa S a f).2.1 = S.2.1 := rfl
theorem ra_a (S : rSt) (a b : Nat) (f : Nat → Int32) : (sa S a f).2.2.1 b = if b = a then f else S.2.2.1 b := rfl
theorem ra_4 (S : rSt) (a : Nat) (f : Nat → Int32) : (sa S a f).2.2.2 = S.2.2.2 := rfl
theorem rj_1 (S : rSt) (a : Nat) (f : Nat → Int64) : (sj S a f).1 = S.1 := rfl
theorem rj_2 (S : rSt) (a : Nat) (f : Nat → Int64) : (sj S a f).2.1 = S.2.1 := rfl
theorem rj_3 (S : rSt) (a : Nat) (f : Nat → Int64) : (sj S a f).2.2.1 = S.2.2.1 := rfl
theorem rj_j (S : rSt) (a b : Nat) (f : Nat → Int64) : (sj S a f).2.2.2 b = if b = a then f else S.2.2.2 b := rfl
theorem sa_id (S : rSt) (a : Nat) : sa S a (S.2.2.1 a) = S := by
  obtain ⟨s1, s2, s3, s4⟩ := S
  simp only [sa, Prod.mk.injEq, and_true, true_and]
  funext b
  by_cases h : b = a <;> simp [h]
theorem si_id (S : rSt) (a k : Nat) : si S a k (S.1 a k) = S := by
  obtain ⟨s1, s2, s3, s4⟩ := S
  simp only [si, Prod.mk.injEq, and_true, true_and]
  funext b j
  by_cases h : b = a <;> by_cases h2 : j = k <;> simp [h, h2]
theorem sl_id (S : rSt) (a k : Nat) : sl S a k (S.2.1 a k) = S := by
  obtain ⟨s1, s2, s3, s4⟩ := S
  simp only [sl, Prod.mk.injEq, and_true, true_and]
  funext b j
  by_cases h : b = a <;> by_cases h2 : j = k <;> simp [h, h2]
theorem sj_id (S : rSt) (a : Nat) : sj S a (S.2.2.2 a) = S := by
  obtain ⟨s1, s2, s3, s4⟩ := S
  simp only [sj, Prod.mk.injEq, and_true, true_and]
  funext b
  by_cases h : b = a <;> simp [h]
