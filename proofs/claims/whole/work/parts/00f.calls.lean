/-! A call begins. -/
theorem c_0 {h : Hp} {p0 : Nat} : cl 0 [.ref p0] h = rn 0 0 [some (.ref p0)] [] h := rfl
theorem c_1 {h : Hp} {p0 : Nat} : cl 1 [.ref p0] h = rn 1 0 [some (.ref p0), none] [] h := rfl
theorem c_2 {h : Hp} {p0 : Nat} {p1 : Nat} : cl 2 [.ref p0, .ref p1] h = rn 2 0 [some (.ref p0), some (.ref p1)] [] h := rfl
theorem c_3 {h : Hp} {p0 : Nat} {x1 : Int} {x2 : Int} {x3 : Int} {x4 : Int} {x5 : Int} : cl 3 [.ref p0, .int (iI x1), .int (iI x2), .int (iI x3), .int (iI x4), .int (iI x5)] h = rn 3 0 [some (.ref p0), some (.int (iI x1)), some (.int (iI x2)), some (.int (iI x3)), some (.int (iI x4)), some (.int (iI x5))] [] h := rfl
theorem c_4 {h : Hp} {p0 : Nat} {x1 : Int} : cl 4 [.ref p0, .int (iI x1)] h = rn 4 0 [some (.ref p0), some (.int (iI x1)), none] [] h := rfl
theorem c_5 {h : Hp} {p0 : Nat} {x1 : Int} : cl 5 [.ref p0, .int (iI x1)] h = rn 5 0 [some (.ref p0), some (.int (iI x1)), none] [] h := rfl
theorem c_6 {h : Hp} {p0 : Nat} {x1 : Int} {x2 : Int} : cl 6 [.ref p0, .int (iI x1), .int (iI x2)] h = rn 6 0 [some (.ref p0), some (.int (iI x1)), some (.int (iI x2)), none] [] h := rfl
theorem c_7 {h : Hp} {p0 : Nat} {x1 : Int} {x2 : Int} {x3 : Int} : cl 7 [.ref p0, .int (iI x1), .int (iI x2), .int (iI x3)] h = rn 7 0 [some (.ref p0), some (.int (iI x1)), some (.int (iI x2)), some (.int (iI x3))] [] h := rfl
theorem c_8 {h : Hp} {p0 : Nat} {x1 : Int} : cl 8 [.ref p0, .int (iI x1)] h = rn 8 0 [some (.ref p0), some (.int (iI x1))] [] h := rfl
theorem c_9 {h : Hp} {p0 : Nat} {x1 : Int} : cl 9 [.ref p0, .int (iI x1)] h = rn 9 0 [some (.ref p0), some (.int (iI x1)), none, none] [] h := rfl
theorem c_10 {h : Hp} {p0 : Nat} {x1 : Int} {x2 : Int} : cl 10 [.ref p0, .int (iI x1), .int (iI x2)] h = rn 10 0 [some (.ref p0), some (.int (iI x1)), some (.int (iI x2))] [] h := rfl
theorem c_11 {h : Hp} {p0 : Nat} : cl 11 [.ref p0] h = rn 11 0 [some (.ref p0), none, none] [] h := rfl
theorem c_12 {h : Hp} {p0 : Nat} : cl 12 [.ref p0] h = rn 12 0 [some (.ref p0), none, none] [] h := rfl
theorem c_13 {h : Hp} {p0 : Nat} : cl 13 [.ref p0] h = rn 13 0 [some (.ref p0), none, none] [] h := rfl
theorem c_14 {h : Hp} {p0 : Nat} : cl 14 [.ref p0] h = rn 14 0 [some (.ref p0), none, none, none] [] h := rfl
theorem c_15 {h : Hp} {p0 : Nat} : cl 15 [.ref p0] h = rn 15 0 [some (.ref p0), none, none] [] h := rfl
theorem c_16 {h : Hp} {p0 : Nat} {x1 : Int} : cl 16 [.ref p0, .int (iI x1)] h = rn 16 0 [some (.ref p0), some (.int (iI x1))] [] h := rfl
theorem c_17 {h : Hp} {p0 : Nat} {x1 : Int} {x2 : Int} {x3 : Int} : cl 17 [.ref p0, .int (iI x1), .int (iI x2), .int (iI x3)] h = rn 17 0 [some (.ref p0), some (.int (iI x1)), some (.int (iI x2)), some (.int (iI x3))] [] h := rfl
theorem c_18 {h : Hp} {p0 : Nat} {x1 : Int} {x2 : Int} : cl 18 [.ref p0, .int (iI x1), .int (iI x2)] h = rn 18 0 [some (.ref p0), some (.int (iI x1)), some (.int (iI x2))] [] h := rfl
theorem c_19 {h : Hp} {p0 : Nat} {x1 : Int} {p2 : Nat} {x3 : Int} {x4 : Int} : cl 19 [.ref p0, .int (iI x1), .ref p2, .int (iI x3), .int (iI x4)] h = rn 19 0 [some (.ref p0), some (.int (iI x1)), some (.ref p2), some (.int (iI x3)), some (.int (iI x4)), none, none, none, none, none] [] h := rfl
theorem c_20 {h : Hp} {p0 : Nat} {x1 : Int} {x2 : Int} : cl 20 [.ref p0, .int (iI x1), .int (iI x2)] h = rn 20 0 [some (.ref p0), some (.int (iI x1)), some (.int (iI x2)), none] [] h := rfl
theorem c_21 {h : Hp} {p0 : Nat} {x1 : Int} {x2 : Int} {x3 : Int} : cl 21 [.ref p0, .int (iI x1), .int (iI x2), .int (iI x3)] h = rn 21 0 [some (.ref p0), some (.int (iI x1)), some (.int (iI x2)), some (.int (iI x3)), none, none, none] [] h := rfl
theorem c_22 {h : Hp} {p0 : Nat} {x1 : Int} {x2 : Int} {p3 : Nat} {x4 : Int} {x5 : Int} : cl 22 [.ref p0, .int (iI x1), .int (iI x2), .ref p3, .int (iI x4), .int (iI x5)] h = rn 22 0 [some (.ref p0), some (.int (iI x1)), some (.int (iI x2)), some (.ref p3), some (.int (iI x4)), some (.int (iI x5)), none, none, none, none, none] [] h := rfl
theorem c_23 {h : Hp} {p0 : Nat} {x1 : Int} {p2 : Nat} {x3 : Int} {x4 : Int} : cl 23 [.ref p0, .int (iI x1), .ref p2, .int (iI x3), .int (iI x4)] h = rn 23 0 [some (.ref p0), some (.int (iI x1)), some (.ref p2), some (.int (iI x3)), some (.int (iI x4)), none, none, none, none, none] [] h := rfl
theorem c_24 {h : Hp} {p0 : Nat} {x1 : Int} : cl 24 [.ref p0, .int (iI x1)] h = rn 24 0 [some (.ref p0), some (.int (iI x1))] [] h := rfl
theorem c_25 {h : Hp} {p0 : Nat} {x1 : Int} {x2 : Int} : cl 25 [.ref p0, .int (iI x1), .int (iI x2)] h = rn 25 0 [some (.ref p0), some (.int (iI x1)), some (.int (iI x2))] [] h := rfl
theorem c_26 {h : Hp} {p0 : Nat} {x1 : Int} {x2 : Int} {x3 : Int} {x4 : Int} : cl 26 [.ref p0, .int (iI x1), .int (iI x2), .int (iI x3), .int (iI x4)] h = rn 26 0 [some (.ref p0), some (.int (iI x1)), some (.int (iI x2)), some (.int (iI x3)), some (.int (iI x4)), none] [] h := rfl
theorem c_27 {h : Hp} {p0 : Nat} {x1 : Int} {x2 : Int} {x3 : Int} {x4 : Int} : cl 27 [.ref p0, .int (iI x1), .int (iI x2), .int (iI x3), .int (iI x4)] h = rn 27 0 [some (.ref p0), some (.int (iI x1)), some (.int (iI x2)), some (.int (iI x3)), some (.int (iI x4)), none, none] [] h := rfl
theorem c_28 {h : Hp} {p0 : Nat} : cl 28 [.ref p0] h = rn 28 0 [some (.ref p0)] [] h := rfl
theorem c_29 {h : Hp} {p0 : Nat} : cl 29 [.ref p0] h = rn 29 0 [some (.ref p0)] [] h := rfl
theorem c_30 {h : Hp} {p0 : Nat} {p1 : Nat} : cl 30 [.ref p0, .ref p1] h = rn 30 0 [some (.ref p0), some (.ref p1), none] [] h := rfl
theorem c_31 {h : Hp} {x0 : Int} {x1 : Int} : cl 31 [.int (iI x0), .int (iI x1)] h = rn 31 0 [some (.int (iI x0)), some (.int (iI x1))] [] h := rfl
theorem c_32 {h : Hp} {x0 : Int} {x1 : Int} : cl 32 [.int (iI x0), .int (iI x1)] h = rn 32 0 [some (.int (iI x0)), some (.int (iI x1))] [] h := rfl
theorem c_33 {h : Hp} {x0 : Int} {x1 : Int} {x2 : Int} : cl 33 [.int (iI x0), .int (iI x1), .int (iI x2)] h = rn 33 0 [some (.int (iI x0)), some (.int (iI x1)), some (.int (iI x2))] [] h := rfl
theorem c_34 {h : Hp} {p0 : Nat} {p1 : Nat} {x2 : Int} : cl 34 [.ref p0, .ref p1, .int (iI x2)] h = rn 34 0 [some (.ref p0), some (.ref p1), some (.int (iI x2)), none, none, none, none] [] h := rfl
theorem c_35 {h : Hp} {p0 : Nat} {p1 : Nat} {x2 : Int} {x3 : Int} {x4 : Int} {x5 : Int} : cl 35 [.ref p0, .ref p1, .int (iI x2), .int (iI x3), .int (iI x4), .int (iI x5)] h = rn 35 0 [some (.ref p0), some (.ref p1), some (.int (iI x2)), some (.int (iI x3)), some (.int (iI x4)), some (.int (iI x5)), none, none, none] [] h := rfl
theorem c_36 {h : Hp} {p0 : Nat} {p1 : Nat} {x2 : Int} : cl 36 [.ref p0, .ref p1, .int (iI x2)] h = rn 36 0 [some (.ref p0), some (.ref p1), some (.int (iI x2)), none, none, none] [] h := rfl
theorem c_37 {h : Hp} {p0 : Nat} {p1 : Nat} {x2 : Int} {p3 : Nat} : cl 37 [.ref p0, .ref p1, .int (iI x2), .ref p3] h = rn 37 0 [some (.ref p0), some (.ref p1), some (.int (iI x2)), some (.ref p3), none, none, none, none] [] h := rfl
theorem c_38 {h : Hp} {p0 : Nat} {x1 : Int} {x2 : Int} {p3 : Nat} : cl 38 [.ref p0, .int (iI x1), .int (iI x2), .ref p3] h = rn 38 0 [some (.ref p0), some (.int (iI x1)), some (.int (iI x2)), some (.ref p3), none, none, none] [] h := rfl
theorem c_39 {h : Hp} {p0 : Nat} : cl 39 [.ref p0] h = rn 39 0 [some (.ref p0), none, none, none] [] h := rfl
theorem c_40 {h : Hp} {p0 : Nat} {x1 : Int} {x2 : Int} : cl 40 [.ref p0, .int (iI x1), .int (iI x2)] h = rn 40 0 [some (.ref p0), some (.int (iI x1)), some (.int (iI x2)), none, none] [] h := rfl
theorem c_41 {h : Hp} {p0 : Nat} {x1 : Int} {x2 : Int} {x3 : Int} : cl 41 [.ref p0, .int (iI x1), .int (iI x2), .int (iI x3)] h = rn 41 0 [some (.ref p0), some (.int (iI x1)), some (.int (iI x2)), some (.int (iI x3))] [] h := rfl
theorem c_42 {h : Hp} {p0 : Nat} {x1 : Int} {x2 : Int} : cl 42 [.ref p0, .int (iI x1), .int (iI x2)] h = rn 42 0 [some (.ref p0), some (.int (iI x1)), some (.int (iI x2)), none] [] h := rfl
theorem c_43 {h : Hp} {p0 : Nat} {x1 : Int} {x2 : Int} : cl 43 [.ref p0, .int (iI x1), .int (iI x2)] h = rn 43 0 [some (.ref p0), some (.int (iI x1)), some (.int (iI x2)), none] [] h := rfl
theorem c_44 {h : Hp} {p0 : Nat} {p1 : Nat} : cl 44 [.ref p0, .ref p1] h = rn 44 0 [some (.ref p0), some (.ref p1), none, none] [] h := rfl
theorem c_45 {h : Hp} {p0 : Nat} : cl 45 [.ref p0] h = rn 45 0 [some (.ref p0), none, none, none] [] h := rfl
theorem c_46 {h : Hp} {p0 : Nat} {x1 : Int} {x2 : Int} : cl 46 [.ref p0, .int (iI x1), .int (iI x2)] h = rn 46 0 [some (.ref p0), some (.int (iI x1)), some (.int (iI x2)), none, none] [] h := rfl
theorem c_47 {h : Hp} {p0 : Nat} {x1 : Int} {x2 : Int} : cl 47 [.ref p0, .int (iI x1), .int (iI x2)] h = rn 47 0 [some (.ref p0), some (.int (iI x1)), some (.int (iI x2))] [] h := rfl
theorem c_48 {h : Hp} {p0 : Nat} {x1 : Int} : cl 48 [.ref p0, .int (iI x1)] h = rn 48 0 [some (.ref p0), some (.int (iI x1))] [] h := rfl
theorem c_49 {h : Hp} {p0 : Nat} {x1 : Int} : cl 49 [.ref p0, .int (iI x1)] h = rn 49 0 [some (.ref p0), some (.int (iI x1))] [] h := rfl
theorem c_50 {h : Hp} {p0 : Nat} {p1 : Nat} {x2 : Int} : cl 50 [.ref p0, .ref p1, .int (iI x2)] h = rn 50 0 [some (.ref p0), some (.ref p1), some (.int (iI x2))] [] h := rfl
theorem c_51 {h : Hp} {p0 : Nat} {x1 : Int} : cl 51 [.ref p0, .int (iI x1)] h = rn 51 0 [some (.ref p0), some (.int (iI x1)), none, none, none, none] [] h := rfl
theorem c_52 {h : Hp} {p0 : Nat} {x1 : Int} {x2 : Int} {x3 : Int} : cl 52 [.ref p0, .int (iI x1), .int (iI x2), .int (iI x3)] h = rn 52 0 [some (.ref p0), some (.int (iI x1)), some (.int (iI x2)), some (.int (iI x3)), none, none, none, none, none, none, none] [] h := rfl
theorem c_53 {h : Hp} {p0 : Nat} {x1 : Int} : cl 53 [.ref p0, .int (iI x1)] h = rn 53 0 [some (.ref p0), some (.int (iI x1))] [] h := rfl
theorem c_54 {h : Hp} {p0 : Nat} {x1 : Int} {y2 : Int} : cl 54 [.ref p0, .int (iI x1), .long (lI y2)] h = rn 54 0 [some (.ref p0), some (.int (iI x1)), some (.long (lI y2)), none] [] h := rfl
theorem c_55 {h : Hp} {p0 : Nat} {x1 : Int} {x2 : Int} {x3 : Int} : cl 55 [.ref p0, .int (iI x1), .int (iI x2), .int (iI x3)] h = rn 55 0 [some (.ref p0), some (.int (iI x1)), some (.int (iI x2)), some (.int (iI x3)), none, none] [] h := rfl
theorem c_56 {h : Hp} {p0 : Nat} : cl 56 [.ref p0] h = rn 56 0 [some (.ref p0), none] [] h := rfl
theorem c_57 {h : Hp} {p0 : Nat} {x1 : Int} : cl 57 [.ref p0, .int (iI x1)] h = rn 57 0 [some (.ref p0), some (.int (iI x1)), none] [] h := rfl
theorem c_58 {h : Hp} {p0 : Nat} {x1 : Int} {x2 : Int} : cl 58 [.ref p0, .int (iI x1), .int (iI x2)] h = rn 58 0 [some (.ref p0), some (.int (iI x1)), some (.int (iI x2)), none, none] [] h := rfl
theorem c_59 {h : Hp} {p0 : Nat} {p1 : Nat} {x2 : Int} : cl 59 [.ref p0, .ref p1, .int (iI x2)] h = rn 59 0 [some (.ref p0), some (.ref p1), some (.int (iI x2)), none] [] h := rfl
theorem c_60 {h : Hp} {p0 : Nat} {p1 : Nat} {x2 : Int} : cl 60 [.ref p0, .ref p1, .int (iI x2)] h = rn 60 0 [some (.ref p0), some (.ref p1), some (.int (iI x2)), none, none, none, none, none] [] h := rfl
theorem c_61 {h : Hp} {p0 : Nat} {x1 : Int} : cl 61 [.ref p0, .int (iI x1)] h = rn 61 0 [some (.ref p0), some (.int (iI x1))] [] h := rfl
theorem c_62 {h : Hp} {p0 : Nat} {x1 : Int} : cl 62 [.ref p0, .int (iI x1)] h = rn 62 0 [some (.ref p0), some (.int (iI x1))] [] h := rfl
theorem c_63 {h : Hp} {p0 : Nat} {x1 : Int} {x2 : Int} : cl 63 [.ref p0, .int (iI x1), .int (iI x2)] h = rn 63 0 [some (.ref p0), some (.int (iI x1)), some (.int (iI x2))] [] h := rfl
theorem c_64 {h : Hp} {p0 : Nat} {p1 : Nat} : cl 64 [.ref p0, .ref p1] h = rn 64 0 [some (.ref p0), some (.ref p1)] [] h := rfl
theorem c_65 {h : Hp} {p0 : Nat} {x1 : Int} : cl 65 [.ref p0, .int (iI x1)] h = rn 65 0 [some (.ref p0), some (.int (iI x1))] [] h := rfl
theorem c_66 {h : Hp} {p0 : Nat} {x1 : Int} : cl 66 [.ref p0, .int (iI x1)] h = rn 66 0 [some (.ref p0), some (.int (iI x1))] [] h := rfl
theorem c_67 {h : Hp} {p0 : Nat} {x1 : Int} {p2 : Nat} : cl 67 [.ref p0, .int (iI x1), .ref p2] h = rn 67 0 [some (.ref p0), some (.int (iI x1)), some (.ref p2), none] [] h := rfl
theorem c_68 {h : Hp} {p0 : Nat} {x1 : Int} {p2 : Nat} : cl 68 [.ref p0, .int (iI x1), .ref p2] h = rn 68 0 [some (.ref p0), some (.int (iI x1)), some (.ref p2), none] [] h := rfl
theorem c_69 {h : Hp} {p0 : Nat} : cl 69 [.ref p0] h = rn 69 0 [some (.ref p0)] [] h := rfl
theorem c_70 {h : Hp} {p0 : Nat} {x1 : Int} : cl 70 [.ref p0, .int (iI x1)] h = rn 70 0 [some (.ref p0), some (.int (iI x1)), none, none] [] h := rfl
theorem c_71 {h : Hp} {p0 : Nat} {p1 : Nat} : cl 71 [.ref p0, .ref p1] h = rn 71 0 [some (.ref p0), some (.ref p1)] [] h := rfl
theorem c_72 {h : Hp} {p0 : Nat} {p1 : Nat} {p2 : Nat} : cl 72 [.ref p0, .ref p1, .ref p2] h = rn 72 0 [some (.ref p0), some (.ref p1), some (.ref p2), none, none] [] h := rfl
theorem c_73 {h : Hp} {p0 : Nat} {p1 : Nat} : cl 73 [.ref p0, .ref p1] h = rn 73 0 [some (.ref p0), some (.ref p1)] [] h := rfl
theorem c_74 {h : Hp} {p0 : Nat} {p1 : Nat} : cl 74 [.ref p0, .ref p1] h = rn 74 0 [some (.ref p0), some (.ref p1), none, none] [] h := rfl
theorem c_75 {h : Hp} {p0 : Nat} : cl 75 [.ref p0] h = rn 75 0 [some (.ref p0)] [] h := rfl
theorem c_76 {h : Hp} {p0 : Nat} {p1 : Nat} : cl 76 [.ref p0, .ref p1] h = rn 76 0 [some (.ref p0), some (.ref p1), none] [] h := rfl
theorem c_77 {h : Hp} {p0 : Nat} {p1 : Nat} : cl 77 [.ref p0, .ref p1] h = rn 77 0 [some (.ref p0), some (.ref p1), none, none, none, none] [] h := rfl
theorem c_78 {h : Hp} {p0 : Nat} {p1 : Nat} : cl 78 [.ref p0, .ref p1] h = rn 78 0 [some (.ref p0), some (.ref p1), none, none] [] h := rfl
theorem c_79 {h : Hp} {p0 : Nat} {p1 : Nat} {x2 : Int} : cl 79 [.ref p0, .ref p1, .int (iI x2)] h = rn 79 0 [some (.ref p0), some (.ref p1), some (.int (iI x2)), none, none] [] h := rfl
theorem c_80 {h : Hp} {p0 : Nat} {p1 : Nat} {x2 : Int} : cl 80 [.ref p0, .ref p1, .int (iI x2)] h = rn 80 0 [some (.ref p0), some (.ref p1), some (.int (iI x2))] [] h := rfl
theorem c_81 {h : Hp} {p0 : Nat} {p1 : Nat} {x2 : Int} : cl 81 [.ref p0, .ref p1, .int (iI x2)] h = rn 81 0 [some (.ref p0), some (.ref p1), some (.int (iI x2)), none] [] h := rfl
theorem c_82 {h : Hp} {p0 : Nat} : cl 82 [.ref p0] h = rn 82 0 [some (.ref p0)] [] h := rfl
theorem c_83 {h : Hp} {p0 : Nat} {x1 : Int} : cl 83 [.ref p0, .int (iI x1)] h = rn 83 0 [some (.ref p0), some (.int (iI x1))] [] h := rfl
theorem c_84 {h : Hp} {p0 : Nat} {p1 : Nat} : cl 84 [.ref p0, .ref p1] h = rn 84 0 [some (.ref p0), some (.ref p1)] [] h := rfl
theorem c_85 {h : Hp} {p0 : Nat} : cl 85 [.ref p0] h = rn 85 0 [some (.ref p0)] [] h := rfl
theorem c_86 {h : Hp} {p0 : Nat} : cl 86 [.ref p0] h = rn 86 0 [some (.ref p0)] [] h := rfl
theorem c_87 {h : Hp} {p0 : Nat} {x1 : Int} {x2 : Int} {x3 : Int} : cl 87 [.ref p0, .int (iI x1), .int (iI x2), .int (iI x3)] h = rn 87 0 [some (.ref p0), some (.int (iI x1)), some (.int (iI x2)), some (.int (iI x3))] [] h := rfl
theorem c_88 {h : Hp} {p0 : Nat} {p1 : Nat} : cl 88 [.ref p0, .ref p1] h = rn 88 0 [some (.ref p0), some (.ref p1), none] [] h := rfl
theorem c_89 {h : Hp} {p0 : Nat} : cl 89 [.ref p0] h = rn 89 0 [some (.ref p0)] [] h := rfl
theorem c_90 {h : Hp} {p0 : Nat} {x1 : Int} : cl 90 [.ref p0, .int (iI x1)] h = rn 90 0 [some (.ref p0), some (.int (iI x1))] [] h := rfl
theorem c_91 {h : Hp} {p0 : Nat} {x1 : Int} : cl 91 [.ref p0, .int (iI x1)] h = rn 91 0 [some (.ref p0), some (.int (iI x1))] [] h := rfl
theorem c_92 {h : Hp} {p0 : Nat} : cl 92 [.ref p0] h = rn 92 0 [some (.ref p0)] [] h := rfl
theorem c_93 {h : Hp} {p0 : Nat} {x1 : Int} {x2 : Int} {x3 : Int} {x4 : Int} {x5 : Int} : cl 93 [.ref p0, .int (iI x1), .int (iI x2), .int (iI x3), .int (iI x4), .int (iI x5)] h = rn 93 0 [some (.ref p0), some (.int (iI x1)), some (.int (iI x2)), some (.int (iI x3)), some (.int (iI x4)), some (.int (iI x5)), none] [] h := rfl
theorem c_94 {h : Hp} {p0 : Nat} : cl 94 [.ref p0] h = rn 94 0 [some (.ref p0), none] [] h := rfl
theorem c_95 {h : Hp} {p0 : Nat} : cl 95 [.ref p0] h = rn 95 0 [some (.ref p0)] [] h := rfl
theorem c_96 {h : Hp} {p0 : Nat} {x1 : Int} : cl 96 [.ref p0, .int (iI x1)] h = rn 96 0 [some (.ref p0), some (.int (iI x1))] [] h := rfl
theorem c_97 {h : Hp} {p0 : Nat} {x1 : Int} {x2 : Int} : cl 97 [.ref p0, .int (iI x1), .int (iI x2)] h = rn 97 0 [some (.ref p0), some (.int (iI x1)), some (.int (iI x2))] [] h := rfl
theorem c_98 {h : Hp} {p0 : Nat} {x1 : Int} {x2 : Int} {x3 : Int} : cl 98 [.ref p0, .int (iI x1), .int (iI x2), .int (iI x3)] h = rn 98 0 [some (.ref p0), some (.int (iI x1)), some (.int (iI x2)), some (.int (iI x3))] [] h := rfl
theorem c_99 {h : Hp} {p0 : Nat} {x1 : Int} : cl 99 [.ref p0, .int (iI x1)] h = rn 99 0 [some (.ref p0), some (.int (iI x1))] [] h := rfl
theorem c_100 {h : Hp} {p0 : Nat} {x1 : Int} {x2 : Int} {x3 : Int} : cl 100 [.ref p0, .int (iI x1), .int (iI x2), .int (iI x3)] h = rn 100 0 [some (.ref p0), some (.int (iI x1)), some (.int (iI x2)), some (.int (iI x3))] [] h := rfl
theorem c_101 {h : Hp} {p0 : Nat} {x1 : Int} {x2 : Int} {x3 : Int} {x4 : Int} : cl 101 [.ref p0, .int (iI x1), .int (iI x2), .int (iI x3), .int (iI x4)] h = rn 101 0 [some (.ref p0), some (.int (iI x1)), some (.int (iI x2)), some (.int (iI x3)), some (.int (iI x4))] [] h := rfl
theorem c_102 {h : Hp} {p0 : Nat} : cl 102 [.ref p0] h = rn 102 0 [some (.ref p0)] [] h := rfl
theorem c_103 {h : Hp} {p0 : Nat} {x1 : Int} {x2 : Int} : cl 103 [.ref p0, .int (iI x1), .int (iI x2)] h = rn 103 0 [some (.ref p0), some (.int (iI x1)), some (.int (iI x2))] [] h := rfl
theorem c_104 {h : Hp} {p0 : Nat} {x1 : Int} {x2 : Int} : cl 104 [.ref p0, .int (iI x1), .int (iI x2)] h = rn 104 0 [some (.ref p0), some (.int (iI x1)), some (.int (iI x2))] [] h := rfl
theorem c_105 {h : Hp} {p0 : Nat} {x1 : Int} : cl 105 [.ref p0, .int (iI x1)] h = rn 105 0 [some (.ref p0), some (.int (iI x1))] [] h := rfl
theorem c_106 {h : Hp} {p0 : Nat} {x1 : Int} {x2 : Int} {x3 : Int} : cl 106 [.ref p0, .int (iI x1), .int (iI x2), .int (iI x3)] h = rn 106 0 [some (.ref p0), some (.int (iI x1)), some (.int (iI x2)), some (.int (iI x3))] [] h := rfl
theorem c_107 {h : Hp} {p0 : Nat} : cl 107 [.ref p0] h = rn 107 0 [some (.ref p0)] [] h := rfl
theorem c_108 {h : Hp} {p0 : Nat} {x1 : Int} : cl 108 [.ref p0, .int (iI x1)] h = rn 108 0 [some (.ref p0), some (.int (iI x1)), none, none, none] [] h := rfl
theorem c_109 {h : Hp} {p0 : Nat} : cl 109 [.ref p0] h = rn 109 0 [some (.ref p0), none, none, none] [] h := rfl
theorem c_110 {h : Hp} {p0 : Nat} : cl 110 [.ref p0] h = rn 110 0 [some (.ref p0), none] [] h := rfl
theorem c_111 {h : Hp} {p0 : Nat} : cl 111 [.ref p0] h = rn 111 0 [some (.ref p0), none, none, none, none] [] h := rfl
theorem c_112 {h : Hp} {p0 : Nat} : cl 112 [.ref p0] h = rn 112 0 [some (.ref p0), none, none] [] h := rfl
theorem c_113 {h : Hp} {p0 : Nat} : cl 113 [.ref p0] h = rn 113 0 [some (.ref p0)] [] h := rfl
theorem c_114 {h : Hp} {p0 : Nat} {x1 : Int} : cl 114 [.ref p0, .int (iI x1)] h = rn 114 0 [some (.ref p0), some (.int (iI x1))] [] h := rfl
theorem c_115 {h : Hp} {p0 : Nat} {x1 : Int} : cl 115 [.ref p0, .int (iI x1)] h = rn 115 0 [some (.ref p0), some (.int (iI x1)), none, none, none, none] [] h := rfl
theorem c_116 {h : Hp} {p0 : Nat} : cl 116 [.ref p0] h = rn 116 0 [some (.ref p0), none, none, none, none] [] h := rfl
theorem c_117 {h : Hp} {p0 : Nat} {x1 : Int} {x2 : Int} {x3 : Int} {x4 : Int} {x5 : Int} : cl 117 [.ref p0, .int (iI x1), .int (iI x2), .int (iI x3), .int (iI x4), .int (iI x5)] h = rn 117 0 [some (.ref p0), some (.int (iI x1)), some (.int (iI x2)), some (.int (iI x3)), some (.int (iI x4)), some (.int (iI x5))] [] h := rfl
theorem c_118 {h : Hp} {p0 : Nat} {x1 : Int} : cl 118 [.ref p0, .int (iI x1)] h = rn 118 0 [some (.ref p0), some (.int (iI x1))] [] h := rfl
theorem c_119 {h : Hp} {p0 : Nat} {x1 : Int} {x2 : Int} : cl 119 [.ref p0, .int (iI x1), .int (iI x2)] h = rn 119 0 [some (.ref p0), some (.int (iI x1)), some (.int (iI x2)), none] [] h := rfl
theorem c_120 {h : Hp} {p0 : Nat} {x1 : Int} {x2 : Int} {x3 : Int} {x4 : Int} : cl 120 [.ref p0, .int (iI x1), .int (iI x2), .int (iI x3), .int (iI x4)] h = rn 120 0 [some (.ref p0), some (.int (iI x1)), some (.int (iI x2)), some (.int (iI x3)), some (.int (iI x4)), none, none] [] h := rfl
theorem c_121 {h : Hp} {p0 : Nat} {x1 : Int} {x2 : Int} : cl 121 [.ref p0, .int (iI x1), .int (iI x2)] h = rn 121 0 [some (.ref p0), some (.int (iI x1)), some (.int (iI x2)), none] [] h := rfl
theorem c_122 {h : Hp} {p0 : Nat} {x1 : Int} {x2 : Int} {x3 : Int} {x4 : Int} {x5 : Int} : cl 122 [.ref p0, .int (iI x1), .int (iI x2), .int (iI x3), .int (iI x4), .int (iI x5)] h = rn 122 0 [some (.ref p0), some (.int (iI x1)), some (.int (iI x2)), some (.int (iI x3)), some (.int (iI x4)), some (.int (iI x5)), none] [] h := rfl
theorem c_123 {h : Hp} {p0 : Nat} {x1 : Int} : cl 123 [.ref p0, .int (iI x1)] h = rn 123 0 [some (.ref p0), some (.int (iI x1))] [] h := rfl
theorem c_124 {h : Hp} {p0 : Nat} {x1 : Int} : cl 124 [.ref p0, .int (iI x1)] h = rn 124 0 [some (.ref p0), some (.int (iI x1))] [] h := rfl
theorem c_125 {h : Hp} {p0 : Nat} : cl 125 [.ref p0] h = rn 125 0 [some (.ref p0), none, none, none, none] [] h := rfl
theorem c_126 {h : Hp} {p0 : Nat} : cl 126 [.ref p0] h = rn 126 0 [some (.ref p0)] [] h := rfl
theorem c_127 {h : Hp} {p0 : Nat} {x1 : Int} : cl 127 [.ref p0, .int (iI x1)] h = rn 127 0 [some (.ref p0), some (.int (iI x1))] [] h := rfl
theorem c_128 {h : Hp} {p0 : Nat} {x1 : Int} : cl 128 [.ref p0, .int (iI x1)] h = rn 128 0 [some (.ref p0), some (.int (iI x1))] [] h := rfl
theorem c_129 {h : Hp} {p0 : Nat} : cl 129 [.ref p0] h = rn 129 0 [some (.ref p0), none, none] [] h := rfl
theorem c_130 {h : Hp} {p0 : Nat} {x1 : Int} : cl 130 [.ref p0, .int (iI x1)] h = rn 130 0 [some (.ref p0), some (.int (iI x1))] [] h := rfl
theorem c_131 {h : Hp} {p0 : Nat} {x1 : Int} : cl 131 [.ref p0, .int (iI x1)] h = rn 131 0 [some (.ref p0), some (.int (iI x1))] [] h := rfl
theorem c_132 {h : Hp} {p0 : Nat} {x1 : Int} {x2 : Int} : cl 132 [.ref p0, .int (iI x1), .int (iI x2)] h = rn 132 0 [some (.ref p0), some (.int (iI x1)), some (.int (iI x2))] [] h := rfl
theorem c_133 {h : Hp} {p0 : Nat} {x1 : Int} : cl 133 [.ref p0, .int (iI x1)] h = rn 133 0 [some (.ref p0), some (.int (iI x1))] [] h := rfl
theorem c_134 {h : Hp} {p0 : Nat} {x1 : Int} : cl 134 [.ref p0, .int (iI x1)] h = rn 134 0 [some (.ref p0), some (.int (iI x1))] [] h := rfl
theorem c_135 {h : Hp} {p0 : Nat} {x1 : Int} : cl 135 [.ref p0, .int (iI x1)] h = rn 135 0 [some (.ref p0), some (.int (iI x1))] [] h := rfl
theorem c_136 {h : Hp} {p0 : Nat} {x1 : Int} : cl 136 [.ref p0, .int (iI x1)] h = rn 136 0 [some (.ref p0), some (.int (iI x1))] [] h := rfl
theorem c_137 {h : Hp} {p0 : Nat} : cl 137 [.ref p0] h = rn 137 0 [some (.ref p0)] [] h := rfl
theorem c_138 {h : Hp} {p0 : Nat} : cl 138 [.ref p0] h = rn 138 0 [some (.ref p0)] [] h := rfl
theorem c_139 {h : Hp} {p0 : Nat} {x1 : Int} : cl 139 [.ref p0, .int (iI x1)] h = rn 139 0 [some (.ref p0), some (.int (iI x1))] [] h := rfl
theorem c_140 {h : Hp} {p0 : Nat} {x1 : Int} : cl 140 [.ref p0, .int (iI x1)] h = rn 140 0 [some (.ref p0), some (.int (iI x1)), none] [] h := rfl
theorem c_141 {h : Hp} {p0 : Nat} {x1 : Int} : cl 141 [.ref p0, .int (iI x1)] h = rn 141 0 [some (.ref p0), some (.int (iI x1))] [] h := rfl
theorem c_142 {h : Hp} {x0 : Int} {x1 : Int} {x2 : Int} : cl 142 [.int (iI x0), .int (iI x1), .int (iI x2)] h = rn 142 0 [some (.int (iI x0)), some (.int (iI x1)), some (.int (iI x2))] [] h := rfl
theorem c_143 {h : Hp} {x0 : Int} {x1 : Int} {x2 : Int} : cl 143 [.int (iI x0), .int (iI x1), .int (iI x2)] h = rn 143 0 [some (.int (iI x0)), some (.int (iI x1)), some (.int (iI x2))] [] h := rfl
theorem c_144 {h : Hp} {x0 : Int} : cl 144 [.int (iI x0)] h = rn 144 0 [some (.int (iI x0)), none] [] h := rfl
theorem c_145 {h : Hp} {x0 : Int} : cl 145 [.int (iI x0)] h = rn 145 0 [some (.int (iI x0))] [] h := rfl
theorem c_146 {h : Hp} {x0 : Int} {x1 : Int} : cl 146 [.int (iI x0), .int (iI x1)] h = rn 146 0 [some (.int (iI x0)), some (.int (iI x1))] [] h := rfl
theorem c_147 {h : Hp} {x0 : Int} {x1 : Int} : cl 147 [.int (iI x0), .int (iI x1)] h = rn 147 0 [some (.int (iI x0)), some (.int (iI x1))] [] h := rfl
theorem c_148 {h : Hp} {x0 : Int} {x1 : Int} : cl 148 [.int (iI x0), .int (iI x1)] h = rn 148 0 [some (.int (iI x0)), some (.int (iI x1))] [] h := rfl
theorem c_149 {h : Hp} {x0 : Int} {x1 : Int} : cl 149 [.int (iI x0), .int (iI x1)] h = rn 149 0 [some (.int (iI x0)), some (.int (iI x1))] [] h := rfl
theorem c_150 {h : Hp} {x0 : Int} : cl 150 [.int (iI x0)] h = rn 150 0 [some (.int (iI x0)), none, none] [] h := rfl
theorem c_151 {h : Hp} {p0 : Nat} : cl 151 [.ref p0] h = rn 151 0 [some (.ref p0)] [] h := rfl
theorem c_152 {h : Hp} {p0 : Nat} {x1 : Int} {x2 : Int} {x3 : Int} {x4 : Int} {x5 : Int} : cl 152 [.ref p0, .int (iI x1), .int (iI x2), .int (iI x3), .int (iI x4), .int (iI x5)] h = rn 152 0 [some (.ref p0), some (.int (iI x1)), some (.int (iI x2)), some (.int (iI x3)), some (.int (iI x4)), some (.int (iI x5))] [] h := rfl
theorem c_153 {h : Hp} {p0 : Nat} {x1 : Int} {x2 : Int} {x3 : Int} {x4 : Int} {x5 : Int} : cl 153 [.ref p0, .int (iI x1), .int (iI x2), .int (iI x3), .int (iI x4), .int (iI x5)] h = rn 153 0 [some (.ref p0), some (.int (iI x1)), some (.int (iI x2)), some (.int (iI x3)), some (.int (iI x4)), some (.int (iI x5)), none] [] h := rfl
theorem c_154 {h : Hp} {p0 : Nat} : cl 154 [.ref p0] h = rn 154 0 [some (.ref p0), none] [] h := rfl
theorem c_155 {h : Hp} {x0 : Int} {x1 : Int} : cl 155 [.int (iI x0), .int (iI x1)] h = rn 155 0 [some (.int (iI x0)), some (.int (iI x1)), none, none, none] [] h := rfl
theorem c_156 {h : Hp} {p0 : Nat} : cl 156 [.ref p0] h = rn 156 0 [some (.ref p0)] [] h := rfl
theorem c_157 {h : Hp} {x0 : Int} {x1 : Int} {x2 : Int} : cl 157 [.int (iI x0), .int (iI x1), .int (iI x2)] h = rn 157 0 [some (.int (iI x0)), some (.int (iI x1)), some (.int (iI x2))] [] h := rfl
theorem c_158 {h : Hp} {p0 : Nat} {x1 : Int} {p2 : Nat} {x3 : Int} : cl 158 [.ref p0, .int (iI x1), .ref p2, .int (iI x3)] h = rn 158 0 [some (.ref p0), some (.int (iI x1)), some (.ref p2), some (.int (iI x3)), none] [] h := rfl
theorem c_159 {h : Hp} {p0 : Nat} {p1 : Nat} : cl 159 [.ref p0, .ref p1] h = rn 159 0 [some (.ref p0), some (.ref p1), none] [] h := rfl
theorem c_160 {h : Hp} {p0 : Nat} : cl 160 [.ref p0] h = rn 160 0 [some (.ref p0)] [] h := rfl
theorem c_161 {h : Hp} {p0 : Nat} {x1 : Int} : cl 161 [.ref p0, .int (iI x1)] h = rn 161 0 [some (.ref p0), some (.int (iI x1))] [] h := rfl
theorem c_162 {h : Hp} {p0 : Nat} {x1 : Int} : cl 162 [.ref p0, .int (iI x1)] h = rn 162 0 [some (.ref p0), some (.int (iI x1))] [] h := rfl
theorem c_163 {h : Hp} {x0 : Int} {x1 : Int} {x2 : Int} {x3 : Int} {x4 : Int} {x5 : Int} : cl 163 [.int (iI x0), .int (iI x1), .int (iI x2), .int (iI x3), .int (iI x4), .int (iI x5)] h = rn 163 0 [some (.int (iI x0)), some (.int (iI x1)), some (.int (iI x2)), some (.int (iI x3)), some (.int (iI x4)), some (.int (iI x5)), none] [] h := rfl
theorem c_164 {h : Hp} {p0 : Nat} {x1 : Int} {x2 : Int} {x3 : Int} {x4 : Int} {x5 : Int} : cl 164 [.ref p0, .int (iI x1), .int (iI x2), .int (iI x3), .int (iI x4), .int (iI x5)] h = rn 164 0 [some (.ref p0), some (.int (iI x1)), some (.int (iI x2)), some (.int (iI x3)), some (.int (iI x4)), some (.int (iI x5)), none, none, none] [] h := rfl
theorem c_165 {h : Hp} {p0 : Nat} {x1 : Int} : cl 165 [.ref p0, .int (iI x1)] h = rn 165 0 [some (.ref p0), some (.int (iI x1))] [] h := rfl
theorem c_166 {h : Hp} {p0 : Nat} {x1 : Int} : cl 166 [.ref p0, .int (iI x1)] h = rn 166 0 [some (.ref p0), some (.int (iI x1))] [] h := rfl
theorem c_167 {h : Hp} {p0 : Nat} {x1 : Int} : cl 167 [.ref p0, .int (iI x1)] h = rn 167 0 [some (.ref p0), some (.int (iI x1))] [] h := rfl
theorem c_168 {h : Hp} {p0 : Nat} : cl 168 [.ref p0] h = rn 168 0 [some (.ref p0)] [] h := rfl
theorem c_169 {h : Hp} {p0 : Nat} : cl 169 [.ref p0] h = rn 169 0 [some (.ref p0)] [] h := rfl
theorem c_170 {h : Hp} {p0 : Nat} : cl 170 [.ref p0] h = rn 170 0 [some (.ref p0)] [] h := rfl
theorem c_171 {h : Hp} {p0 : Nat} {p1 : Nat} : cl 171 [.ref p0, .ref p1] h = rn 171 0 [some (.ref p0), some (.ref p1), none] [] h := rfl
theorem c_172 {h : Hp} {p0 : Nat} {x1 : Int} : cl 172 [.ref p0, .int (iI x1)] h = rn 172 0 [some (.ref p0), some (.int (iI x1))] [] h := rfl
theorem c_173 {h : Hp} {p0 : Nat} {x1 : Int} : cl 173 [.ref p0, .int (iI x1)] h = rn 173 0 [some (.ref p0), some (.int (iI x1))] [] h := rfl
theorem c_174 {h : Hp} {p0 : Nat} : cl 174 [.ref p0] h = rn 174 0 [some (.ref p0)] [] h := rfl
theorem c_175 {h : Hp} {p0 : Nat} {x1 : Int} {x2 : Int} {x3 : Int} : cl 175 [.ref p0, .int (iI x1), .int (iI x2), .int (iI x3)] h = rn 175 0 [some (.ref p0), some (.int (iI x1)), some (.int (iI x2)), some (.int (iI x3)), none] [] h := rfl
theorem c_176 {h : Hp} {x0 : Int} : cl 176 [.int (iI x0)] h = rn 176 0 [some (.int (iI x0))] [] h := rfl
theorem c_177 {h : Hp} {p0 : Nat} : cl 177 [.ref p0] h = rn 177 0 [some (.ref p0), none, none] [] h := rfl
theorem c_178 {h : Hp} {p0 : Nat} : cl 178 [.ref p0] h = rn 178 0 [some (.ref p0), none, none, none, none, none] [] h := rfl
theorem c_179 {h : Hp} {p0 : Nat} : cl 179 [.ref p0] h = rn 179 0 [some (.ref p0), none, none, none, none] [] h := rfl
theorem c_180 {h : Hp} {p0 : Nat} : cl 180 [.ref p0] h = rn 180 0 [some (.ref p0)] [] h := rfl
theorem c_181 {h : Hp} {p0 : Nat} : cl 181 [.ref p0] h = rn 181 0 [some (.ref p0)] [] h := rfl
theorem c_182 {h : Hp} {p0 : Nat} : cl 182 [.ref p0] h = rn 182 0 [some (.ref p0)] [] h := rfl
theorem c_183 {h : Hp} {p0 : Nat} {x1 : Int} : cl 183 [.ref p0, .int (iI x1)] h = rn 183 0 [some (.ref p0), some (.int (iI x1))] [] h := rfl
theorem c_184 {h : Hp} {p0 : Nat} {x1 : Int} : cl 184 [.ref p0, .int (iI x1)] h = rn 184 0 [some (.ref p0), some (.int (iI x1))] [] h := rfl
theorem c_185 {h : Hp} {p0 : Nat} {x1 : Int} {x2 : Int} : cl 185 [.ref p0, .int (iI x1), .int (iI x2)] h = rn 185 0 [some (.ref p0), some (.int (iI x1)), some (.int (iI x2))] [] h := rfl
theorem c_186 {h : Hp} {p0 : Nat} {x1 : Int} {x2 : Int} : cl 186 [.ref p0, .int (iI x1), .int (iI x2)] h = rn 186 0 [some (.ref p0), some (.int (iI x1)), some (.int (iI x2))] [] h := rfl
theorem c_187 {h : Hp} {p0 : Nat} {x1 : Int} : cl 187 [.ref p0, .int (iI x1)] h = rn 187 0 [some (.ref p0), some (.int (iI x1))] [] h := rfl
theorem c_188 {h : Hp} {p0 : Nat} {x1 : Int} : cl 188 [.ref p0, .int (iI x1)] h = rn 188 0 [some (.ref p0), some (.int (iI x1))] [] h := rfl
theorem c_189 {h : Hp} {p0 : Nat} {x1 : Int} {x2 : Int} : cl 189 [.ref p0, .int (iI x1), .int (iI x2)] h = rn 189 0 [some (.ref p0), some (.int (iI x1)), some (.int (iI x2))] [] h := rfl
theorem c_190 {h : Hp} {x0 : Int} : cl 190 [.int (iI x0)] h = rn 190 0 [some (.int (iI x0))] [] h := rfl
theorem c_191 {h : Hp} {x0 : Int} : cl 191 [.int (iI x0)] h = rn 191 0 [some (.int (iI x0)), none] [] h := rfl
theorem c_192 {h : Hp} {p0 : Nat} : cl 192 [.ref p0] h = rn 192 0 [some (.ref p0), none, none] [] h := rfl
theorem c_193 {h : Hp} {p0 : Nat} {x1 : Int} : cl 193 [.ref p0, .int (iI x1)] h = rn 193 0 [some (.ref p0), some (.int (iI x1))] [] h := rfl
theorem c_194 {h : Hp} {p0 : Nat} {x1 : Int} {x2 : Int} {x3 : Int} : cl 194 [.ref p0, .int (iI x1), .int (iI x2), .int (iI x3)] h = rn 194 0 [some (.ref p0), some (.int (iI x1)), some (.int (iI x2)), some (.int (iI x3)), none] [] h := rfl
theorem c_195 {h : Hp} {p0 : Nat} {x1 : Int} {x2 : Int} {x3 : Int} {x4 : Int} : cl 195 [.ref p0, .int (iI x1), .int (iI x2), .int (iI x3), .int (iI x4)] h = rn 195 0 [some (.ref p0), some (.int (iI x1)), some (.int (iI x2)), some (.int (iI x3)), some (.int (iI x4)), none, none, none] [] h := rfl
theorem c_196 {h : Hp} {p0 : Nat} {x1 : Int} : cl 196 [.ref p0, .int (iI x1)] h = rn 196 0 [some (.ref p0), some (.int (iI x1)), none] [] h := rfl
theorem c_197 {h : Hp} {p0 : Nat} {x1 : Int} : cl 197 [.ref p0, .int (iI x1)] h = rn 197 0 [some (.ref p0), some (.int (iI x1)), none] [] h := rfl
theorem c_198 {h : Hp} {p0 : Nat} {x1 : Int} : cl 198 [.ref p0, .int (iI x1)] h = rn 198 0 [some (.ref p0), some (.int (iI x1)), none, none, none, none] [] h := rfl
theorem c_199 {h : Hp} {x0 : Int} {x1 : Int} : cl 199 [.int (iI x0), .int (iI x1)] h = rn 199 0 [some (.int (iI x0)), some (.int (iI x1))] [] h := rfl
theorem c_200 {h : Hp} {p0 : Nat} {x1 : Int} {x2 : Int} : cl 200 [.ref p0, .int (iI x1), .int (iI x2)] h = rn 200 0 [some (.ref p0), some (.int (iI x1)), some (.int (iI x2)), none] [] h := rfl
theorem c_201 {h : Hp} {p0 : Nat} : cl 201 [.ref p0] h = rn 201 0 [some (.ref p0), none, none, none, none] [] h := rfl
theorem c_202 {h : Hp} {p0 : Nat} {x1 : Int} : cl 202 [.ref p0, .int (iI x1)] h = rn 202 0 [some (.ref p0), some (.int (iI x1))] [] h := rfl
theorem c_203 {h : Hp} {p0 : Nat} {x1 : Int} : cl 203 [.ref p0, .int (iI x1)] h = rn 203 0 [some (.ref p0), some (.int (iI x1))] [] h := rfl
theorem c_204 {h : Hp} {p0 : Nat} {x1 : Int} {x2 : Int} {x3 : Int} {x4 : Int} {x5 : Int} : cl 204 [.ref p0, .int (iI x1), .int (iI x2), .int (iI x3), .int (iI x4), .int (iI x5)] h = rn 204 0 [some (.ref p0), some (.int (iI x1)), some (.int (iI x2)), some (.int (iI x3)), some (.int (iI x4)), some (.int (iI x5))] [] h := rfl
theorem c_205 {h : Hp} {p0 : Nat} {x1 : Int} {x2 : Int} {x3 : Int} : cl 205 [.ref p0, .int (iI x1), .int (iI x2), .int (iI x3)] h = rn 205 0 [some (.ref p0), some (.int (iI x1)), some (.int (iI x2)), some (.int (iI x3)), none, none] [] h := rfl
theorem c_206 {h : Hp} {p0 : Nat} {x1 : Int} {x2 : Int} {x3 : Int} {x4 : Int} {x5 : Int} : cl 206 [.ref p0, .int (iI x1), .int (iI x2), .int (iI x3), .int (iI x4), .int (iI x5)] h = rn 206 0 [some (.ref p0), some (.int (iI x1)), some (.int (iI x2)), some (.int (iI x3)), some (.int (iI x4)), some (.int (iI x5)), none, none, none] [] h := rfl
theorem c_207 {h : Hp} {p0 : Nat} {x1 : Int} {x2 : Int} {x3 : Int} : cl 207 [.ref p0, .int (iI x1), .int (iI x2), .int (iI x3)] h = rn 207 0 [some (.ref p0), some (.int (iI x1)), some (.int (iI x2)), some (.int (iI x3)), none, none] [] h := rfl
theorem c_208 {h : Hp} {p0 : Nat} : cl 208 [.ref p0] h = rn 208 0 [some (.ref p0), none, none] [] h := rfl
theorem c_209 {h : Hp} {p0 : Nat} {x1 : Int} {x2 : Int} : cl 209 [.ref p0, .int (iI x1), .int (iI x2)] h = rn 209 0 [some (.ref p0), some (.int (iI x1)), some (.int (iI x2)), none, none, none, none] [] h := rfl
theorem c_210 {h : Hp} {p0 : Nat} : cl 210 [.ref p0] h = rn 210 0 [some (.ref p0), none, none, none, none, none] [] h := rfl
theorem c_211 {h : Hp} {p0 : Nat} : cl 211 [.ref p0] h = rn 211 0 [some (.ref p0), none, none] [] h := rfl
theorem c_212 {h : Hp} {p0 : Nat} : cl 212 [.ref p0] h = rn 212 0 [some (.ref p0)] [] h := rfl
theorem c_213 {h : Hp} {x0 : Int} : cl 213 [.int (iI x0)] h = rn 213 0 [some (.int (iI x0))] [] h := rfl
theorem c_214 {h : Hp} {p0 : Nat} : cl 214 [.ref p0] h = rn 214 0 [some (.ref p0), none, none, none] [] h := rfl
theorem c_215 {h : Hp} {p0 : Nat} {x1 : Int} {x2 : Int} : cl 215 [.ref p0, .int (iI x1), .int (iI x2)] h = rn 215 0 [some (.ref p0), some (.int (iI x1)), some (.int (iI x2)), none] [] h := rfl
theorem c_216 {h : Hp} {p0 : Nat} {x1 : Int} : cl 216 [.ref p0, .int (iI x1)] h = rn 216 0 [some (.ref p0), some (.int (iI x1)), none, none, none] [] h := rfl
theorem c_217 {h : Hp} {p0 : Nat} : cl 217 [.ref p0] h = rn 217 0 [some (.ref p0), none, none, none] [] h := rfl
theorem c_218 {h : Hp} {p0 : Nat} : cl 218 [.ref p0] h = rn 218 0 [some (.ref p0), none, none] [] h := rfl
theorem c_219 {h : Hp} {p0 : Nat} {x1 : Int} : cl 219 [.ref p0, .int (iI x1)] h = rn 219 0 [some (.ref p0), some (.int (iI x1))] [] h := rfl
theorem c_220 {h : Hp} {p0 : Nat} {x1 : Int} {x2 : Int} : cl 220 [.ref p0, .int (iI x1), .int (iI x2)] h = rn 220 0 [some (.ref p0), some (.int (iI x1)), some (.int (iI x2))] [] h := rfl
theorem c_221 {h : Hp} {p0 : Nat} {x1 : Int} {x2 : Int} {x3 : Int} : cl 221 [.ref p0, .int (iI x1), .int (iI x2), .int (iI x3)] h = rn 221 0 [some (.ref p0), some (.int (iI x1)), some (.int (iI x2)), some (.int (iI x3))] [] h := rfl
theorem c_222 {h : Hp} {p0 : Nat} {x1 : Int} : cl 222 [.ref p0, .int (iI x1)] h = rn 222 0 [some (.ref p0), some (.int (iI x1))] [] h := rfl
theorem c_223 {h : Hp} {p0 : Nat} {x1 : Int} {x2 : Int} {x3 : Int} : cl 223 [.ref p0, .int (iI x1), .int (iI x2), .int (iI x3)] h = rn 223 0 [some (.ref p0), some (.int (iI x1)), some (.int (iI x2)), some (.int (iI x3))] [] h := rfl
theorem c_224 {h : Hp} {x0 : Int} : cl 224 [.int (iI x0)] h = rn 224 0 [some (.int (iI x0))] [] h := rfl
theorem c_225 {h : Hp} {p0 : Nat} {x1 : Int} {x2 : Int} {x3 : Int} {x4 : Int} : cl 225 [.ref p0, .int (iI x1), .int (iI x2), .int (iI x3), .int (iI x4)] h = rn 225 0 [some (.ref p0), some (.int (iI x1)), some (.int (iI x2)), some (.int (iI x3)), some (.int (iI x4))] [] h := rfl
theorem c_226 {h : Hp} {p0 : Nat} : cl 226 [.ref p0] h = rn 226 0 [some (.ref p0)] [] h := rfl
theorem c_227 {h : Hp} {p0 : Nat} {x1 : Int} {x2 : Int} : cl 227 [.ref p0, .int (iI x1), .int (iI x2)] h = rn 227 0 [some (.ref p0), some (.int (iI x1)), some (.int (iI x2))] [] h := rfl
theorem c_228 {h : Hp} {p0 : Nat} {x1 : Int} {x2 : Int} : cl 228 [.ref p0, .int (iI x1), .int (iI x2)] h = rn 228 0 [some (.ref p0), some (.int (iI x1)), some (.int (iI x2)), none, none] [] h := rfl
theorem c_229 {h : Hp} {p0 : Nat} {x1 : Int} : cl 229 [.ref p0, .int (iI x1)] h = rn 229 0 [some (.ref p0), some (.int (iI x1)), none, none, none, none] [] h := rfl
theorem c_230 {h : Hp} {p0 : Nat} {x1 : Int} {x2 : Int} {x3 : Int} : cl 230 [.ref p0, .int (iI x1), .int (iI x2), .int (iI x3)] h = rn 230 0 [some (.ref p0), some (.int (iI x1)), some (.int (iI x2)), some (.int (iI x3)), none, none] [] h := rfl
theorem c_231 {h : Hp} {p0 : Nat} {x1 : Int} : cl 231 [.ref p0, .int (iI x1)] h = rn 231 0 [some (.ref p0), some (.int (iI x1))] [] h := rfl
theorem c_232 {h : Hp} {p0 : Nat} : cl 232 [.ref p0] h = rn 232 0 [some (.ref p0), none, none, none] [] h := rfl
theorem c_233 {h : Hp} {p0 : Nat} {x1 : Int} : cl 233 [.ref p0, .int (iI x1)] h = rn 233 0 [some (.ref p0), some (.int (iI x1)), none, none, none] [] h := rfl
theorem c_234 {h : Hp} {p0 : Nat} {x1 : Int} {x2 : Int} {x3 : Int} : cl 234 [.ref p0, .int (iI x1), .int (iI x2), .int (iI x3)] h = rn 234 0 [some (.ref p0), some (.int (iI x1)), some (.int (iI x2)), some (.int (iI x3)), none, none] [] h := rfl
theorem c_235 {h : Hp} {p0 : Nat} : cl 235 [.ref p0] h = rn 235 0 [some (.ref p0), none, none, none, none] [] h := rfl
theorem c_236 {h : Hp} {p0 : Nat} : cl 236 [.ref p0] h = rn 236 0 [some (.ref p0), none] [] h := rfl
theorem c_237 {h : Hp} {p0 : Nat} : cl 237 [.ref p0] h = rn 237 0 [some (.ref p0), none, none, none] [] h := rfl
theorem c_238 {h : Hp} {p0 : Nat} {x1 : Int} : cl 238 [.ref p0, .int (iI x1)] h = rn 238 0 [some (.ref p0), some (.int (iI x1))] [] h := rfl
theorem c_239 {h : Hp} {p0 : Nat} : cl 239 [.ref p0] h = rn 239 0 [some (.ref p0), none] [] h := rfl
theorem c_240 {h : Hp} {p0 : Nat} : cl 240 [.ref p0] h = rn 240 0 [some (.ref p0), none, none] [] h := rfl
theorem c_241 {h : Hp} {p0 : Nat} : cl 241 [.ref p0] h = rn 241 0 [some (.ref p0), none] [] h := rfl
theorem c_242 {h : Hp} {p0 : Nat} : cl 242 [.ref p0] h = rn 242 0 [some (.ref p0), none] [] h := rfl
theorem c_243 {h : Hp} {p0 : Nat} {x1 : Int} : cl 243 [.ref p0, .int (iI x1)] h = rn 243 0 [some (.ref p0), some (.int (iI x1))] [] h := rfl
theorem c_244 {h : Hp} {p0 : Nat} {x1 : Int} : cl 244 [.ref p0, .int (iI x1)] h = rn 244 0 [some (.ref p0), some (.int (iI x1)), none, none] [] h := rfl
theorem c_245 {h : Hp} {p0 : Nat} {x1 : Int} : cl 245 [.ref p0, .int (iI x1)] h = rn 245 0 [some (.ref p0), some (.int (iI x1)), none] [] h := rfl
theorem c_246 {h : Hp} {p0 : Nat} {x1 : Int} : cl 246 [.ref p0, .int (iI x1)] h = rn 246 0 [some (.ref p0), some (.int (iI x1))] [] h := rfl
theorem c_247 {h : Hp} {p0 : Nat} {x1 : Int} : cl 247 [.ref p0, .int (iI x1)] h = rn 247 0 [some (.ref p0), some (.int (iI x1)), none, none, none, none, none] [] h := rfl
theorem c_248 {h : Hp} {p0 : Nat} : cl 248 [.ref p0] h = rn 248 0 [some (.ref p0), none, none, none, none, none] [] h := rfl
theorem c_249 {h : Hp} {x0 : Int} {x1 : Int} {x2 : Int} : cl 249 [.int (iI x0), .int (iI x1), .int (iI x2)] h = rn 249 0 [some (.int (iI x0)), some (.int (iI x1)), some (.int (iI x2))] [] h := rfl
theorem c_250 {h : Hp} {p0 : Nat} {x1 : Int} {x2 : Int} {x3 : Int} {x4 : Int} {x5 : Int} : cl 250 [.ref p0, .int (iI x1), .int (iI x2), .int (iI x3), .int (iI x4), .int (iI x5)] h = rn 250 0 [some (.ref p0), some (.int (iI x1)), some (.int (iI x2)), some (.int (iI x3)), some (.int (iI x4)), some (.int (iI x5)), none, none] [] h := rfl
theorem c_251 {h : Hp} {p0 : Nat} {x1 : Int} : cl 251 [.ref p0, .int (iI x1)] h = rn 251 0 [some (.ref p0), some (.int (iI x1)), none] [] h := rfl
theorem c_252 {h : Hp} {p0 : Nat} {x1 : Int} {x2 : Int} : cl 252 [.ref p0, .int (iI x1), .int (iI x2)] h = rn 252 0 [some (.ref p0), some (.int (iI x1)), some (.int (iI x2)), none] [] h := rfl
theorem c_253 {h : Hp} {p0 : Nat} {x1 : Int} {x2 : Int} : cl 253 [.ref p0, .int (iI x1), .int (iI x2)] h = rn 253 0 [some (.ref p0), some (.int (iI x1)), some (.int (iI x2))] [] h := rfl
theorem c_254 {h : Hp} {p0 : Nat} {x1 : Int} {x2 : Int} {x3 : Int} {x4 : Int} : cl 254 [.ref p0, .int (iI x1), .int (iI x2), .int (iI x3), .int (iI x4)] h = rn 254 0 [some (.ref p0), some (.int (iI x1)), some (.int (iI x2)), some (.int (iI x3)), some (.int (iI x4)), none, none] [] h := rfl
theorem c_255 {h : Hp} {p0 : Nat} {x1 : Int} {x2 : Int} : cl 255 [.ref p0, .int (iI x1), .int (iI x2)] h = rn 255 0 [some (.ref p0), some (.int (iI x1)), some (.int (iI x2))] [] h := rfl
theorem c_256 {h : Hp} {p0 : Nat} {x1 : Int} {x2 : Int} {x3 : Int} {x4 : Int} {x5 : Int} : cl 256 [.ref p0, .int (iI x1), .int (iI x2), .int (iI x3), .int (iI x4), .int (iI x5)] h = rn 256 0 [some (.ref p0), some (.int (iI x1)), some (.int (iI x2)), some (.int (iI x3)), some (.int (iI x4)), some (.int (iI x5)), none, none] [] h := rfl
theorem c_257 {h : Hp} {p0 : Nat} {x1 : Int} : cl 257 [.ref p0, .int (iI x1)] h = rn 257 0 [some (.ref p0), some (.int (iI x1))] [] h := rfl
theorem c_258 {h : Hp} {p0 : Nat} {x1 : Int} : cl 258 [.ref p0, .int (iI x1)] h = rn 258 0 [some (.ref p0), some (.int (iI x1))] [] h := rfl
theorem c_259 {h : Hp} {p0 : Nat} : cl 259 [.ref p0] h = rn 259 0 [some (.ref p0), none, none, none, none] [] h := rfl
theorem c_260 {h : Hp} {p0 : Nat} {x1 : Int} : cl 260 [.ref p0, .int (iI x1)] h = rn 260 0 [some (.ref p0), some (.int (iI x1))] [] h := rfl
theorem c_261 {h : Hp} {p0 : Nat} : cl 261 [.ref p0] h = rn 261 0 [some (.ref p0), none, none] [] h := rfl
theorem c_262 {h : Hp} {p0 : Nat} {x1 : Int} : cl 262 [.ref p0, .int (iI x1)] h = rn 262 0 [some (.ref p0), some (.int (iI x1))] [] h := rfl
theorem c_263 {h : Hp} {p0 : Nat} {x1 : Int} {x2 : Int} {x3 : Int} {x4 : Int} {x5 : Int} {p6 : Nat} : cl 263 [.ref p0, .int (iI x1), .int (iI x2), .int (iI x3), .int (iI x4), .int (iI x5), .ref p6] h = rn 263 0 [some (.ref p0), some (.int (iI x1)), some (.int (iI x2)), some (.int (iI x3)), some (.int (iI x4)), some (.int (iI x5)), some (.ref p6), none] [] h := rfl
theorem c_264 {h : Hp} {p0 : Nat} {x1 : Int} {p2 : Nat} : cl 264 [.ref p0, .int (iI x1), .ref p2] h = rn 264 0 [some (.ref p0), some (.int (iI x1)), some (.ref p2), none] [] h := rfl
theorem c_265 {h : Hp} {p0 : Nat} {x1 : Int} {x2 : Int} {p3 : Nat} : cl 265 [.ref p0, .int (iI x1), .int (iI x2), .ref p3] h = rn 265 0 [some (.ref p0), some (.int (iI x1)), some (.int (iI x2)), some (.ref p3), none] [] h := rfl
theorem c_266 {h : Hp} {p0 : Nat} {x1 : Int} {x2 : Int} {x3 : Int} {p4 : Nat} : cl 266 [.ref p0, .int (iI x1), .int (iI x2), .int (iI x3), .ref p4] h = rn 266 0 [some (.ref p0), some (.int (iI x1)), some (.int (iI x2)), some (.int (iI x3)), some (.ref p4), none] [] h := rfl
theorem c_267 {h : Hp} {p0 : Nat} {x1 : Int} {p2 : Nat} : cl 267 [.ref p0, .int (iI x1), .ref p2] h = rn 267 0 [some (.ref p0), some (.int (iI x1)), some (.ref p2), none] [] h := rfl
theorem c_268 {h : Hp} {p0 : Nat} {x1 : Int} {x2 : Int} {x3 : Int} {p4 : Nat} : cl 268 [.ref p0, .int (iI x1), .int (iI x2), .int (iI x3), .ref p4] h = rn 268 0 [some (.ref p0), some (.int (iI x1)), some (.int (iI x2)), some (.int (iI x3)), some (.ref p4), none] [] h := rfl
theorem c_269 {h : Hp} {p0 : Nat} {x1 : Int} {x2 : Int} {x3 : Int} {x4 : Int} {p5 : Nat} : cl 269 [.ref p0, .int (iI x1), .int (iI x2), .int (iI x3), .int (iI x4), .ref p5] h = rn 269 0 [some (.ref p0), some (.int (iI x1)), some (.int (iI x2)), some (.int (iI x3)), some (.int (iI x4)), some (.ref p5), none] [] h := rfl
theorem c_270 {h : Hp} {p0 : Nat} {x1 : Int} {x2 : Int} {p3 : Nat} : cl 270 [.ref p0, .int (iI x1), .int (iI x2), .ref p3] h = rn 270 0 [some (.ref p0), some (.int (iI x1)), some (.int (iI x2)), some (.ref p3), none] [] h := rfl
theorem c_271 {h : Hp} {p0 : Nat} {x1 : Int} {x2 : Int} {p3 : Nat} : cl 271 [.ref p0, .int (iI x1), .int (iI x2), .ref p3] h = rn 271 0 [some (.ref p0), some (.int (iI x1)), some (.int (iI x2)), some (.ref p3), none] [] h := rfl
theorem c_272 {h : Hp} {p0 : Nat} {x1 : Int} {x2 : Int} {x3 : Int} {p4 : Nat} : cl 272 [.ref p0, .int (iI x1), .int (iI x2), .int (iI x3), .ref p4] h = rn 272 0 [some (.ref p0), some (.int (iI x1)), some (.int (iI x2)), some (.int (iI x3)), some (.ref p4), none] [] h := rfl
theorem c_273 {h : Hp} {p0 : Nat} {x1 : Int} {p2 : Nat} : cl 273 [.ref p0, .int (iI x1), .ref p2] h = rn 273 0 [some (.ref p0), some (.int (iI x1)), some (.ref p2), none] [] h := rfl
theorem c_274 {h : Hp} {p0 : Nat} {p1 : Nat} : cl 274 [.ref p0, .ref p1] h = rn 274 0 [some (.ref p0), some (.ref p1), none] [] h := rfl
theorem c_275 {h : Hp} {p0 : Nat} {p1 : Nat} : cl 275 [.ref p0, .ref p1] h = rn 275 0 [some (.ref p0), some (.ref p1), none] [] h := rfl
theorem c_276 {h : Hp} {p0 : Nat} {x1 : Int} {p2 : Nat} : cl 276 [.ref p0, .int (iI x1), .ref p2] h = rn 276 0 [some (.ref p0), some (.int (iI x1)), some (.ref p2), none] [] h := rfl
theorem c_277 {h : Hp} {p0 : Nat} {x1 : Int} {p2 : Nat} : cl 277 [.ref p0, .int (iI x1), .ref p2] h = rn 277 0 [some (.ref p0), some (.int (iI x1)), some (.ref p2), none] [] h := rfl
theorem c_278 {h : Hp} {p0 : Nat} {x1 : Int} {x2 : Int} {x3 : Int} {x4 : Int} {x5 : Int} {p6 : Nat} : cl 278 [.ref p0, .int (iI x1), .int (iI x2), .int (iI x3), .int (iI x4), .int (iI x5), .ref p6] h = rn 278 0 [some (.ref p0), some (.int (iI x1)), some (.int (iI x2)), some (.int (iI x3)), some (.int (iI x4)), some (.int (iI x5)), some (.ref p6), none] [] h := rfl
theorem c_279 {h : Hp} {p0 : Nat} {x1 : Int} {p2 : Nat} : cl 279 [.ref p0, .int (iI x1), .ref p2] h = rn 279 0 [some (.ref p0), some (.int (iI x1)), some (.ref p2), none] [] h := rfl
theorem c_280 {h : Hp} {p0 : Nat} {x1 : Int} {x2 : Int} {p3 : Nat} : cl 280 [.ref p0, .int (iI x1), .int (iI x2), .ref p3] h = rn 280 0 [some (.ref p0), some (.int (iI x1)), some (.int (iI x2)), some (.ref p3), none] [] h := rfl
theorem c_281 {h : Hp} {p0 : Nat} {x1 : Int} {x2 : Int} {x3 : Int} {x4 : Int} {p5 : Nat} : cl 281 [.ref p0, .int (iI x1), .int (iI x2), .int (iI x3), .int (iI x4), .ref p5] h = rn 281 0 [some (.ref p0), some (.int (iI x1)), some (.int (iI x2)), some (.int (iI x3)), some (.int (iI x4)), some (.ref p5), none] [] h := rfl
theorem c_282 {h : Hp} {p0 : Nat} {x1 : Int} {x2 : Int} {p3 : Nat} : cl 282 [.ref p0, .int (iI x1), .int (iI x2), .ref p3] h = rn 282 0 [some (.ref p0), some (.int (iI x1)), some (.int (iI x2)), some (.ref p3), none] [] h := rfl
theorem c_283 {h : Hp} {p0 : Nat} {x1 : Int} {x2 : Int} {x3 : Int} {x4 : Int} {x5 : Int} {p6 : Nat} : cl 283 [.ref p0, .int (iI x1), .int (iI x2), .int (iI x3), .int (iI x4), .int (iI x5), .ref p6] h = rn 283 0 [some (.ref p0), some (.int (iI x1)), some (.int (iI x2)), some (.int (iI x3)), some (.int (iI x4)), some (.int (iI x5)), some (.ref p6), none] [] h := rfl
theorem c_284 {h : Hp} {p0 : Nat} {x1 : Int} {p2 : Nat} : cl 284 [.ref p0, .int (iI x1), .ref p2] h = rn 284 0 [some (.ref p0), some (.int (iI x1)), some (.ref p2), none] [] h := rfl
theorem c_285 {h : Hp} {p0 : Nat} {p1 : Nat} : cl 285 [.ref p0, .ref p1] h = rn 285 0 [some (.ref p0), some (.ref p1), none] [] h := rfl
theorem c_286 {h : Hp} {p0 : Nat} {p1 : Nat} : cl 286 [.ref p0, .ref p1] h = rn 286 0 [some (.ref p0), some (.ref p1), none] [] h := rfl
theorem c_287 {h : Hp} {p0 : Nat} {x1 : Int} : cl 287 [.ref p0, .int (iI x1)] h = rn 287 0 [some (.ref p0), some (.int (iI x1)), none] [] h := rfl
theorem c_288 {h : Hp} {p0 : Nat} {x1 : Int} {p2 : Nat} : cl 288 [.ref p0, .int (iI x1), .ref p2] h = rn 288 0 [some (.ref p0), some (.int (iI x1)), some (.ref p2), none] [] h := rfl
theorem c_289 {h : Hp} {p0 : Nat} {p1 : Nat} : cl 289 [.ref p0, .ref p1] h = rn 289 0 [some (.ref p0), some (.ref p1), none] [] h := rfl
theorem c_290 {h : Hp} {p0 : Nat} {x1 : Int} {p2 : Nat} : cl 290 [.ref p0, .int (iI x1), .ref p2] h = rn 290 0 [some (.ref p0), some (.int (iI x1)), some (.ref p2), none] [] h := rfl
theorem c_291 {h : Hp} {p0 : Nat} : cl 291 [.ref p0] h = rn 291 0 [some (.ref p0), none, none, none, none, none, none, none, none] [] h := rfl
theorem c_292 {h : Hp} {x0 : Int} {x1 : Int} : cl 292 [.int (iI x0), .int (iI x1)] h = rn 292 0 [some (.int (iI x0)), some (.int (iI x1)), none] [] h := rfl
theorem c_293 {h : Hp} {x0 : Int} : cl 293 [.int (iI x0)] h = rn 293 0 [some (.int (iI x0))] [] h := rfl
theorem c_294 {h : Hp} {p0 : Nat} : cl 294 [.ref p0] h = rn 294 0 [some (.ref p0)] [] h := rfl
theorem c_295 {h : Hp} {p0 : Nat} {x1 : Int} : cl 295 [.ref p0, .int (iI x1)] h = rn 295 0 [some (.ref p0), some (.int (iI x1))] [] h := rfl
theorem c_296 {h : Hp} {p0 : Nat} : cl 296 [.ref p0] h = rn 296 0 [some (.ref p0)] [] h := rfl
theorem c_297 {h : Hp} {p0 : Nat} : cl 297 [.ref p0] h = rn 297 0 [some (.ref p0)] [] h := rfl
theorem c_298 {h : Hp} {p0 : Nat} {x1 : Int} : cl 298 [.ref p0, .int (iI x1)] h = rn 298 0 [some (.ref p0), some (.int (iI x1))] [] h := rfl
