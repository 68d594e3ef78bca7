/-! the premises on the text of words (by program, lflat.py) -/
def wTm : Term := .string "DoorFleet$Reader" 102
def wEl (j : Nat) : Cond := .eq (.elem (.field wTm "java/lang/String" "value" "[B") (.int (Int32.ofNat j))) (.int (wBy.getD j 0))
theorem w_ex : Cond.exactly wTm "java/lang/String" ∈ flatC (Jvm.Cond.and given_1 narrow_1) := List.mem_of_getElem? (i := 9) (by decide +kernel)
theorem w_co : Cond.eq (.field wTm "java/lang/String" "coder" "B") (.int 0) ∈ flatC (Jvm.Cond.and given_1 narrow_1) := List.mem_of_getElem? (i := 10) (by decide +kernel)
theorem w_ar : Cond.arrayOf (.field wTm "java/lang/String" "value" "[B") .byte ∈ flatC (Jvm.Cond.and given_1 narrow_1) := List.mem_of_getElem? (i := 11) (by decide +kernel)
theorem w_le : Cond.eq (.length (.field wTm "java/lang/String" "value" "[B")) (.int (Int32.ofNat 148)) ∈ flatC (Jvm.Cond.and given_1 narrow_1) := List.mem_of_getElem? (i := 12) (by decide +kernel)
theorem w_cs : Cond.eq (.static "java/lang/String" "COMPACT_STRINGS" "Z") (.int 1) ∈ flatC (Jvm.Cond.and given_1 narrow_1) := List.mem_of_getElem? (i := 4) (by decide +kernel)
theorem w_fo : Cond.isRef (.static "jdk/internal/util/Preconditions" "SIOOBE_FORMATTER" "Ljava/util/function/BiFunction;") ∈ flatC (Jvm.Cond.and given_1 narrow_1) := List.mem_of_getElem? (i := 5) (by decide +kernel)
theorem w_e0 : wEl 0 ∈ flatC (Jvm.Cond.and given_1 narrow_1) := List.mem_of_getElem? (i := 13) (by decide +kernel)
theorem w_e1 : wEl 1 ∈ flatC (Jvm.Cond.and given_1 narrow_1) := List.mem_of_getElem? (i := 14) (by decide +kernel)
theorem w_e2 : wEl 2 ∈ flatC (Jvm.Cond.and given_1 narrow_1) := List.mem_of_getElem? (i := 15) (by decide +kernel)
theorem w_e3 : wEl 3 ∈ flatC (Jvm.Cond.and given_1 narrow_1) := List.mem_of_getElem? (i := 16) (by decide +kernel)
theorem w_e4 : wEl 4 ∈ flatC (Jvm.Cond.and given_1 narrow_1) := List.mem_of_getElem? (i := 17) (by decide +kernel)
theorem w_e5 : wEl 5 ∈ flatC (Jvm.Cond.and given_1 narrow_1) := List.mem_of_getElem? (i := 18) (by decide +kernel)
theorem w_e6 : wEl 6 ∈ flatC (Jvm.Cond.and given_1 narrow_1) := List.mem_of_getElem? (i := 19) (by decide +kernel)
theorem w_e7 : wEl 7 ∈ flatC (Jvm.Cond.and given_1 narrow_1) := List.mem_of_getElem? (i := 20) (by decide +kernel)
theorem w_e8 : wEl 8 ∈ flatC (Jvm.Cond.and given_1 narrow_1) := List.mem_of_getElem? (i := 21) (by decide +kernel)
theorem w_e9 : wEl 9 ∈ flatC (Jvm.Cond.and given_1 narrow_1) := List.mem_of_getElem? (i := 22) (by decide +kernel)
theorem w_e10 : wEl 10 ∈ flatC (Jvm.Cond.and given_1 narrow_1) := List.mem_of_getElem? (i := 23) (by decide +kernel)
theorem w_e11 : wEl 11 ∈ flatC (Jvm.Cond.and given_1 narrow_1) := List.mem_of_getElem? (i := 24) (by decide +kernel)
theorem w_e12 : wEl 12 ∈ flatC (Jvm.Cond.and given_1 narrow_1) := List.mem_of_getElem? (i := 25) (by decide +kernel)
theorem w_e13 : wEl 13 ∈ flatC (Jvm.Cond.and given_1 narrow_1) := List.mem_of_getElem? (i := 26) (by decide +kernel)
theorem w_e14 : wEl 14 ∈ flatC (Jvm.Cond.and given_1 narrow_1) := List.mem_of_getElem? (i := 27) (by decide +kernel)
theorem w_e15 : wEl 15 ∈ flatC (Jvm.Cond.and given_1 narrow_1) := List.mem_of_getElem? (i := 28) (by decide +kernel)
theorem w_e16 : wEl 16 ∈ flatC (Jvm.Cond.and given_1 narrow_1) := List.mem_of_getElem? (i := 29) (by decide +kernel)
theorem w_e17 : wEl 17 ∈ flatC (Jvm.Cond.and given_1 narrow_1) := List.mem_of_getElem? (i := 30) (by decide +kernel)
theorem w_e18 : wEl 18 ∈ flatC (Jvm.Cond.and given_1 narrow_1) := List.mem_of_getElem? (i := 31) (by decide +kernel)
theorem w_e19 : wEl 19 ∈ flatC (Jvm.Cond.and given_1 narrow_1) := List.mem_of_getElem? (i := 32) (by decide +kernel)
theorem w_e20 : wEl 20 ∈ flatC (Jvm.Cond.and given_1 narrow_1) := List.mem_of_getElem? (i := 33) (by decide +kernel)
theorem w_e21 : wEl 21 ∈ flatC (Jvm.Cond.and given_1 narrow_1) := List.mem_of_getElem? (i := 34) (by decide +kernel)
theorem w_e22 : wEl 22 ∈ flatC (Jvm.Cond.and given_1 narrow_1) := List.mem_of_getElem? (i := 35) (by decide +kernel)
theorem w_e23 : wEl 23 ∈ flatC (Jvm.Cond.and given_1 narrow_1) := List.mem_of_getElem? (i := 36) (by decide +kernel)
theorem w_e24 : wEl 24 ∈ flatC (Jvm.Cond.and given_1 narrow_1) := List.mem_of_getElem? (i := 37) (by decide +kernel)
theorem w_e25 : wEl 25 ∈ flatC (Jvm.Cond.and given_1 narrow_1) := List.mem_of_getElem? (i := 38) (by decide +kernel)
theorem w_e26 : wEl 26 ∈ flatC (Jvm.Cond.and given_1 narrow_1) := List.mem_of_getElem? (i := 39) (by decide +kernel)
theorem w_e27 : wEl 27 ∈ flatC (Jvm.Cond.and given_1 narrow_1) := List.mem_of_getElem? (i := 40) (by decide +kernel)
theorem w_e28 : wEl 28 ∈ flatC (Jvm.Cond.and given_1 narrow_1) := List.mem_of_getElem? (i := 41) (by decide +kernel)
theorem w_e29 : wEl 29 ∈ flatC (Jvm.Cond.and given_1 narrow_1) := List.mem_of_getElem? (i := 42) (by decide +kernel)
theorem w_e30 : wEl 30 ∈ flatC (Jvm.Cond.and given_1 narrow_1) := List.mem_of_getElem? (i := 43) (by decide +kernel)
theorem w_e31 : wEl 31 ∈ flatC (Jvm.Cond.and given_1 narrow_1) := List.mem_of_getElem? (i := 44) (by decide +kernel)
theorem w_e32 : wEl 32 ∈ flatC (Jvm.Cond.and given_1 narrow_1) := List.mem_of_getElem? (i := 45) (by decide +kernel)
theorem w_e33 : wEl 33 ∈ flatC (Jvm.Cond.and given_1 narrow_1) := List.mem_of_getElem? (i := 46) (by decide +kernel)
theorem w_e34 : wEl 34 ∈ flatC (Jvm.Cond.and given_1 narrow_1) := List.mem_of_getElem? (i := 47) (by decide +kernel)
theorem w_e35 : wEl 35 ∈ flatC (Jvm.Cond.and given_1 narrow_1) := List.mem_of_getElem? (i := 48) (by decide +kernel)
theorem w_e36 : wEl 36 ∈ flatC (Jvm.Cond.and given_1 narrow_1) := List.mem_of_getElem? (i := 49) (by decide +kernel)
theorem w_e37 : wEl 37 ∈ flatC (Jvm.Cond.and given_1 narrow_1) := List.mem_of_getElem? (i := 50) (by decide +kernel)
theorem w_e38 : wEl 38 ∈ flatC (Jvm.Cond.and given_1 narrow_1) := List.mem_of_getElem? (i := 51) (by decide +kernel)
theorem w_e39 : wEl 39 ∈ flatC (Jvm.Cond.and given_1 narrow_1) := List.mem_of_getElem? (i := 52) (by decide +kernel)
theorem w_e40 : wEl 40 ∈ flatC (Jvm.Cond.and given_1 narrow_1) := List.mem_of_getElem? (i := 53) (by decide +kernel)
theorem w_e41 : wEl 41 ∈ flatC (Jvm.Cond.and given_1 narrow_1) := List.mem_of_getElem? (i := 54) (by decide +kernel)
theorem w_e42 : wEl 42 ∈ flatC (Jvm.Cond.and given_1 narrow_1) := List.mem_of_getElem? (i := 55) (by decide +kernel)
theorem w_e43 : wEl 43 ∈ flatC (Jvm.Cond.and given_1 narrow_1) := List.mem_of_getElem? (i := 56) (by decide +kernel)
theorem w_e44 : wEl 44 ∈ flatC (Jvm.Cond.and given_1 narrow_1) := List.mem_of_getElem? (i := 57) (by decide +kernel)
theorem w_e45 : wEl 45 ∈ flatC (Jvm.Cond.and given_1 narrow_1) := List.mem_of_getElem? (i := 58) (by decide +kernel)
theorem w_e46 : wEl 46 ∈ flatC (Jvm.Cond.and given_1 narrow_1) := List.mem_of_getElem? (i := 59) (by decide +kernel)
theorem w_e47 : wEl 47 ∈ flatC (Jvm.Cond.and given_1 narrow_1) := List.mem_of_getElem? (i := 60) (by decide +kernel)
theorem w_e48 : wEl 48 ∈ flatC (Jvm.Cond.and given_1 narrow_1) := List.mem_of_getElem? (i := 61) (by decide +kernel)
theorem w_e49 : wEl 49 ∈ flatC (Jvm.Cond.and given_1 narrow_1) := List.mem_of_getElem? (i := 62) (by decide +kernel)
theorem w_e50 : wEl 50 ∈ flatC (Jvm.Cond.and given_1 narrow_1) := List.mem_of_getElem? (i := 63) (by decide +kernel)
theorem w_e51 : wEl 51 ∈ flatC (Jvm.Cond.and given_1 narrow_1) := List.mem_of_getElem? (i := 64) (by decide +kernel)
theorem w_e52 : wEl 52 ∈ flatC (Jvm.Cond.and given_1 narrow_1) := List.mem_of_getElem? (i := 65) (by decide +kernel)
theorem w_e53 : wEl 53 ∈ flatC (Jvm.Cond.and given_1 narrow_1) := List.mem_of_getElem? (i := 66) (by decide +kernel)
theorem w_e54 : wEl 54 ∈ flatC (Jvm.Cond.and given_1 narrow_1) := List.mem_of_getElem? (i := 67) (by decide +kernel)
theorem w_e55 : wEl 55 ∈ flatC (Jvm.Cond.and given_1 narrow_1) := List.mem_of_getElem? (i := 68) (by decide +kernel)
theorem w_e56 : wEl 56 ∈ flatC (Jvm.Cond.and given_1 narrow_1) := List.mem_of_getElem? (i := 69) (by decide +kernel)
theorem w_e57 : wEl 57 ∈ flatC (Jvm.Cond.and given_1 narrow_1) := List.mem_of_getElem? (i := 70) (by decide +kernel)
theorem w_e58 : wEl 58 ∈ flatC (Jvm.Cond.and given_1 narrow_1) := List.mem_of_getElem? (i := 71) (by decide +kernel)
theorem w_e59 : wEl 59 ∈ flatC (Jvm.Cond.and given_1 narrow_1) := List.mem_of_getElem? (i := 72) (by decide +kernel)
theorem w_e60 : wEl 60 ∈ flatC (Jvm.Cond.and given_1 narrow_1) := List.mem_of_getElem? (i := 73) (by decide +kernel)
theorem w_e61 : wEl 61 ∈ flatC (Jvm.Cond.and given_1 narrow_1) := List.mem_of_getElem? (i := 74) (by decide +kernel)
theorem w_e62 : wEl 62 ∈ flatC (Jvm.Cond.and given_1 narrow_1) := List.mem_of_getElem? (i := 75) (by decide +kernel)
theorem w_e63 : wEl 63 ∈ flatC (Jvm.Cond.and given_1 narrow_1) := List.mem_of_getElem? (i := 76) (by decide +kernel)
theorem w_e64 : wEl 64 ∈ flatC (Jvm.Cond.and given_1 narrow_1) := List.mem_of_getElem? (i := 77) (by decide +kernel)
theorem w_e65 : wEl 65 ∈ flatC (Jvm.Cond.and given_1 narrow_1) := List.mem_of_getElem? (i := 78) (by decide +kernel)
theorem w_e66 : wEl 66 ∈ flatC (Jvm.Cond.and given_1 narrow_1) := List.mem_of_getElem? (i := 79) (by decide +kernel)
theorem w_e67 : wEl 67 ∈ flatC (Jvm.Cond.and given_1 narrow_1) := List.mem_of_getElem? (i := 80) (by decide +kernel)
theorem w_e68 : wEl 68 ∈ flatC (Jvm.Cond.and given_1 narrow_1) := List.mem_of_getElem? (i := 81) (by decide +kernel)
theorem w_e69 : wEl 69 ∈ flatC (Jvm.Cond.and given_1 narrow_1) := List.mem_of_getElem? (i := 82) (by decide +kernel)
theorem w_e70 : wEl 70 ∈ flatC (Jvm.Cond.and given_1 narrow_1) := List.mem_of_getElem? (i := 83) (by decide +kernel)
theorem w_e71 : wEl 71 ∈ flatC (Jvm.Cond.and given_1 narrow_1) := List.mem_of_getElem? (i := 84) (by decide +kernel)
theorem w_e72 : wEl 72 ∈ flatC (Jvm.Cond.and given_1 narrow_1) := List.mem_of_getElem? (i := 85) (by decide +kernel)
theorem w_e73 : wEl 73 ∈ flatC (Jvm.Cond.and given_1 narrow_1) := List.mem_of_getElem? (i := 86) (by decide +kernel)
theorem w_e74 : wEl 74 ∈ flatC (Jvm.Cond.and given_1 narrow_1) := List.mem_of_getElem? (i := 87) (by decide +kernel)
theorem w_e75 : wEl 75 ∈ flatC (Jvm.Cond.and given_1 narrow_1) := List.mem_of_getElem? (i := 88) (by decide +kernel)
theorem w_e76 : wEl 76 ∈ flatC (Jvm.Cond.and given_1 narrow_1) := List.mem_of_getElem? (i := 89) (by decide +kernel)
theorem w_e77 : wEl 77 ∈ flatC (Jvm.Cond.and given_1 narrow_1) := List.mem_of_getElem? (i := 90) (by decide +kernel)
theorem w_e78 : wEl 78 ∈ flatC (Jvm.Cond.and given_1 narrow_1) := List.mem_of_getElem? (i := 91) (by decide +kernel)
theorem w_e79 : wEl 79 ∈ flatC (Jvm.Cond.and given_1 narrow_1) := List.mem_of_getElem? (i := 92) (by decide +kernel)
theorem w_e80 : wEl 80 ∈ flatC (Jvm.Cond.and given_1 narrow_1) := List.mem_of_getElem? (i := 93) (by decide +kernel)
theorem w_e81 : wEl 81 ∈ flatC (Jvm.Cond.and given_1 narrow_1) := List.mem_of_getElem? (i := 94) (by decide +kernel)
theorem w_e82 : wEl 82 ∈ flatC (Jvm.Cond.and given_1 narrow_1) := List.mem_of_getElem? (i := 95) (by decide +kernel)
theorem w_e83 : wEl 83 ∈ flatC (Jvm.Cond.and given_1 narrow_1) := List.mem_of_getElem? (i := 96) (by decide +kernel)
theorem w_e84 : wEl 84 ∈ flatC (Jvm.Cond.and given_1 narrow_1) := List.mem_of_getElem? (i := 97) (by decide +kernel)
theorem w_e85 : wEl 85 ∈ flatC (Jvm.Cond.and given_1 narrow_1) := List.mem_of_getElem? (i := 98) (by decide +kernel)
theorem w_e86 : wEl 86 ∈ flatC (Jvm.Cond.and given_1 narrow_1) := List.mem_of_getElem? (i := 99) (by decide +kernel)
theorem w_e87 : wEl 87 ∈ flatC (Jvm.Cond.and given_1 narrow_1) := List.mem_of_getElem? (i := 100) (by decide +kernel)
theorem w_e88 : wEl 88 ∈ flatC (Jvm.Cond.and given_1 narrow_1) := List.mem_of_getElem? (i := 101) (by decide +kernel)
theorem w_e89 : wEl 89 ∈ flatC (Jvm.Cond.and given_1 narrow_1) := List.mem_of_getElem? (i := 102) (by decide +kernel)
theorem w_e90 : wEl 90 ∈ flatC (Jvm.Cond.and given_1 narrow_1) := List.mem_of_getElem? (i := 103) (by decide +kernel)
theorem w_e91 : wEl 91 ∈ flatC (Jvm.Cond.and given_1 narrow_1) := List.mem_of_getElem? (i := 104) (by decide +kernel)
theorem w_e92 : wEl 92 ∈ flatC (Jvm.Cond.and given_1 narrow_1) := List.mem_of_getElem? (i := 105) (by decide +kernel)
theorem w_e93 : wEl 93 ∈ flatC (Jvm.Cond.and given_1 narrow_1) := List.mem_of_getElem? (i := 106) (by decide +kernel)
theorem w_e94 : wEl 94 ∈ flatC (Jvm.Cond.and given_1 narrow_1) := List.mem_of_getElem? (i := 107) (by decide +kernel)
theorem w_e95 : wEl 95 ∈ flatC (Jvm.Cond.and given_1 narrow_1) := List.mem_of_getElem? (i := 108) (by decide +kernel)
theorem w_e96 : wEl 96 ∈ flatC (Jvm.Cond.and given_1 narrow_1) := List.mem_of_getElem? (i := 109) (by decide +kernel)
theorem w_e97 : wEl 97 ∈ flatC (Jvm.Cond.and given_1 narrow_1) := List.mem_of_getElem? (i := 110) (by decide +kernel)
theorem w_e98 : wEl 98 ∈ flatC (Jvm.Cond.and given_1 narrow_1) := List.mem_of_getElem? (i := 111) (by decide +kernel)
theorem w_e99 : wEl 99 ∈ flatC (Jvm.Cond.and given_1 narrow_1) := List.mem_of_getElem? (i := 112) (by decide +kernel)
theorem w_e100 : wEl 100 ∈ flatC (Jvm.Cond.and given_1 narrow_1) := List.mem_of_getElem? (i := 113) (by decide +kernel)
theorem w_e101 : wEl 101 ∈ flatC (Jvm.Cond.and given_1 narrow_1) := List.mem_of_getElem? (i := 114) (by decide +kernel)
theorem w_e102 : wEl 102 ∈ flatC (Jvm.Cond.and given_1 narrow_1) := List.mem_of_getElem? (i := 115) (by decide +kernel)
theorem w_e103 : wEl 103 ∈ flatC (Jvm.Cond.and given_1 narrow_1) := List.mem_of_getElem? (i := 116) (by decide +kernel)
theorem w_e104 : wEl 104 ∈ flatC (Jvm.Cond.and given_1 narrow_1) := List.mem_of_getElem? (i := 117) (by decide +kernel)
theorem w_e105 : wEl 105 ∈ flatC (Jvm.Cond.and given_1 narrow_1) := List.mem_of_getElem? (i := 118) (by decide +kernel)
theorem w_e106 : wEl 106 ∈ flatC (Jvm.Cond.and given_1 narrow_1) := List.mem_of_getElem? (i := 119) (by decide +kernel)
theorem w_e107 : wEl 107 ∈ flatC (Jvm.Cond.and given_1 narrow_1) := List.mem_of_getElem? (i := 120) (by decide +kernel)
theorem w_e108 : wEl 108 ∈ flatC (Jvm.Cond.and given_1 narrow_1) := List.mem_of_getElem? (i := 121) (by decide +kernel)
theorem w_e109 : wEl 109 ∈ flatC (Jvm.Cond.and given_1 narrow_1) := List.mem_of_getElem? (i := 122) (by decide +kernel)
theorem w_e110 : wEl 110 ∈ flatC (Jvm.Cond.and given_1 narrow_1) := List.mem_of_getElem? (i := 123) (by decide +kernel)
theorem w_e111 : wEl 111 ∈ flatC (Jvm.Cond.and given_1 narrow_1) := List.mem_of_getElem? (i := 124) (by decide +kernel)
theorem w_e112 : wEl 112 ∈ flatC (Jvm.Cond.and given_1 narrow_1) := List.mem_of_getElem? (i := 125) (by decide +kernel)
theorem w_e113 : wEl 113 ∈ flatC (Jvm.Cond.and given_1 narrow_1) := List.mem_of_getElem? (i := 126) (by decide +kernel)
theorem w_e114 : wEl 114 ∈ flatC (Jvm.Cond.and given_1 narrow_1) := List.mem_of_getElem? (i := 127) (by decide +kernel)
theorem w_e115 : wEl 115 ∈ flatC (Jvm.Cond.and given_1 narrow_1) := List.mem_of_getElem? (i := 128) (by decide +kernel)
theorem w_e116 : wEl 116 ∈ flatC (Jvm.Cond.and given_1 narrow_1) := List.mem_of_getElem? (i := 129) (by decide +kernel)
theorem w_e117 : wEl 117 ∈ flatC (Jvm.Cond.and given_1 narrow_1) := List.mem_of_getElem? (i := 130) (by decide +kernel)
theorem w_e118 : wEl 118 ∈ flatC (Jvm.Cond.and given_1 narrow_1) := List.mem_of_getElem? (i := 131) (by decide +kernel)
theorem w_e119 : wEl 119 ∈ flatC (Jvm.Cond.and given_1 narrow_1) := List.mem_of_getElem? (i := 132) (by decide +kernel)
theorem w_e120 : wEl 120 ∈ flatC (Jvm.Cond.and given_1 narrow_1) := List.mem_of_getElem? (i := 133) (by decide +kernel)
theorem w_e121 : wEl 121 ∈ flatC (Jvm.Cond.and given_1 narrow_1) := List.mem_of_getElem? (i := 134) (by decide +kernel)
theorem w_e122 : wEl 122 ∈ flatC (Jvm.Cond.and given_1 narrow_1) := List.mem_of_getElem? (i := 135) (by decide +kernel)
theorem w_e123 : wEl 123 ∈ flatC (Jvm.Cond.and given_1 narrow_1) := List.mem_of_getElem? (i := 136) (by decide +kernel)
theorem w_e124 : wEl 124 ∈ flatC (Jvm.Cond.and given_1 narrow_1) := List.mem_of_getElem? (i := 137) (by decide +kernel)
theorem w_e125 : wEl 125 ∈ flatC (Jvm.Cond.and given_1 narrow_1) := List.mem_of_getElem? (i := 138) (by decide +kernel)
theorem w_e126 : wEl 126 ∈ flatC (Jvm.Cond.and given_1 narrow_1) := List.mem_of_getElem? (i := 139) (by decide +kernel)
theorem w_e127 : wEl 127 ∈ flatC (Jvm.Cond.and given_1 narrow_1) := List.mem_of_getElem? (i := 140) (by decide +kernel)
theorem w_e128 : wEl 128 ∈ flatC (Jvm.Cond.and given_1 narrow_1) := List.mem_of_getElem? (i := 141) (by decide +kernel)
theorem w_e129 : wEl 129 ∈ flatC (Jvm.Cond.and given_1 narrow_1) := List.mem_of_getElem? (i := 142) (by decide +kernel)
theorem w_e130 : wEl 130 ∈ flatC (Jvm.Cond.and given_1 narrow_1) := List.mem_of_getElem? (i := 143) (by decide +kernel)
theorem w_e131 : wEl 131 ∈ flatC (Jvm.Cond.and given_1 narrow_1) := List.mem_of_getElem? (i := 144) (by decide +kernel)
theorem w_e132 : wEl 132 ∈ flatC (Jvm.Cond.and given_1 narrow_1) := List.mem_of_getElem? (i := 145) (by decide +kernel)
theorem w_e133 : wEl 133 ∈ flatC (Jvm.Cond.and given_1 narrow_1) := List.mem_of_getElem? (i := 146) (by decide +kernel)
theorem w_e134 : wEl 134 ∈ flatC (Jvm.Cond.and given_1 narrow_1) := List.mem_of_getElem? (i := 147) (by decide +kernel)
theorem w_e135 : wEl 135 ∈ flatC (Jvm.Cond.and given_1 narrow_1) := List.mem_of_getElem? (i := 148) (by decide +kernel)
theorem w_e136 : wEl 136 ∈ flatC (Jvm.Cond.and given_1 narrow_1) := List.mem_of_getElem? (i := 149) (by decide +kernel)
theorem w_e137 : wEl 137 ∈ flatC (Jvm.Cond.and given_1 narrow_1) := List.mem_of_getElem? (i := 150) (by decide +kernel)
theorem w_e138 : wEl 138 ∈ flatC (Jvm.Cond.and given_1 narrow_1) := List.mem_of_getElem? (i := 151) (by decide +kernel)
theorem w_e139 : wEl 139 ∈ flatC (Jvm.Cond.and given_1 narrow_1) := List.mem_of_getElem? (i := 152) (by decide +kernel)
theorem w_e140 : wEl 140 ∈ flatC (Jvm.Cond.and given_1 narrow_1) := List.mem_of_getElem? (i := 153) (by decide +kernel)
theorem w_e141 : wEl 141 ∈ flatC (Jvm.Cond.and given_1 narrow_1) := List.mem_of_getElem? (i := 154) (by decide +kernel)
theorem w_e142 : wEl 142 ∈ flatC (Jvm.Cond.and given_1 narrow_1) := List.mem_of_getElem? (i := 155) (by decide +kernel)
theorem w_e143 : wEl 143 ∈ flatC (Jvm.Cond.and given_1 narrow_1) := List.mem_of_getElem? (i := 156) (by decide +kernel)
theorem w_e144 : wEl 144 ∈ flatC (Jvm.Cond.and given_1 narrow_1) := List.mem_of_getElem? (i := 157) (by decide +kernel)
theorem w_e145 : wEl 145 ∈ flatC (Jvm.Cond.and given_1 narrow_1) := List.mem_of_getElem? (i := 158) (by decide +kernel)
theorem w_e146 : wEl 146 ∈ flatC (Jvm.Cond.and given_1 narrow_1) := List.mem_of_getElem? (i := 159) (by decide +kernel)
theorem w_e147 : wEl 147 ∈ flatC (Jvm.Cond.and given_1 narrow_1) := List.mem_of_getElem? (i := 160) (by decide +kernel)
theorem wEl_in : ∀ j : Nat, j < 148 → wEl j ∈ flatC (Jvm.Cond.and given_1 narrow_1) := fun j hj => match j, hj with
  | 0, _ => w_e0
  | 1, _ => w_e1
  | 2, _ => w_e2
  | 3, _ => w_e3
  | 4, _ => w_e4
  | 5, _ => w_e5
  | 6, _ => w_e6
  | 7, _ => w_e7
  | 8, _ => w_e8
  | 9, _ => w_e9
  | 10, _ => w_e10
  | 11, _ => w_e11
  | 12, _ => w_e12
  | 13, _ => w_e13
  | 14, _ => w_e14
  | 15, _ => w_e15
  | 16, _ => w_e16
  | 17, _ => w_e17
  | 18, _ => w_e18
  | 19, _ => w_e19
  | 20, _ => w_e20
  | 21, _ => w_e21
  | 22, _ => w_e22
  | 23, _ => w_e23
  | 24, _ => w_e24
  | 25, _ => w_e25
  | 26, _ => w_e26
  | 27, _ => w_e27
  | 28, _ => w_e28
  | 29, _ => w_e29
  | 30, _ => w_e30
  | 31, _ => w_e31
  | 32, _ => w_e32
  | 33, _ => w_e33
  | 34, _ => w_e34
  | 35, _ => w_e35
  | 36, _ => w_e36
  | 37, _ => w_e37
  | 38, _ => w_e38
  | 39, _ => w_e39
  | 40, _ => w_e40
  | 41, _ => w_e41
  | 42, _ => w_e42
  | 43, _ => w_e43
  | 44, _ => w_e44
  | 45, _ => w_e45
  | 46, _ => w_e46
  | 47, _ => w_e47
  | 48, _ => w_e48
  | 49, _ => w_e49
  | 50, _ => w_e50
  | 51, _ => w_e51
  | 52, _ => w_e52
  | 53, _ => w_e53
  | 54, _ => w_e54
  | 55, _ => w_e55
  | 56, _ => w_e56
  | 57, _ => w_e57
  | 58, _ => w_e58
  | 59, _ => w_e59
  | 60, _ => w_e60
  | 61, _ => w_e61
  | 62, _ => w_e62
  | 63, _ => w_e63
  | 64, _ => w_e64
  | 65, _ => w_e65
  | 66, _ => w_e66
  | 67, _ => w_e67
  | 68, _ => w_e68
  | 69, _ => w_e69
  | 70, _ => w_e70
  | 71, _ => w_e71
  | 72, _ => w_e72
  | 73, _ => w_e73
  | 74, _ => w_e74
  | 75, _ => w_e75
  | 76, _ => w_e76
  | 77, _ => w_e77
  | 78, _ => w_e78
  | 79, _ => w_e79
  | 80, _ => w_e80
  | 81, _ => w_e81
  | 82, _ => w_e82
  | 83, _ => w_e83
  | 84, _ => w_e84
  | 85, _ => w_e85
  | 86, _ => w_e86
  | 87, _ => w_e87
  | 88, _ => w_e88
  | 89, _ => w_e89
  | 90, _ => w_e90
  | 91, _ => w_e91
  | 92, _ => w_e92
  | 93, _ => w_e93
  | 94, _ => w_e94
  | 95, _ => w_e95
  | 96, _ => w_e96
  | 97, _ => w_e97
  | 98, _ => w_e98
  | 99, _ => w_e99
  | 100, _ => w_e100
  | 101, _ => w_e101
  | 102, _ => w_e102
  | 103, _ => w_e103
  | 104, _ => w_e104
  | 105, _ => w_e105
  | 106, _ => w_e106
  | 107, _ => w_e107
  | 108, _ => w_e108
  | 109, _ => w_e109
  | 110, _ => w_e110
  | 111, _ => w_e111
  | 112, _ => w_e112
  | 113, _ => w_e113
  | 114, _ => w_e114
  | 115, _ => w_e115
  | 116, _ => w_e116
  | 117, _ => w_e117
  | 118, _ => w_e118
  | 119, _ => w_e119
  | 120, _ => w_e120
  | 121, _ => w_e121
  | 122, _ => w_e122
  | 123, _ => w_e123
  | 124, _ => w_e124
  | 125, _ => w_e125
  | 126, _ => w_e126
  | 127, _ => w_e127
  | 128, _ => w_e128
  | 129, _ => w_e129
  | 130, _ => w_e130
  | 131, _ => w_e131
  | 132, _ => w_e132
  | 133, _ => w_e133
  | 134, _ => w_e134
  | 135, _ => w_e135
  | 136, _ => w_e136
  | 137, _ => w_e137
  | 138, _ => w_e138
  | 139, _ => w_e139
  | 140, _ => w_e140
  | 141, _ => w_e141
  | 142, _ => w_e142
  | 143, _ => w_e143
  | 144, _ => w_e144
  | 145, _ => w_e145
  | 146, _ => w_e146
  | 147, _ => w_e147
  | j + 148, h => absurd h (by omega)
theorem sR_w : Cond.stringRef RX3 102 wTx ∈ lw_tbl := mt3 (List.mem_of_getElem? (i := 17) rfl)
theorem lS_cs : Cond.laysStatic "java/lang/String" "COMPACT_STRINGS" "Z" ∈ lw_tbl := mt3 (List.mem_of_getElem? (i := 27) rfl)
theorem iS_str : Cond.initialized "java/lang/String" ∈ lw_tbl := mt1 (List.mem_of_getElem? (i := 12) rfl)
theorem lS_fo : Cond.laysStatic "jdk/internal/util/Preconditions" "SIOOBE_FORMATTER" "Ljava/util/function/BiFunction;" ∈ lw_tbl := mt3 (List.mem_of_getElem? (i := 43) rfl)
theorem iS_pre : Cond.initialized "jdk/internal/util/Preconditions" ∈ lw_tbl := mt1 (List.mem_of_getElem? (i := 14) rfl)
