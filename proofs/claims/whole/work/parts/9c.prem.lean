/-! Where the start's premises stand, by wip/whole/start.py -/
def fA : Cond → List Cond → List Cond
  | .and a b, k => fA a (fA b k)
  | c, k => c :: k
theorem fA_ok (T : Cond) : ∀ k, fA T k = flatC T ++ k := by
  induction T with
  | and a b iha ihb =>
    intro k
    show fA a (fA b k) = (flatC a ++ flatC b) ++ k
    rw [ihb, iha, List.append_assoc]
  | _ =>
    intro k
    rfl
def FA : List Cond := fA (Jvm.Cond.and given_1 narrow_1) []
theorem FA_before {args : Array Value} {s : State} (h : (Jvm.Cond.and given_1 narrow_1).before args s = true) (i : Nat) (c : Cond) (hc : FA[i]? = some c) : c.before args s = true := by
  refine flat_of_before _ h c ?_
  have := List.mem_of_getElem? hc
  rw [FA, fA_ok, List.append_nil] at this
  exact this
theorem tb_before {args : Array Value} {s : State} (h : ∀ w ∈ lw_tbl, w.before args s = true) (i : Nat) (c : Cond) (hc : tables_1[i]? = some c) : c.before args s = true := h c (List.mem_append_right _ (List.mem_of_getElem? hc))
def wE : String := "PileTricks$Word"
def wD : String := "LPileTricks$Word;"
def wN : List String := ["CARDS", "HEAPS", "LIES", "WISH", "DEAL", "NAMED", "SIZE", "TURN", "FRO", "RUN", "UNDER", "OVER", "AT", "OR", "AND", "NOT", "OTHER"]
def wS (i : Nat) : Term := .static wE (wN.getD i "") wD
def wK (i : Nat) : Term := .string wE (([85, 91, 94, 97, 100, 103, 106, 109, 112, 115, 118, 121, 124, 127, 130, 133, 136] : List Nat).getD i 0)
def wF (i : Nat) : Term := .field (wK i) "java/lang/String" "value" "[B"
def wV : List Int32 := [-4, -3, 0, -2, -1, -5, -6, 0, 0, 0, 0, 0, 0, 0, 0, 0, 0]
def wA : Term := .static wE "ALL" "[LPileTricks$Word;"
theorem na_ex : ∀ i, i < 17 → FA[([44, 49, 55, 62, 84, 219, 238, 93, 103, 114, 126, 139, 153, 184, 201, 168, 4] : List Nat).getD i 0]? = some (Cond.exactly (wS i) wE) := by decide +kernel
theorem na_va : ∀ i, i < 17 → FA[([47, 52, 58, 65, 87, 222, 241, 96, 106, 117, 129, 142, 156, 187, 204, 171, 7] : List Nat).getD i 0]? = some (Cond.eq (.field (wS i) wE "value" "I") (.int (wV.getD i 0))) := by decide +kernel
theorem na_sp : ∀ i, i < 17 → FA[([46, 51, 57, 64, 86, 221, 240, 95, 105, 116, 128, 141, 155, 186, 203, 170, 6] : List Nat).getD i 0]? = some (Cond.eq (.field (wS i) wE "spelled" "Ljava/lang/String;") (wK i)) := by decide +kernel
def neT : List (List Nat) := [[0, 54, 60, 67, 89, 224, 243, 98, 108, 119, 131, 144, 158, 189, 206, 173, 0], [0, 0, 61, 68, 90, 225, 244, 99, 109, 120, 132, 145, 159, 190, 207, 174, 0], [0, 0, 0, 69, 91, 226, 245, 100, 110, 121, 133, 146, 160, 191, 208, 175, 0], [0, 0, 0, 0, 92, 227, 246, 101, 111, 122, 134, 147, 161, 192, 209, 176, 0], [0, 0, 0, 0, 0, 228, 247, 102, 112, 123, 135, 148, 162, 193, 210, 177, 0], [0, 0, 0, 0, 0, 0, 257, 0, 0, 0, 0, 0, 0, 0, 0, 0, 0], [0, 0, 0, 0, 0, 0, 0, 0, 0, 0, 0, 0, 0, 0, 0, 0, 0], [0, 0, 0, 0, 0, 229, 248, 0, 113, 124, 136, 149, 163, 194, 211, 178, 0], [0, 0, 0, 0, 0, 230, 249, 0, 0, 125, 137, 150, 164, 195, 212, 179, 0], [0, 0, 0, 0, 0, 231, 250, 0, 0, 0, 138, 151, 165, 196, 213, 180, 0], [0, 0, 0, 0, 0, 232, 251, 0, 0, 0, 0, 152, 166, 197, 214, 181, 0], [0, 0, 0, 0, 0, 233, 252, 0, 0, 0, 0, 0, 167, 198, 215, 182, 0], [0, 0, 0, 0, 0, 234, 253, 0, 0, 0, 0, 0, 0, 199, 216, 183, 0], [0, 0, 0, 0, 0, 236, 255, 0, 0, 0, 0, 0, 0, 0, 218, 0, 0], [0, 0, 0, 0, 0, 237, 256, 0, 0, 0, 0, 0, 0, 0, 0, 0, 0], [0, 0, 0, 0, 0, 235, 254, 0, 0, 0, 0, 0, 0, 200, 217, 0, 0], [48, 53, 59, 66, 88, 223, 242, 97, 107, 118, 130, 143, 157, 188, 205, 172, 0]]
theorem na_ne : ∀ i, i < 17 → ∀ j, j < 17 → i = j ∨ FA[(neT.getD i []).getD j 0]? = some (Cond.not (.eq (wS i) (wS j))) ∨ FA[(neT.getD j []).getD i 0]? = some (Cond.not (.eq (wS j) (wS i))) := by decide +kernel
theorem na_kx : ∀ i, i < 17 → FA[([286, 296, 307, 318, 330, 498, 522, 343, 357, 371, 386, 404, 422, 458, 477, 439, 282] : List Nat).getD i 0]? = some (Cond.exactly (wK i) "java/lang/String") := by decide +kernel
theorem na_kc : ∀ i, i < 17 → FA[([287, 297, 308, 319, 331, 499, 523, 344, 358, 372, 387, 405, 423, 459, 478, 440, 283] : List Nat).getD i 0]? = some (Cond.eq (.field (wK i) "java/lang/String" "coder" "B") (.int 0)) := by decide +kernel
theorem na_ka : ∀ i, i < 17 → FA[([288, 298, 309, 320, 332, 500, 524, 345, 359, 373, 388, 406, 424, 460, 479, 441, 284] : List Nat).getD i 0]? = some (Cond.arrayOf (wF i) .byte) := by decide +kernel
theorem na_kl : ∀ i, i < 17 → FA[([289, 299, 310, 321, 333, 501, 525, 346, 360, 374, 389, 407, 425, 461, 480, 442, 285] : List Nat).getD i 0]? = some (Cond.eq (.length (wF i)) (.int (Int32.ofNat (wtx i).length))) := by decide +kernel
theorem na_ke : ∀ i, i < 17 → ∀ j, j < (wtx i).length → FA[([290, 300, 311, 322, 334, 502, 526, 347, 361, 375, 390, 408, 426, 462, 481, 443, 0] : List Nat).getD i 0 + j]? = some (Cond.eq (.elem (wF i) (.int (Int32.ofNat j))) (.int (nI ((wtx i).getD j 0)))) := by decide +kernel
theorem na_aa : FA[19]? = some (Cond.arrayOf wA (.object wE)) := by decide +kernel
theorem na_al : FA[20]? = some (Cond.eq (.length wA) (.int (Int32.ofNat 17))) := by decide +kernel
theorem na_ae : ∀ i, i < 17 → FA[([22, 23, 24, 25, 26, 27, 28, 29, 30, 31, 32, 33, 34, 35, 36, 37, 38] : List Nat).getD i 0]? = some (Cond.eq (.elem wA (.int (Int32.ofNat i))) (wS i)) := by decide +kernel
def tS (i : Nat) : Term := .static "PileTricks" ((["LEAST_TOLD", "MOST_TOLD", "TOLD_WITHOUT"] : List String).getD i "") "[I"
def tV : List (List Int32) := [[2, 2, 0, 0], [60, 6, 2, 59], [27, 3, 0, 0]]
theorem na_ta : ∀ i, i < 3 → FA[([71, 78, 9] : List Nat).getD i 0]? = some (Cond.arrayOf (tS i) .int) := by decide +kernel
theorem na_tl : ∀ i, i < 3 → FA[([72, 79, 10] : List Nat).getD i 0]? = some (Cond.eq (.length (tS i)) (.int (Int32.ofNat 4))) := by decide +kernel
def tP : List (List Nat) := [[73, 74, 75, 76], [80, 81, 82, 83], [11, 12, 13, 14]]
theorem na_te : ∀ i, i < 3 → ∀ j, j < 4 → FA[(tP.getD i []).getD j 0]? = some (Cond.eq (.elem (tS i) (.int (Int32.ofNat j))) (.int ((tV.getD i []).getD j 0))) := by decide +kernel
theorem na_fo : FA[40]? = some (Cond.isRef (.static "jdk/internal/util/Preconditions" "SIOOBE_FORMATTER" "Ljava/util/function/BiFunction;")) := by decide +kernel
theorem na_co : FA[39]? = some (Cond.eq (.static "java/lang/String" "COMPACT_STRINGS" "Z") (.int 1)) := by decide +kernel
theorem na_us : FA[15]? = some (Cond.isRef (.static Bundle.tN "UNASSIGNED_STACK" Bundle.steD)) := by decide +kernel
theorem na_ss : FA[16]? = some (Cond.isRef (.static Bundle.tN "SUPPRESSED_SENTINEL" Bundle.listD)) := by decide +kernel
theorem na_nc : FA[281]? = some (Cond.not (.castable "java/lang/IllegalArgumentException" "java/util/NoSuchElementException")) := by decide +kernel
theorem nt_ls : ∀ i, i < 17 → tables_1[([775, 777, 779, 781, 803, 1657, 1658, 812, 814, 816, 821, 823, 825, 896, 898, 851, 41] : List Nat).getD i 0]? = some (Cond.laysStatic wE (wN.getD i "") wD) := by decide +kernel
theorem nt_la : tables_1[711]? = some (Cond.laysStatic wE "ALL" "[LPileTricks$Word;") := by decide +kernel
theorem nt_lt : ∀ i, i < 3 → tables_1[([792, 795, 144] : List Nat).getD i 0]? = some (Cond.laysStatic "PileTricks" ((["LEAST_TOLD", "MOST_TOLD", "TOLD_WITHOUT"] : List String).getD i "") "[I") := by decide +kernel
theorem nt_lf : tables_1[741]? = some (Cond.laysStatic "jdk/internal/util/Preconditions" "SIOOBE_FORMATTER" "Ljava/util/function/BiFunction;") := by decide +kernel
theorem nt_lc : tables_1[725]? = some (Cond.laysStatic "java/lang/String" "COMPACT_STRINGS" "Z") := by decide +kernel
theorem nt_lu : tables_1[648]? = some (Cond.laysStatic Bundle.tN "UNASSIGNED_STACK" Bundle.steD) := by decide +kernel
theorem nt_lx : tables_1[650]? = some (Cond.laysStatic Bundle.tN "SUPPRESSED_SENTINEL" Bundle.listD) := by decide +kernel
theorem nt_iw : tables_1[4]? = some (Cond.initialized "PileTricks$Word") := by decide +kernel
theorem nt_ip : tables_1[1]? = some (Cond.initialized "PileTricks") := by decide +kernel
theorem nt_if : tables_1[22]? = some (Cond.initialized "jdk/internal/util/Preconditions") := by decide +kernel
theorem nt_is : tables_1[20]? = some (Cond.initialized "java/lang/String") := by decide +kernel
theorem nt_it : tables_1[16]? = some (Cond.initialized "java/lang/Throwable") := by decide +kernel
theorem nt_aint : tables_1[80]? = some (Cond.arrayClass .int) := by decide +kernel
theorem nt_abyte : tables_1[81]? = some (Cond.arrayClass .byte) := by decide +kernel
theorem nt_aboolean : tables_1[138]? = some (Cond.arrayClass .boolean) := by decide +kernel
theorem nt_along : tables_1[1635]? = some (Cond.arrayClass .long) := by decide +kernel
