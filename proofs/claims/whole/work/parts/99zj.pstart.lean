/-! the start: what the premises say, by their places -/
/-- the parts of a conjunction, quickly -/
def flD : Cond → List Cond → List Cond
  | .and a b, acc => flD a (flD b acc)
  | c, acc => c :: acc
theorem flD_of {args : Array Value} {s : State} (T : Cond) : T.before args s = true → ∀ acc : List Cond, (∀ c ∈ acc, c.before args s = true) → ∀ c ∈ flD T acc, c.before args s = true := by
  induction T with
  | and a b iha ihb =>
    intro h acc ha c hc
    rw [Cond.before_and, Bool.and_eq_true] at h
    simp only [flD] at hc
    exact iha h.1 _ (ihb h.2 acc ha) c hc
  | _ =>
    intro h acc ha c hc
    simp only [flD, List.mem_cons] at hc
    rcases hc with hc | hc
    · rw [hc]; exact h
    · exact ha c hc
def nwL : List Cond := flD narrow_1 []
theorem nw_at {args : Array Value} {s : State} (h : (Cond.and given_1 narrow_1).before args s = true) {i : Nat} {w : Cond} (e : nwL[i]? = some w) : w.before args s = true := by
  rw [Cond.before_and, Bool.and_eq_true] at h
  exact flD_of narrow_1 h.2 [] (fun c hc => by cases hc) w (List.mem_of_getElem? e)
def nmS : List String := ["LOC", "BLK", "JMP", "JSR", "ISZ", "DSZ", "LDA", "STA", "COM", "NEG", "MOV", "INC", "ADC", "SUB", "ADD", "AND", "INTEN", "INTDS", "HALT", "IORST", "READS", "INTA", "MSKO", "NIO", "DIA", "DOA", "DIB", "DOB", "DIC", "DOC", "SKPBN", "SKPBZ", "SKPDN", "SKPDZ", "WORD"]
def nmG : List String := ["TTI", "TTO", "RTC", "MACHINE", "SKP", "SZC", "SNC", "SZR", "SNR", "SEZ", "SBN"]
def bxS (i : Nat) : Nat := ([127, 135, 143, 151, 159, 167, 175, 183, 191, 199, 207, 215, 222, 229, 236, 243, 250, 257, 264, 271, 278, 285, 292, 299, 306, 313, 320, 327, 334, 341, 348, 355, 362, 369, 63] : List Nat).getD i 0
def bxG (i : Nat) : Nat := ([72, 77, 82, 87, 92, 97, 102, 107, 112, 117, 122] : List Nat).getD i 0
def bxK (i : Nat) : Nat := ([402, 412, 419, 426, 449, 466, 473, 480, 487, 494, 501, 508, 515, 522, 529, 536, 543, 551, 559, 566, 573, 580, 587, 594, 601, 608, 615, 622, 629, 636, 643, 650, 657, 666, 675, 683, 692, 701, 709, 717, 724, 731, 738, 745, 752, 759, 766, 775, 784, 793] : List Nat).getD i 0
def lkS (i : Nat) : Nat := ([176, 182, 184, 186, 187, 188, 189, 191, 192, 195, 197, 199, 201, 203, 205, 207, 208, 210, 211, 212, 213, 215, 216, 217, 219, 221, 222, 223, 224, 225, 226, 228, 229, 230, 232] : List Nat).getD i 0
def lkG (i : Nat) : Nat := ([79, 83, 84, 86, 88, 89, 90, 91, 92, 93, 94] : List Nat).getD i 0
def moK (i : Nat) : String := (["NovaDesk$Items", "NovaDesk$Statement", "NovaDesk$Statement", "NovaDesk$Statement", "NovaDesk$Given", "NovaDesk$Given", "NovaDesk$Given", "NovaDesk$Given", "NovaDesk$Given", "NovaDesk$Given", "NovaDesk$Given", "NovaDesk$Given", "NovaDesk$Given", "NovaDesk$Given", "NovaDesk$Given", "NovaDesk$Given", "NovaDesk$Statement", "NovaDesk$Statement", "NovaDesk$Statement", "NovaDesk$Statement", "NovaDesk$Statement", "NovaDesk$Statement", "NovaDesk$Statement", "NovaDesk$Statement", "NovaDesk$Statement", "NovaDesk$Statement", "NovaDesk$Statement", "NovaDesk$Statement", "NovaDesk$Statement", "NovaDesk$Statement", "NovaDesk$Statement", "NovaDesk$Statement", "NovaDesk$Statement", "NovaDesk$Statement", "NovaDesk$Statement", "NovaDesk$Statement", "NovaDesk$Statement", "NovaDesk$Statement", "NovaDesk$Statement", "NovaDesk$Statement", "NovaDesk$Statement", "NovaDesk$Statement", "NovaDesk$Statement", "NovaDesk$Statement", "NovaDesk$Statement", "NovaDesk$Statement", "NovaDesk$Statement", "NovaDesk$Statement", "NovaDesk$Statement", "NovaDesk$Statement"] : List String).getD i ""
def mkK (i : Nat) : Nat := ([56, 159, 167, 169, 77, 79, 83, 84, 86, 88, 89, 90, 91, 92, 93, 94, 176, 182, 184, 186, 187, 188, 189, 191, 192, 195, 197, 199, 201, 203, 205, 207, 208, 210, 211, 212, 213, 215, 216, 217, 219, 221, 222, 223, 224, 225, 226, 228, 229, 230] : List Nat).getD i 0
abbrev tmS (i : Nat) : Term := .static "NovaDesk$Statement" (nmS.getD i "") "LNovaDesk$Statement;"
abbrev tmG (i : Nat) : Term := .static "NovaDesk$Given" (nmG.getD i "") "LNovaDesk$Given;"
abbrev tmK (i : Nat) : Term := .string (moK i) (mkK i)
abbrev tvK (i : Nat) : Term := .field (tmK i) "java/lang/String" "value" "[B"
set_option maxRecDepth 100000 in
set_option maxHeartbeats 4000000 in
theorem a_Sx : ∀ i, i < 35 → nwL[bxS i]? = some (.exactly (tmS i) "NovaDesk$Statement") := by decide +kernel
set_option maxRecDepth 100000 in
set_option maxHeartbeats 4000000 in
theorem a_So : ∀ i, i < 35 → nwL[bxS i + 1]? = some (.eq (.field (tmS i) "java/lang/Enum" "ordinal" "I") (.int (Int32.ofNat i))) := by decide +kernel
set_option maxRecDepth 100000 in
set_option maxHeartbeats 4000000 in
theorem a_Sl : ∀ i, i < 35 → nwL[bxS i + 2]? = some (.eq (.field (tmS i) "NovaDesk$Statement" "letters" "Ljava/lang/String;") (.string "NovaDesk$Statement" (lkS i))) := by decide +kernel
set_option maxRecDepth 100000 in
set_option maxHeartbeats 4000000 in
theorem a_Sform : ∀ i, i < 35 → nwL[bxS i + 3]? = some (.eq (.field (tmS i) "NovaDesk$Statement" "form" "I") (.int (eS_form i))) := by decide +kernel
set_option maxRecDepth 100000 in
set_option maxHeartbeats 4000000 in
theorem a_Sbits : ∀ i, i < 35 → nwL[bxS i + 4]? = some (.eq (.field (tmS i) "NovaDesk$Statement" "bits" "I") (.int (eS_bits i))) := by decide +kernel
set_option maxRecDepth 100000 in
set_option maxHeartbeats 4000000 in
theorem a_Sfixed : ∀ i, i < 35 → nwL[bxS i + 5]? = some (.eq (.field (tmS i) "NovaDesk$Statement" "fixed" "I") (.int (eS_fixed i))) := by decide +kernel
set_option maxRecDepth 100000 in
set_option maxHeartbeats 4000000 in
theorem a_Skey : ∀ i, i < 35 → nwL[bxS i + 6]? = some (.eq (.field (tmS i) "NovaDesk$Statement" "key" "J") (.long (eS_key i))) := by decide +kernel
set_option maxRecDepth 100000 in
set_option maxHeartbeats 4000000 in
theorem a_Gx : ∀ i, i < 11 → nwL[bxG i]? = some (.exactly (tmG i) "NovaDesk$Given") := by decide +kernel
set_option maxRecDepth 100000 in
set_option maxHeartbeats 4000000 in
theorem a_Go : ∀ i, i < 11 → nwL[bxG i + 1]? = some (.eq (.field (tmG i) "java/lang/Enum" "ordinal" "I") (.int (Int32.ofNat i))) := by decide +kernel
set_option maxRecDepth 100000 in
set_option maxHeartbeats 4000000 in
theorem a_Gl : ∀ i, i < 11 → nwL[bxG i + 2]? = some (.eq (.field (tmG i) "NovaDesk$Given" "letters" "Ljava/lang/String;") (.string "NovaDesk$Given" (lkG i))) := by decide +kernel
set_option maxRecDepth 100000 in
set_option maxHeartbeats 4000000 in
theorem a_Gnumber : ∀ i, i < 11 → nwL[bxG i + 3]? = some (.eq (.field (tmG i) "NovaDesk$Given" "number" "I") (.int (eG_number i))) := by decide +kernel
set_option maxRecDepth 100000 in
set_option maxHeartbeats 4000000 in
theorem a_Gkey : ∀ i, i < 11 → nwL[bxG i + 4]? = some (.eq (.field (tmG i) "NovaDesk$Given" "key" "J") (.long (eG_key i))) := by decide +kernel
set_option maxRecDepth 100000 in
set_option maxHeartbeats 4000000 in
theorem a_Se : ∀ i, i < 35 → nwL[28 + i]? = some (.eq (.elem (.static "NovaDesk$Statement" "ALL" "[LNovaDesk$Statement;") (.int (Int32.ofNat i))) (tmS i)) := by decide +kernel
set_option maxRecDepth 100000 in
set_option maxHeartbeats 4000000 in
theorem a_Ge : ∀ i, i < 11 → nwL[12 + i]? = some (.eq (.elem (.static "NovaDesk$Given" "ALL" "[LNovaDesk$Given;") (.int (Int32.ofNat i))) (tmG i)) := by decide +kernel
set_option maxRecDepth 100000 in
set_option maxHeartbeats 4000000 in
theorem a_Kx : ∀ i, i < 50 → nwL[bxK i]? = some (.exactly (tmK i) "java/lang/String") := by decide +kernel
set_option maxRecDepth 100000 in
set_option maxHeartbeats 4000000 in
theorem a_Kc : ∀ i, i < 50 → nwL[bxK i + 1]? = some (.eq (.field (tmK i) "java/lang/String" "coder" "B") (.int 0)) := by decide +kernel
set_option maxRecDepth 100000 in
set_option maxHeartbeats 4000000 in
theorem a_Ka : ∀ i, i < 50 → nwL[bxK i + 2]? = some (.arrayOf (tvK i) .byte) := by decide +kernel
set_option maxRecDepth 100000 in
set_option maxHeartbeats 4000000 in
theorem a_Kl : ∀ i, i < 50 → nwL[bxK i + 3]? = some (.eq (.length (tvK i)) (.int (Int32.ofNat (kS_len i)))) := by decide +kernel
set_option maxRecDepth 100000 in
set_option maxHeartbeats 4000000 in
theorem a_Ke : ∀ i, i < 50 → ∀ j, j < kS_len i → nwL[bxK i + 4 + j]? = some (.eq (.elem (tvK i) (.int (Int32.ofNat j))) (.int (kS_byt i j))) := by decide +kernel
set_option maxRecDepth 100000 in
set_option maxHeartbeats 4000000 in
theorem a_SA1 : nwL[25]? = some (.arrayOf (.static "NovaDesk$Statement" "ALL" "[LNovaDesk$Statement;") (.object "NovaDesk$Statement")) := by decide +kernel
set_option maxRecDepth 100000 in
set_option maxHeartbeats 4000000 in
theorem a_SA2 : nwL[26]? = some (.eq (.length (.static "NovaDesk$Statement" "ALL" "[LNovaDesk$Statement;")) (.int (Int32.ofNat 35))) := by decide +kernel
set_option maxRecDepth 100000 in
set_option maxHeartbeats 4000000 in
theorem a_GA1 : nwL[9]? = some (.arrayOf (.static "NovaDesk$Given" "ALL" "[LNovaDesk$Given;") (.object "NovaDesk$Given")) := by decide +kernel
set_option maxRecDepth 100000 in
set_option maxHeartbeats 4000000 in
theorem a_GA2 : nwL[10]? = some (.eq (.length (.static "NovaDesk$Given" "ALL" "[LNovaDesk$Given;")) (.int (Int32.ofNat 11))) := by decide +kernel
set_option maxRecDepth 100000 in
set_option maxHeartbeats 4000000 in
theorem a_KC : nwL[2]? = some (.eq (.static "java/lang/String" "COMPACT_STRINGS" "Z") (.int 1)) := by decide +kernel
set_option maxRecDepth 100000 in
set_option maxHeartbeats 4000000 in
theorem a_PF : nwL[3]? = some (.isRef (.static "jdk/internal/util/Preconditions" "SIOOBE_FORMATTER" "Ljava/util/function/BiFunction;")) := by decide +kernel
set_option maxRecDepth 100000 in
set_option maxHeartbeats 4000000 in
theorem a_T0 : nwL[70]? = some (.isRef (.static "java/lang/Throwable" "UNASSIGNED_STACK" "[Ljava/lang/StackTraceElement;")) := by decide +kernel
set_option maxRecDepth 100000 in
set_option maxHeartbeats 4000000 in
theorem a_T1 : nwL[71]? = some (.isRef (.static "java/lang/Throwable" "SUPPRESSED_SENTINEL" "Ljava/util/List;")) := by decide +kernel
set_option maxRecDepth 100000 in
set_option maxHeartbeats 4000000 in
theorem a_XN : nwL[386]? = some (.not (.castable "java/lang/IllegalStateException" "java/lang/IllegalArgumentException")) := by decide +kernel
set_option maxRecDepth 100000 in
set_option maxHeartbeats 4000000 in
theorem a_D0 : nwL[440]? = some (.eq (.string "NovaDesk$Statement" 159) (.string "NovaDesk$Teller" 55)) := by decide +kernel
set_option maxRecDepth 100000 in
set_option maxHeartbeats 4000000 in
theorem a_D1 : nwL[448]? = some (.eq (.string "NovaDesk$Statement" 167) (.string "NovaDesk$Teller" 61)) := by decide +kernel
set_option maxRecDepth 100000 in
set_option maxHeartbeats 4000000 in
theorem a_D2 : nwL[460]? = some (.eq (.string "NovaDesk$Statement" 169) (.string "NovaDesk$Teller" 69)) := by decide +kernel
set_option maxRecDepth 100000 in
set_option maxHeartbeats 4000000 in
theorem a_D3 : nwL[465]? = some (.eq (.string "NovaDesk$Given" 77) (.string "NovaDesk$Statement" 232)) := by decide +kernel
set_option maxRecDepth 100000 in
set_option maxHeartbeats 4000000 in
theorem kS_main : ∀ q ∈ kS_refs, (q.1 = moK q.2.2.2 ∧ q.2.1 = mkK q.2.2.2 ∧ q.2.2.2 < 50) ∨ q = ("NovaDesk$Teller", 55, "ZOC", 1) ∨ q = ("NovaDesk$Teller", 61, "LRS", 2) ∨ q = ("NovaDesk$Teller", 69, "SCP", 3) ∨ q = ("NovaDesk$Statement", 232, "", 4) := by decide +kernel
theorem mo_dup : moK 1 = "NovaDesk$Statement" ∧ mkK 1 = 159 ∧ moK 2 = "NovaDesk$Statement" ∧ mkK 2 = 167 ∧ moK 3 = "NovaDesk$Statement" ∧ mkK 3 = 169 ∧ moK 4 = "NovaDesk$Given" ∧ mkK 4 = 77 := by decide +kernel
def rxS (i : Nat) : Nat := ([20, 21, 22, 23, 24, 25, 26, 27, 28, 29, 30, 31, 32, 33, 34, 35, 36, 37, 38, 39, 40, 41, 42, 43, 44, 45, 46, 47, 48, 49, 50, 51, 52, 53, 8] : List Nat).getD i 0
def rxG (i : Nat) : Nat := ([9, 10, 11, 12, 13, 14, 15, 16, 17, 18, 19] : List Nat).getD i 0
set_option maxRecDepth 100000 in
set_option maxHeartbeats 4000000 in
theorem kS_S : ∀ i, i < 35 → (kS_refs[rxS i]?.map (fun q => (q.1, q.2.1, q.2.2.2))) = some ("NovaDesk$Statement", lkS i, eS_letters i) := by decide +kernel
set_option maxRecDepth 100000 in
set_option maxHeartbeats 4000000 in
theorem kS_G : ∀ i, i < 11 → (kS_refs[rxG i]?.map (fun q => (q.1, q.2.1, q.2.2.2))) = some ("NovaDesk$Given", lkG i, eG_letters i) := by decide +kernel
def sxR (i : Nat) : Nat := ([397, 537, 539, 540, 1045, 1050, 1054, 1059, 1608, 1609, 1610, 1611, 1612, 1613, 1614, 1615, 1616, 1617, 1618, 1619, 1620, 1621, 1622, 1623, 1624, 1625, 1626, 1627, 1628, 1629, 1630, 1631, 1632, 1633, 1634, 1635, 1636, 1637, 1638, 1639, 1640, 1641, 1642, 1643, 1644, 1645, 1646, 1647, 1648, 1649, 1650, 1651, 1652, 1653] : List Nat).getD i 0
set_option maxRecDepth 100000 in
set_option maxHeartbeats 4000000 in
theorem kS_w : ∀ i, i < 54 → (kS_refs[i]?.map (fun q => Cond.stringRef q.1 q.2.1 q.2.2.1)) = tables_1[sxR i]? ∧ kS_refs[i]? ≠ none := by decide +kernel
