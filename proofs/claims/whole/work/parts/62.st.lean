/-! ===== the start: the heap of the abstract machine, out of what the Statement gives ===== -/
def st_in : Cond → Cond → Bool
  | .and a b, w => st_in a w || st_in b w
  | c, w => decide (c = w)
theorem st_in_ok {args : Array Value} {s : State} {w : Cond} : ∀ (T : Cond), st_in T w = true → T.before args s = true → w.before args s = true := by
  intro T
  induction T with
  | and a b iha ihb =>
    intro h hT
    rw [Cond.before_and, Bool.and_eq_true] at hT
    simp only [st_in, Bool.or_eq_true] at h
    exact h.elim (fun h => iha h hT.1) (fun h => ihb h hT.2)
  | _ => intro h hT; simp only [st_in, decide_eq_true_eq] at h; rw [← h]; exact hT
def st_N : Cond := .and given_1 narrow_1
def st_rw (i : Nat) : String × Nat × String × Nat := tb_S.getD i ("", 0, "", 0)
def st_tm (i : Nat) : Term := .string (st_rw i).1 (st_rw i).2.1
def st_by : List (List Int32) := [[110, 111, 116, 32, 116, 104, 97, 116, 32, 109, 97, 110, 121, 32, 98, 121, 116, 101, 115, 32, 105, 110, 32, 116, 104, 101, 32, 98, 117, 102, 102, 101, 114],
  [97, 108, 98, 117, 109],
  [116, 104, 101, 32, 116, 101, 120, 116, 32, 104, 97, 115, 32, 97, 110, 32, 101, 114, 114, 111, 114],
  [103, 97, 112],
  [110, 97, 109, 101],
  [97, 110, 100],
  [115, 111, 109, 101, 111, 110, 101],
  [108, 101, 102, 116],
  [114, 105, 103, 104, 116],
  [114, 111, 119],
  [97, 108, 108],
  [97, 116],
  [98, 101, 115, 105, 100, 101],
  [98, 101, 116, 119, 101, 101, 110],
  [112, 104, 111, 116, 111],
  [112, 101, 114, 115, 111, 110],
  [110, 111, 32, 97, 108, 98, 117, 109],
  [110, 111, 32, 115, 117, 99, 104, 32, 112, 104, 111, 116, 111],
  [114, 111, 119],
  [114, 105, 103, 104, 116],
  [108, 101, 102, 116],
  [115, 111, 109, 101, 111, 110, 101],
  [97, 110, 100],
  [97, 108, 108],
  [97, 116],
  [98, 101, 115, 105, 100, 101],
  [98, 101, 116, 119, 101, 101, 110],
  [110, 111, 32, 115, 117, 99, 104, 32, 115, 105, 100, 101, 32, 111, 102, 32, 116, 104, 101, 32, 102, 114, 97, 109, 101],
  [110, 111, 32, 115, 117, 99, 104, 32, 112, 101, 114, 115, 111, 110],
  [110, 111, 32, 115, 117, 99, 104, 32, 114, 111, 119],
  [110, 111, 32, 115, 117, 99, 104, 32, 112, 108, 97, 99, 101],
  [110, 111, 32, 115, 117, 99, 104, 32, 114, 97, 110, 107],
  [97, 110, 32, 97, 114, 103, 117, 109, 101, 110, 116, 32, 105, 115, 32, 111, 117, 116, 32, 111, 102, 32, 105, 116, 115, 32, 114, 97, 110, 103, 101],
  [110, 111, 32, 115, 117, 99, 104, 32, 110, 97, 109, 101],
  [110, 111, 116, 32, 97, 32, 115, 101, 116, 32, 111, 102, 32, 112, 101, 111, 112, 108, 101, 32, 105, 110, 32, 116, 104, 101, 32, 112, 105, 99, 116, 117, 114, 101],
  [83, 116, 114, 105, 110, 103, 32, 105, 110, 100, 101, 120, 32, 111, 117, 116, 32, 111, 102, 32, 114, 97, 110, 103, 101, 58, 32],
  [32, 62, 32],
  [102, 114, 111, 109, 73, 110, 100, 101, 120, 40],
  [41, 32, 62, 32, 116, 111, 73, 110, 100, 101, 120, 40],
  [41],
  [65, 114, 114, 97, 121, 32, 105, 110, 100, 101, 120, 32, 111, 117, 116, 32, 111, 102, 32, 114, 97, 110, 103, 101, 58, 32],
  [110, 111, 98, 111, 100, 121],
  [59, 32, 114, 111, 119, 32],
  [114, 111, 119, 32],
  [58, 32],
  [32, 97, 110, 100, 32],
  [],
  [115, 111, 109, 101, 111, 110, 101],
  [32, 111, 116, 104, 101, 114, 115],
  [44, 32],
  [110, 111, 32, 112, 104, 111, 116, 111, 32, 98, 101, 102, 111, 114, 101],
  [97, 115, 32, 98, 101, 102, 111, 114, 101],
  [119, 105, 116, 104, 32],
  [59, 32, 119, 105, 116, 104, 111, 117, 116, 32],
  [119, 105, 116, 104, 111, 117, 116, 32],
  [110, 111, 32, 115, 117, 99, 104, 32, 98, 121, 116, 101],
  [116, 104, 101, 32, 112, 104, 111, 116, 111, 32, 105, 115, 32, 102, 117, 108, 108],
  [116, 104, 101, 32, 115, 97, 109, 101, 32, 112, 104, 111, 116, 111, 32, 116, 119, 105, 99, 101],
  [110, 111, 116, 104, 105, 110, 103, 32, 116, 111, 32, 117, 110, 100, 111],
  [110, 111, 32, 115, 117, 99, 104, 32, 115, 108, 111, 116],
  [110, 111, 116, 104, 105, 110, 103, 32, 105, 115, 32, 115, 97, 118, 101, 100, 32, 116, 104, 101, 114, 101],
  [97, 108, 98, 117, 109],
  [103, 97, 112],
  [110, 97, 109, 101],
  [97, 110, 100],
  [115, 111, 109, 101, 111, 110, 101],
  [108, 101, 102, 116],
  [114, 105, 103, 104, 116],
  [114, 111, 119],
  [97, 108, 108],
  [97, 116],
  [98, 101, 115, 105, 100, 101],
  [98, 101, 116, 119, 101, 101, 110],
  [112, 104, 111, 116, 111],
  [112, 101, 114, 115, 111, 110],
  [110, 111, 98, 111, 100, 121],
  [59, 32],
  [114, 111, 119, 32],
  [58, 32],
  [44, 32],
  [32, 111, 116, 104, 101, 114, 115],
  [32, 97, 110, 100, 32],
  [119, 105, 116, 104, 32],
  [119, 105, 116, 104, 111, 117, 116, 32],
  [97, 115, 32, 98, 101, 102, 111, 114, 101]]
def st_on : List Int32 := [48, 49, 50, 51, 52, 53, 54, 55, 56, 57, 48, 49, 50, 51, 52, 53, 54, 55, 56, 57, 48, 49, 50, 51, 52, 53, 54, 55, 56, 57, 48, 49, 50, 51, 52, 53, 54, 55, 56, 57, 48, 49, 50, 51, 52, 53, 54, 55, 56, 57, 48, 49, 50, 51, 52, 53, 54, 55, 56, 57, 48, 49, 50, 51, 52, 53, 54, 55, 56, 57, 48, 49, 50, 51, 52, 53, 54, 55, 56, 57, 48, 49, 50, 51, 52, 53, 54, 55, 56, 57, 48, 49, 50, 51, 52, 53, 54, 55, 56, 57]
def st_te : List Int32 := [48, 48, 48, 48, 48, 48, 48, 48, 48, 48, 49, 49, 49, 49, 49, 49, 49, 49, 49, 49, 50, 50, 50, 50, 50, 50, 50, 50, 50, 50, 51, 51, 51, 51, 51, 51, 51, 51, 51, 51, 52, 52, 52, 52, 52, 52, 52, 52, 52, 52, 53, 53, 53, 53, 53, 53, 53, 53, 53, 53, 54, 54, 54, 54, 54, 54, 54, 54, 54, 54, 55, 55, 55, 55, 55, 55, 55, 55, 55, 55, 56, 56, 56, 56, 56, 56, 56, 56, 56, 56, 57, 57, 57, 57, 57, 57, 57, 57, 57, 57]
def st_vl (i : Nat) : Term := .field (st_tm i) "java/lang/String" "value" "[B"
def st_ck (i : Nat) : Bool := st_in st_N (.exactly (st_tm i) "java/lang/String") && st_in st_N (.eq (.field (st_tm i) "java/lang/String" "coder" "B") (.int 0)) && st_in st_N (.arrayOf (st_vl i) .byte) && st_in st_N (.eq (.length (st_vl i)) (.int (Int32.ofNat (st_by.getD i []).length))) && (List.range (st_by.getD i []).length).all (fun j => st_in st_N (.eq (.elem (st_vl i) (.int (Int32.ofNat j))) (.int ((st_by.getD i []).getD j 0)))) && decide (Cond.stringRef (st_rw i).1 (st_rw i).2.1 (st_rw i).2.2.1 ∈ tables_1) && decide ((st_rw i).2.2.2 = 300 + i) && (st_by.getD i []).all (fun b => decide (am_nb b = b))
theorem st_c0 : st_ck 0 = true := by decide +kernel
theorem st_c1 : st_ck 1 = true := by decide +kernel
theorem st_c2 : st_ck 2 = true := by decide +kernel
theorem st_c3 : st_ck 3 = true := by decide +kernel
theorem st_c4 : st_ck 4 = true := by decide +kernel
theorem st_c5 : st_ck 5 = true := by decide +kernel
theorem st_c6 : st_ck 6 = true := by decide +kernel
theorem st_c7 : st_ck 7 = true := by decide +kernel
theorem st_c8 : st_ck 8 = true := by decide +kernel
theorem st_c9 : st_ck 9 = true := by decide +kernel
theorem st_c10 : st_ck 10 = true := by decide +kernel
theorem st_c11 : st_ck 11 = true := by decide +kernel
theorem st_c12 : st_ck 12 = true := by decide +kernel
theorem st_c13 : st_ck 13 = true := by decide +kernel
theorem st_c14 : st_ck 14 = true := by decide +kernel
theorem st_c15 : st_ck 15 = true := by decide +kernel
theorem st_c16 : st_ck 16 = true := by decide +kernel
theorem st_c17 : st_ck 17 = true := by decide +kernel
theorem st_c18 : st_ck 18 = true := by decide +kernel
theorem st_c19 : st_ck 19 = true := by decide +kernel
theorem st_c20 : st_ck 20 = true := by decide +kernel
theorem st_c21 : st_ck 21 = true := by decide +kernel
theorem st_c22 : st_ck 22 = true := by decide +kernel
theorem st_c23 : st_ck 23 = true := by decide +kernel
theorem st_c24 : st_ck 24 = true := by decide +kernel
theorem st_c25 : st_ck 25 = true := by decide +kernel
theorem st_c26 : st_ck 26 = true := by decide +kernel
theorem st_c27 : st_ck 27 = true := by decide +kernel
theorem st_c28 : st_ck 28 = true := by decide +kernel
theorem st_c29 : st_ck 29 = true := by decide +kernel
theorem st_c30 : st_ck 30 = true := by decide +kernel
theorem st_c31 : st_ck 31 = true := by decide +kernel
theorem st_c32 : st_ck 32 = true := by decide +kernel
theorem st_c33 : st_ck 33 = true := by decide +kernel
theorem st_c34 : st_ck 34 = true := by decide +kernel
theorem st_c35 : st_ck 35 = true := by decide +kernel
theorem st_c36 : st_ck 36 = true := by decide +kernel
theorem st_c37 : st_ck 37 = true := by decide +kernel
theorem st_c38 : st_ck 38 = true := by decide +kernel
theorem st_c39 : st_ck 39 = true := by decide +kernel
theorem st_c40 : st_ck 40 = true := by decide +kernel
theorem st_c41 : st_ck 41 = true := by decide +kernel
theorem st_c42 : st_ck 42 = true := by decide +kernel
theorem st_c43 : st_ck 43 = true := by decide +kernel
theorem st_c44 : st_ck 44 = true := by decide +kernel
theorem st_c45 : st_ck 45 = true := by decide +kernel
theorem st_c46 : st_ck 46 = true := by decide +kernel
theorem st_c47 : st_ck 47 = true := by decide +kernel
theorem st_c48 : st_ck 48 = true := by decide +kernel
theorem st_c49 : st_ck 49 = true := by decide +kernel
theorem st_c50 : st_ck 50 = true := by decide +kernel
theorem st_c51 : st_ck 51 = true := by decide +kernel
theorem st_c52 : st_ck 52 = true := by decide +kernel
theorem st_c53 : st_ck 53 = true := by decide +kernel
theorem st_c54 : st_ck 54 = true := by decide +kernel
theorem st_c55 : st_ck 55 = true := by decide +kernel
theorem st_c56 : st_ck 56 = true := by decide +kernel
theorem st_c57 : st_ck 57 = true := by decide +kernel
theorem st_c58 : st_ck 58 = true := by decide +kernel
theorem st_c59 : st_ck 59 = true := by decide +kernel
theorem st_c60 : st_ck 60 = true := by decide +kernel
theorem st_c61 : st_ck 61 = true := by decide +kernel
theorem st_c62 : st_ck 62 = true := by decide +kernel
theorem st_c63 : st_ck 63 = true := by decide +kernel
theorem st_c64 : st_ck 64 = true := by decide +kernel
theorem st_c65 : st_ck 65 = true := by decide +kernel
theorem st_c66 : st_ck 66 = true := by decide +kernel
theorem st_c67 : st_ck 67 = true := by decide +kernel
theorem st_c68 : st_ck 68 = true := by decide +kernel
theorem st_c69 : st_ck 69 = true := by decide +kernel
theorem st_c70 : st_ck 70 = true := by decide +kernel
theorem st_c71 : st_ck 71 = true := by decide +kernel
theorem st_c72 : st_ck 72 = true := by decide +kernel
theorem st_c73 : st_ck 73 = true := by decide +kernel
theorem st_c74 : st_ck 74 = true := by decide +kernel
theorem st_c75 : st_ck 75 = true := by decide +kernel
theorem st_c76 : st_ck 76 = true := by decide +kernel
theorem st_c77 : st_ck 77 = true := by decide +kernel
theorem st_c78 : st_ck 78 = true := by decide +kernel
theorem st_c79 : st_ck 79 = true := by decide +kernel
theorem st_c80 : st_ck 80 = true := by decide +kernel
theorem st_c81 : st_ck 81 = true := by decide +kernel
theorem st_c82 : st_ck 82 = true := by decide +kernel
theorem st_c83 : st_ck 83 = true := by decide +kernel
theorem st_c84 : st_ck 84 = true := by decide +kernel
theorem st_cs : ∀ i, i < 85 → st_ck i = true := by
  intro i hi
  have h : i = 0 ∨ i = 1 ∨ i = 2 ∨ i = 3 ∨ i = 4 ∨ i = 5 ∨ i = 6 ∨ i = 7 ∨ i = 8 ∨ i = 9 ∨ i = 10 ∨ i = 11 ∨ i = 12 ∨ i = 13 ∨ i = 14 ∨ i = 15 ∨ i = 16 ∨ i = 17 ∨ i = 18 ∨ i = 19 ∨ i = 20 ∨ i = 21 ∨ i = 22 ∨ i = 23 ∨ i = 24 ∨ i = 25 ∨ i = 26 ∨ i = 27 ∨ i = 28 ∨ i = 29 ∨ i = 30 ∨ i = 31 ∨ i = 32 ∨ i = 33 ∨ i = 34 ∨ i = 35 ∨ i = 36 ∨ i = 37 ∨ i = 38 ∨ i = 39 ∨ i = 40 ∨ i = 41 ∨ i = 42 ∨ i = 43 ∨ i = 44 ∨ i = 45 ∨ i = 46 ∨ i = 47 ∨ i = 48 ∨ i = 49 ∨ i = 50 ∨ i = 51 ∨ i = 52 ∨ i = 53 ∨ i = 54 ∨ i = 55 ∨ i = 56 ∨ i = 57 ∨ i = 58 ∨ i = 59 ∨ i = 60 ∨ i = 61 ∨ i = 62 ∨ i = 63 ∨ i = 64 ∨ i = 65 ∨ i = 66 ∨ i = 67 ∨ i = 68 ∨ i = 69 ∨ i = 70 ∨ i = 71 ∨ i = 72 ∨ i = 73 ∨ i = 74 ∨ i = 75 ∨ i = 76 ∨ i = 77 ∨ i = 78 ∨ i = 79 ∨ i = 80 ∨ i = 81 ∨ i = 82 ∨ i = 83 ∨ i = 84 := by omega
  rcases h with rfl | rfl | rfl | rfl | rfl | rfl | rfl | rfl | rfl | rfl | rfl | rfl | rfl | rfl | rfl | rfl | rfl | rfl | rfl | rfl | rfl | rfl | rfl | rfl | rfl | rfl | rfl | rfl | rfl | rfl | rfl | rfl | rfl | rfl | rfl | rfl | rfl | rfl | rfl | rfl | rfl | rfl | rfl | rfl | rfl | rfl | rfl | rfl | rfl | rfl | rfl | rfl | rfl | rfl | rfl | rfl | rfl | rfl | rfl | rfl | rfl | rfl | rfl | rfl | rfl | rfl | rfl | rfl | rfl | rfl | rfl | rfl | rfl | rfl | rfl | rfl | rfl | rfl | rfl | rfl | rfl | rfl | rfl | rfl | rfl
  · exact st_c0
  · exact st_c1
  · exact st_c2
  · exact st_c3
  · exact st_c4
  · exact st_c5
  · exact st_c6
  · exact st_c7
  · exact st_c8
  · exact st_c9
  · exact st_c10
  · exact st_c11
  · exact st_c12
  · exact st_c13
  · exact st_c14
  · exact st_c15
  · exact st_c16
  · exact st_c17
  · exact st_c18
  · exact st_c19
  · exact st_c20
  · exact st_c21
  · exact st_c22
  · exact st_c23
  · exact st_c24
  · exact st_c25
  · exact st_c26
  · exact st_c27
  · exact st_c28
  · exact st_c29
  · exact st_c30
  · exact st_c31
  · exact st_c32
  · exact st_c33
  · exact st_c34
  · exact st_c35
  · exact st_c36
  · exact st_c37
  · exact st_c38
  · exact st_c39
  · exact st_c40
  · exact st_c41
  · exact st_c42
  · exact st_c43
  · exact st_c44
  · exact st_c45
  · exact st_c46
  · exact st_c47
  · exact st_c48
  · exact st_c49
  · exact st_c50
  · exact st_c51
  · exact st_c52
  · exact st_c53
  · exact st_c54
  · exact st_c55
  · exact st_c56
  · exact st_c57
  · exact st_c58
  · exact st_c59
  · exact st_c60
  · exact st_c61
  · exact st_c62
  · exact st_c63
  · exact st_c64
  · exact st_c65
  · exact st_c66
  · exact st_c67
  · exact st_c68
  · exact st_c69
  · exact st_c70
  · exact st_c71
  · exact st_c72
  · exact st_c73
  · exact st_c74
  · exact st_c75
  · exact st_c76
  · exact st_c77
  · exact st_c78
  · exact st_c79
  · exact st_c80
  · exact st_c81
  · exact st_c82
  · exact st_c83
  · exact st_c84
def st_dg (d : String) : Term := .static "java/lang/Integer" d "[B"
def st_dk (d : String) (l : List Int32) : Bool := st_in st_N (.arrayOf (st_dg d) .byte) && st_in st_N (.eq (.length (st_dg d)) (.int (Int32.ofNat l.length))) && (List.range l.length).all (fun j => st_in st_N (.eq (.elem (st_dg d) (.int (Int32.ofNat j))) (.int (l.getD j 0)))) && decide (Cond.laysStatic "java/lang/Integer" d "[B" ∈ tables_1) && l.all (fun b => decide (am_nb b = b))
theorem st_d0 : st_dk "DigitOnes" st_on = true := by decide +kernel
theorem st_d1 : st_dk "DigitTens" st_te = true := by decide +kernel
def st_nm : List String := ["WORD", "NUMBER", "SEMICOLON", "COMMA", "WRONG", "END"]
def st_kd (i : Nat) : Term := .static "CaptionAlbum$Kind" (st_nm.getD i "") "LCaptionAlbum$Kind;"
theorem st_e0 : ((List.range 6).all fun i => decide (Cond.laysStatic "CaptionAlbum$Kind" (st_nm.getD i "") "LCaptionAlbum$Kind;" ∈ tables_1) && st_in st_N (.exactly (st_kd i) "CaptionAlbum$Kind") && (List.range 6).all (fun j => decide (i = j) || st_in st_N (.not (.eq (st_kd i) (st_kd j))) || st_in st_N (.not (.eq (st_kd j) (st_kd i))))) = true := by decide +kernel
theorem st_e1 : Cond.initialized "CaptionAlbum$Kind" ∈ tables_1 := by decide +kernel
theorem st_e2 : Cond.initialized "java/lang/Integer" ∈ tables_1 := by decide +kernel
theorem st_e3 : Cond.initialized "java/lang/String" ∈ tables_1 := by decide +kernel
theorem st_e4 : Cond.laysStatic "java/lang/String" "COMPACT_STRINGS" "Z" ∈ tables_1 := by decide +kernel
theorem st_e5 : st_in st_N (.eq (.static "java/lang/String" "COMPACT_STRINGS" "Z") (.int 1)) = true := by decide +kernel
theorem st_e6 : Cond.initialized "jdk/internal/util/Preconditions" ∈ tables_1 := by decide +kernel
theorem st_e7 : Cond.laysStatic "jdk/internal/util/Preconditions" "SIOOBE_FORMATTER" "Ljava/util/function/BiFunction;" ∈ tables_1 := by decide +kernel
theorem st_e8 : st_in st_N (.isRef (.static "jdk/internal/util/Preconditions" "SIOOBE_FORMATTER" "Ljava/util/function/BiFunction;")) = true := by decide +kernel
theorem st_e9 : (Cond.laysStatic Bundle.tN "UNASSIGNED_STACK" Bundle.steD ∈ tables_1 ∧ Cond.laysStatic Bundle.tN "SUPPRESSED_SENTINEL" Bundle.listD ∈ tables_1) ∧ Cond.initialized Bundle.tN ∈ tables_1 := by decide +kernel
theorem st_e10 : (st_in st_N (.isRef (.static Bundle.tN "UNASSIGNED_STACK" Bundle.steD)) && st_in st_N (.isRef (.static Bundle.tN "SUPPRESSED_SENTINEL" Bundle.listD))) = true := by decide +kernel
theorem st_e11 : (tb_ns.all fun r => decide (Cond.methodLinkNest r.1 r.2.1 r.2.2.1 r.2.2.2 ∈ tables_1)) = true := by decide +kernel
theorem st_e12 : (tb_ca.all fun r => decide (am_cw r ∈ tables_1)) = true := by decide +kernel
theorem st_e13 : (tb_ao.all fun C => decide (Cond.arrayOver (.object C) ∈ tables_1)) = true := by decide +kernel
theorem st_e14 : (tb_nc.all fun r => st_in st_N (.not (.castable r.1 r.2))) = true := by decide +kernel
theorem st_e15 : ((List.range 5).all fun k => decide (Cond.arrayClass (am_kt k) ∈ tables_1)) = true := by decide +kernel
theorem st_e16 : (tb_cl.all fun q => decide (Cond.instantiable q.1 q.2.2 ∈ tables_1)) = true := by decide +kernel
theorem st_e17 : (tb_xs.all fun y => decide (y.cls = "java/lang/AbstractStringBuilder") && decide (Cond.privateMethod y ∈ tables_1) && decide (Cond.instanceMethod y ∈ tables_1)) = true := by decide +kernel
theorem st_e18 : (Cond.selects "java/lang/StringBuilder" ⟨"java/lang/AbstractStringBuilder", "isLatin1", "()Z"⟩ ⟨"java/lang/AbstractStringBuilder", "isLatin1", "()Z"⟩ ∈ tables_1) ∧ Cond.instantiable "java/lang/StringBuilder" 4 ∈ tables_1 := by decide +kernel

