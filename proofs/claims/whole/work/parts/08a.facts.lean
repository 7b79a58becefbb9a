/-! ===== printed by program (gen5.py): the good memory ===== -/
def RCl (r : Nat) : List Nat := bif Nat.blt r 198 then (bif Nat.blt r 99 then (bif Nat.blt r 49 then (bif Nat.blt r 24 then (bif Nat.blt r 12 then (bif Nat.blt r 6 then (bif Nat.blt r 3 then (bif Nat.blt r 1 then [] else (bif Nat.blt r 2 then [2, 3, 5, 98, 126, 138, 148, 151, 153, 154] else [155, 157, 159, 161, 163, 165, 167, 169])) else (bif Nat.blt r 4 then [4] else (bif Nat.blt r 5 then [] else [0, 0, 0, 0, 6, 7, 8, 9]))) else (bif Nat.blt r 9 then (bif Nat.blt r 7 then [] else (bif Nat.blt r 8 then [] else [10, 12, 14, 16, 18, 20, 22, 24])) else (bif Nat.blt r 10 then [26, 29, 32, 35, 38, 41, 44, 47, 50, 53, 56, 59, 62, 65, 68, 71, 74, 77, 80, 83, 86, 89, 92, 95] else (bif Nat.blt r 11 then [11] else [])))) else (bif Nat.blt r 18 then (bif Nat.blt r 15 then (bif Nat.blt r 13 then [13] else (bif Nat.blt r 14 then [] else [15])) else (bif Nat.blt r 16 then [] else (bif Nat.blt r 17 then [17] else []))) else (bif Nat.blt r 21 then (bif Nat.blt r 19 then [19] else (bif Nat.blt r 20 then [] else [21])) else (bif Nat.blt r 22 then [] else (bif Nat.blt r 23 then [23] else []))))) else (bif Nat.blt r 36 then (bif Nat.blt r 30 then (bif Nat.blt r 27 then (bif Nat.blt r 25 then [25] else (bif Nat.blt r 26 then [] else [0, 0, 0, 0, 0, 0, 0, 0, 27])) else (bif Nat.blt r 28 then [28] else (bif Nat.blt r 29 then [] else [0, 0, 0, 0, 0, 0, 0, 0, 30]))) else (bif Nat.blt r 33 then (bif Nat.blt r 31 then [31] else (bif Nat.blt r 32 then [] else [0, 0, 0, 0, 0, 0, 0, 0, 33])) else (bif Nat.blt r 34 then [34] else (bif Nat.blt r 35 then [] else [0, 0, 0, 0, 0, 0, 0, 0, 36])))) else (bif Nat.blt r 42 then (bif Nat.blt r 39 then (bif Nat.blt r 37 then [37] else (bif Nat.blt r 38 then [] else [0, 0, 0, 0, 0, 0, 0, 0, 39])) else (bif Nat.blt r 40 then [40] else (bif Nat.blt r 41 then [] else [0, 0, 0, 0, 0, 0, 0, 0, 42]))) else (bif Nat.blt r 45 then (bif Nat.blt r 43 then [43] else (bif Nat.blt r 44 then [] else [0, 0, 0, 0, 0, 0, 0, 0, 45])) else (bif Nat.blt r 47 then (bif Nat.blt r 46 then [46] else []) else (bif Nat.blt r 48 then [0, 0, 0, 0, 0, 0, 0, 0, 48] else [49])))))) else (bif Nat.blt r 74 then (bif Nat.blt r 61 then (bif Nat.blt r 55 then (bif Nat.blt r 52 then (bif Nat.blt r 50 then [] else (bif Nat.blt r 51 then [0, 0, 0, 0, 0, 0, 0, 0, 51] else [52])) else (bif Nat.blt r 53 then [] else (bif Nat.blt r 54 then [0, 0, 0, 0, 0, 0, 0, 0, 54] else [55]))) else (bif Nat.blt r 58 then (bif Nat.blt r 56 then [] else (bif Nat.blt r 57 then [0, 0, 0, 0, 0, 0, 0, 0, 57] else [58])) else (bif Nat.blt r 59 then [] else (bif Nat.blt r 60 then [0, 0, 0, 0, 0, 0, 0, 0, 60] else [61])))) else (bif Nat.blt r 67 then (bif Nat.blt r 64 then (bif Nat.blt r 62 then [] else (bif Nat.blt r 63 then [0, 0, 0, 0, 0, 0, 0, 0, 63] else [64])) else (bif Nat.blt r 65 then [] else (bif Nat.blt r 66 then [0, 0, 0, 0, 0, 0, 0, 0, 66] else [67]))) else (bif Nat.blt r 70 then (bif Nat.blt r 68 then [] else (bif Nat.blt r 69 then [0, 0, 0, 0, 0, 0, 0, 0, 69] else [70])) else (bif Nat.blt r 72 then (bif Nat.blt r 71 then [] else [0, 0, 0, 0, 0, 0, 0, 0, 72]) else (bif Nat.blt r 73 then [73] else []))))) else (bif Nat.blt r 86 then (bif Nat.blt r 80 then (bif Nat.blt r 77 then (bif Nat.blt r 75 then [0, 0, 0, 0, 0, 0, 0, 0, 75] else (bif Nat.blt r 76 then [76] else [])) else (bif Nat.blt r 78 then [0, 0, 0, 0, 0, 0, 0, 0, 78] else (bif Nat.blt r 79 then [79] else []))) else (bif Nat.blt r 83 then (bif Nat.blt r 81 then [0, 0, 0, 0, 0, 0, 0, 0, 81] else (bif Nat.blt r 82 then [82] else [])) else (bif Nat.blt r 84 then [0, 0, 0, 0, 0, 0, 0, 0, 84] else (bif Nat.blt r 85 then [85] else [])))) else (bif Nat.blt r 92 then (bif Nat.blt r 89 then (bif Nat.blt r 87 then [0, 0, 0, 0, 0, 0, 0, 0, 87] else (bif Nat.blt r 88 then [88] else [])) else (bif Nat.blt r 90 then [0, 0, 0, 0, 0, 0, 0, 0, 90] else (bif Nat.blt r 91 then [91] else []))) else (bif Nat.blt r 95 then (bif Nat.blt r 93 then [0, 0, 0, 0, 0, 0, 0, 0, 93] else (bif Nat.blt r 94 then [94] else [])) else (bif Nat.blt r 97 then (bif Nat.blt r 96 then [0, 0, 0, 0, 0, 0, 0, 0, 96] else [97]) else (bif Nat.blt r 98 then [] else [0, 0, 3, 5, 99]))))))) else (bif Nat.blt r 148 then (bif Nat.blt r 123 then (bif Nat.blt r 111 then (bif Nat.blt r 105 then (bif Nat.blt r 102 then (bif Nat.blt r 100 then [100, 102, 104, 106, 108, 110, 112, 114, 116, 118, 120, 122, 124] else (bif Nat.blt r 101 then [101] else [])) else (bif Nat.blt r 103 then [103] else (bif Nat.blt r 104 then [] else [105]))) else (bif Nat.blt r 108 then (bif Nat.blt r 106 then [] else (bif Nat.blt r 107 then [107] else [])) else (bif Nat.blt r 109 then [109] else (bif Nat.blt r 110 then [] else [111])))) else (bif Nat.blt r 117 then (bif Nat.blt r 114 then (bif Nat.blt r 112 then [] else (bif Nat.blt r 113 then [113] else [])) else (bif Nat.blt r 115 then [115] else (bif Nat.blt r 116 then [] else [117]))) else (bif Nat.blt r 120 then (bif Nat.blt r 118 then [] else (bif Nat.blt r 119 then [119] else [])) else (bif Nat.blt r 121 then [121] else (bif Nat.blt r 122 then [] else [123]))))) else (bif Nat.blt r 135 then (bif Nat.blt r 129 then (bif Nat.blt r 126 then (bif Nat.blt r 124 then [] else (bif Nat.blt r 125 then [125] else [])) else (bif Nat.blt r 127 then [127, 129, 131, 133, 5, 135, 136, 137] else (bif Nat.blt r 128 then [128] else []))) else (bif Nat.blt r 132 then (bif Nat.blt r 130 then [130] else (bif Nat.blt r 131 then [] else [132])) else (bif Nat.blt r 133 then [] else (bif Nat.blt r 134 then [134] else [])))) else (bif Nat.blt r 141 then (bif Nat.blt r 138 then (bif Nat.blt r 136 then [] else (bif Nat.blt r 137 then [] else [])) else (bif Nat.blt r 139 then [139, 141, 143, 0, 0, 144, 145, 146, 5, 126] else (bif Nat.blt r 140 then [140] else []))) else (bif Nat.blt r 144 then (bif Nat.blt r 142 then [142] else (bif Nat.blt r 143 then [] else [])) else (bif Nat.blt r 146 then (bif Nat.blt r 145 then [] else []) else (bif Nat.blt r 147 then [147] else [])))))) else (bif Nat.blt r 173 then (bif Nat.blt r 160 then (bif Nat.blt r 154 then (bif Nat.blt r 151 then (bif Nat.blt r 149 then [149, 0, 0, 5, 126, 150] else (bif Nat.blt r 150 then [] else [])) else (bif Nat.blt r 152 then [152, 0, 5, 126, 26] else (bif Nat.blt r 153 then [] else []))) else (bif Nat.blt r 157 then (bif Nat.blt r 155 then [] else (bif Nat.blt r 156 then [0, 0, 156] else [])) else (bif Nat.blt r 158 then [0, 0, 158] else (bif Nat.blt r 159 then [] else [0, 0, 160])))) else (bif Nat.blt r 166 then (bif Nat.blt r 163 then (bif Nat.blt r 161 then [] else (bif Nat.blt r 162 then [0, 0, 162] else [])) else (bif Nat.blt r 164 then [0, 0, 164] else (bif Nat.blt r 165 then [] else [0, 0, 166]))) else (bif Nat.blt r 169 then (bif Nat.blt r 167 then [] else (bif Nat.blt r 168 then [0, 0, 168] else [])) else (bif Nat.blt r 171 then (bif Nat.blt r 170 then [0, 0, 170] else []) else (bif Nat.blt r 172 then [0, 0, 172, 173, 174, 0, 175, 176, 0, 0, 177, 178, 179, 180, 181, 182, 183, 184, 185, 186, 187, 0, 0, 0, 0, 0, 0, 0, 0, 0, 0, 0, 0, 188, 0, 0, 0, 189, 190, 191, 0, 192, 0, 193, 194, 195, 196, 197] else []))))) else (bif Nat.blt r 185 then (bif Nat.blt r 179 then (bif Nat.blt r 176 then (bif Nat.blt r 174 then [] else (bif Nat.blt r 175 then [] else [])) else (bif Nat.blt r 177 then [] else (bif Nat.blt r 178 then [] else []))) else (bif Nat.blt r 182 then (bif Nat.blt r 180 then [] else (bif Nat.blt r 181 then [] else [])) else (bif Nat.blt r 183 then [] else (bif Nat.blt r 184 then [] else [])))) else (bif Nat.blt r 191 then (bif Nat.blt r 188 then (bif Nat.blt r 186 then [] else (bif Nat.blt r 187 then [] else [])) else (bif Nat.blt r 189 then [] else (bif Nat.blt r 190 then [] else []))) else (bif Nat.blt r 194 then (bif Nat.blt r 192 then [] else (bif Nat.blt r 193 then [] else [])) else (bif Nat.blt r 196 then (bif Nat.blt r 195 then [] else []) else (bif Nat.blt r 197 then [] else [])))))))) else []
def RC (r k : Nat) : Nat := (RCl r).getD k 0
/-- all cells are made, the references stand (but the one that asks moves) -/
def Gd (M : Mm) : Prop := gN M = 197 ∧ ∀ r k, r < 1000 → ¬ (r = 151 ∧ k = 4) → gR M r k = RC r k
def okC (r ci : Nat) : Bool := Nat.ble 1 r && Nat.ble r 197 && Nat.beq (SH r).1 ci
theorem okO_g {M : Mm} (h : Gd M) {r ci : Nat} (hc : okC r ci = true) : okO M r ci = true := by
  simp only [okC, Bool.and_eq_true, Nat.ble_eq, Nat.beq_eq] at hc
  simp only [okO, h.1, Bool.and_eq_true, Nat.ble_eq, Nat.beq_eq, Nat.blt_eq]
  omega
def arC (r t : Nat) : Bool := Nat.ble 1 r && Nat.ble r 197 && Nat.beq (SH r).1 (100 + t)
theorem aLen_g {M : Mm} {r : Nat} (h : r ≤ 197) : aLen M r = (SH r).2 := by unfold aLen; rw [if_neg (by omega)]
theorem inB_n {k n : Nat} (h : k < n) (hn : n < 2 ^ 31) : inB (nI k) n = true := by
  simp only [inB, nI_toInt (Nat.lt_trans h hn), Bool.and_eq_true, decide_eq_true_eq]
  omega
theorem rOK_g {M : Mm} (h : Gd M) {r t k : Nat} (hc : arC r t = true) (hk : k < (SH r).2) : rOK M r t (nI k) = true := by
  simp only [arC, Bool.and_eq_true, Nat.ble_eq, Nat.beq_eq] at hc
  have h5 := SH_small r (by omega)
  simp only [rOK, okA, h.1, Bool.and_eq_true, Bool.or_eq_true, Nat.ble_eq, Nat.beq_eq]
  refine ⟨⟨⟨hc.1.1, Or.inl hc.1.2⟩, hc.2⟩, ?_⟩
  rw [aLen_g hc.1.2]
  exact inB_n hk (by omega)
theorem wOK_g {M : Mm} (h : Gd M) {r t k : Nat} (hc : arC r t = true) (hk : k < (SH r).2) : wOK M r t (nI k) = true := by
  have h1 := rOK_g h hc hk
  simp only [arC, Bool.and_eq_true, Nat.ble_eq, Nat.beq_eq] at hc
  simp only [rOK, Bool.and_eq_true] at h1
  simp only [wOK, Bool.and_eq_true, Nat.blt_eq]
  exact ⟨⟨h1.1, by omega⟩, h1.2⟩
theorem Gd_sI {M : Mm} {i k : Nat} {v : Int32} : Gd (sI M i k v) = Gd M := rfl
theorem Gd_sL {M : Mm} {i k : Nat} {v : Int64} : Gd (sL M i k v) = Gd M := rfl
theorem Gd_sZ {M : Mm} {i k : Nat} {v : Int32} : Gd (sZ M i k v) = Gd M := rfl
theorem Gd_cI {M : Mm} {a sp c dp n : Nat} : Gd (cI M a sp c dp n) = Gd M := rfl
theorem Gd_cL {M : Mm} {a sp c dp n : Nat} : Gd (cL M a sp c dp n) = Gd M := rfl
theorem Gd_sR {M : Mm} {v : Nat} (h : Gd M) : Gd (sR M 151 4 v) := ⟨h.1, fun r k hr hn => by
  show (if r = 151 ∧ k = 4 then v else gR M r k) = RC r k
  rw [if_neg hn]; exact h.2 r k hr hn⟩
theorem gr_1_0 {M : Mm} (h : Gd M) : gR M 1 0 = 2 := h.2 1 0 (by omega) (by omega)
theorem gr_1_1 {M : Mm} (h : Gd M) : gR M 1 1 = 3 := h.2 1 1 (by omega) (by omega)
theorem gr_1_2 {M : Mm} (h : Gd M) : gR M 1 2 = 5 := h.2 1 2 (by omega) (by omega)
theorem gr_1_3 {M : Mm} (h : Gd M) : gR M 1 3 = 98 := h.2 1 3 (by omega) (by omega)
theorem gr_1_4 {M : Mm} (h : Gd M) : gR M 1 4 = 126 := h.2 1 4 (by omega) (by omega)
theorem gr_1_5 {M : Mm} (h : Gd M) : gR M 1 5 = 138 := h.2 1 5 (by omega) (by omega)
theorem gr_1_6 {M : Mm} (h : Gd M) : gR M 1 6 = 148 := h.2 1 6 (by omega) (by omega)
theorem gr_1_7 {M : Mm} (h : Gd M) : gR M 1 7 = 151 := h.2 1 7 (by omega) (by omega)
theorem gr_1_8 {M : Mm} (h : Gd M) : gR M 1 8 = 153 := h.2 1 8 (by omega) (by omega)
theorem gr_1_9 {M : Mm} (h : Gd M) : gR M 1 9 = 154 := h.2 1 9 (by omega) (by omega)
theorem gr_3_0 {M : Mm} (h : Gd M) : gR M 3 0 = 4 := h.2 3 0 (by omega) (by omega)
theorem gr_5_4 {M : Mm} (h : Gd M) : gR M 5 4 = 6 := h.2 5 4 (by omega) (by omega)
theorem gr_5_5 {M : Mm} (h : Gd M) : gR M 5 5 = 7 := h.2 5 5 (by omega) (by omega)
theorem gr_5_6 {M : Mm} (h : Gd M) : gR M 5 6 = 8 := h.2 5 6 (by omega) (by omega)
theorem gr_5_7 {M : Mm} (h : Gd M) : gR M 5 7 = 9 := h.2 5 7 (by omega) (by omega)
theorem gr_98_2 {M : Mm} (h : Gd M) : gR M 98 2 = 3 := h.2 98 2 (by omega) (by omega)
theorem gr_98_3 {M : Mm} (h : Gd M) : gR M 98 3 = 5 := h.2 98 3 (by omega) (by omega)
theorem gr_98_4 {M : Mm} (h : Gd M) : gR M 98 4 = 99 := h.2 98 4 (by omega) (by omega)
theorem gr_126_0 {M : Mm} (h : Gd M) : gR M 126 0 = 127 := h.2 126 0 (by omega) (by omega)
theorem gr_126_1 {M : Mm} (h : Gd M) : gR M 126 1 = 129 := h.2 126 1 (by omega) (by omega)
theorem gr_126_2 {M : Mm} (h : Gd M) : gR M 126 2 = 131 := h.2 126 2 (by omega) (by omega)
theorem gr_126_3 {M : Mm} (h : Gd M) : gR M 126 3 = 133 := h.2 126 3 (by omega) (by omega)
theorem gr_126_4 {M : Mm} (h : Gd M) : gR M 126 4 = 5 := h.2 126 4 (by omega) (by omega)
theorem gr_126_5 {M : Mm} (h : Gd M) : gR M 126 5 = 135 := h.2 126 5 (by omega) (by omega)
theorem gr_126_6 {M : Mm} (h : Gd M) : gR M 126 6 = 136 := h.2 126 6 (by omega) (by omega)
theorem gr_126_7 {M : Mm} (h : Gd M) : gR M 126 7 = 137 := h.2 126 7 (by omega) (by omega)
theorem gr_127_0 {M : Mm} (h : Gd M) : gR M 127 0 = 128 := h.2 127 0 (by omega) (by omega)
theorem gr_129_0 {M : Mm} (h : Gd M) : gR M 129 0 = 130 := h.2 129 0 (by omega) (by omega)
theorem gr_131_0 {M : Mm} (h : Gd M) : gR M 131 0 = 132 := h.2 131 0 (by omega) (by omega)
theorem gr_133_0 {M : Mm} (h : Gd M) : gR M 133 0 = 134 := h.2 133 0 (by omega) (by omega)
theorem gr_138_0 {M : Mm} (h : Gd M) : gR M 138 0 = 139 := h.2 138 0 (by omega) (by omega)
theorem gr_138_1 {M : Mm} (h : Gd M) : gR M 138 1 = 141 := h.2 138 1 (by omega) (by omega)
theorem gr_138_2 {M : Mm} (h : Gd M) : gR M 138 2 = 143 := h.2 138 2 (by omega) (by omega)
theorem gr_138_5 {M : Mm} (h : Gd M) : gR M 138 5 = 144 := h.2 138 5 (by omega) (by omega)
theorem gr_138_6 {M : Mm} (h : Gd M) : gR M 138 6 = 145 := h.2 138 6 (by omega) (by omega)
theorem gr_138_7 {M : Mm} (h : Gd M) : gR M 138 7 = 146 := h.2 138 7 (by omega) (by omega)
theorem gr_138_8 {M : Mm} (h : Gd M) : gR M 138 8 = 5 := h.2 138 8 (by omega) (by omega)
theorem gr_138_9 {M : Mm} (h : Gd M) : gR M 138 9 = 126 := h.2 138 9 (by omega) (by omega)
theorem gr_139_0 {M : Mm} (h : Gd M) : gR M 139 0 = 140 := h.2 139 0 (by omega) (by omega)
theorem gr_141_0 {M : Mm} (h : Gd M) : gR M 141 0 = 142 := h.2 141 0 (by omega) (by omega)
theorem gr_146_0 {M : Mm} (h : Gd M) : gR M 146 0 = 147 := h.2 146 0 (by omega) (by omega)
theorem gr_148_0 {M : Mm} (h : Gd M) : gR M 148 0 = 149 := h.2 148 0 (by omega) (by omega)
theorem gr_148_3 {M : Mm} (h : Gd M) : gR M 148 3 = 5 := h.2 148 3 (by omega) (by omega)
theorem gr_148_4 {M : Mm} (h : Gd M) : gR M 148 4 = 126 := h.2 148 4 (by omega) (by omega)
theorem gr_148_5 {M : Mm} (h : Gd M) : gR M 148 5 = 150 := h.2 148 5 (by omega) (by omega)
theorem gr_151_0 {M : Mm} (h : Gd M) : gR M 151 0 = 152 := h.2 151 0 (by omega) (by omega)
theorem gr_151_2 {M : Mm} (h : Gd M) : gR M 151 2 = 5 := h.2 151 2 (by omega) (by omega)
theorem gr_151_3 {M : Mm} (h : Gd M) : gR M 151 3 = 126 := h.2 151 3 (by omega) (by omega)
theorem gr_171_2 {M : Mm} (h : Gd M) : gR M 171 2 = 172 := h.2 171 2 (by omega) (by omega)
theorem gr_171_3 {M : Mm} (h : Gd M) : gR M 171 3 = 173 := h.2 171 3 (by omega) (by omega)
theorem gr_171_4 {M : Mm} (h : Gd M) : gR M 171 4 = 174 := h.2 171 4 (by omega) (by omega)
theorem gr_171_6 {M : Mm} (h : Gd M) : gR M 171 6 = 175 := h.2 171 6 (by omega) (by omega)
theorem gr_171_7 {M : Mm} (h : Gd M) : gR M 171 7 = 176 := h.2 171 7 (by omega) (by omega)
theorem gr_171_10 {M : Mm} (h : Gd M) : gR M 171 10 = 177 := h.2 171 10 (by omega) (by omega)
theorem gr_171_11 {M : Mm} (h : Gd M) : gR M 171 11 = 178 := h.2 171 11 (by omega) (by omega)
theorem gr_171_12 {M : Mm} (h : Gd M) : gR M 171 12 = 179 := h.2 171 12 (by omega) (by omega)
theorem gr_171_13 {M : Mm} (h : Gd M) : gR M 171 13 = 180 := h.2 171 13 (by omega) (by omega)
theorem gr_171_14 {M : Mm} (h : Gd M) : gR M 171 14 = 181 := h.2 171 14 (by omega) (by omega)
theorem gr_171_15 {M : Mm} (h : Gd M) : gR M 171 15 = 182 := h.2 171 15 (by omega) (by omega)
theorem gr_171_16 {M : Mm} (h : Gd M) : gR M 171 16 = 183 := h.2 171 16 (by omega) (by omega)
theorem gr_171_17 {M : Mm} (h : Gd M) : gR M 171 17 = 184 := h.2 171 17 (by omega) (by omega)
theorem gr_171_18 {M : Mm} (h : Gd M) : gR M 171 18 = 185 := h.2 171 18 (by omega) (by omega)
theorem gr_171_19 {M : Mm} (h : Gd M) : gR M 171 19 = 186 := h.2 171 19 (by omega) (by omega)
theorem gr_171_20 {M : Mm} (h : Gd M) : gR M 171 20 = 187 := h.2 171 20 (by omega) (by omega)
theorem gr_171_33 {M : Mm} (h : Gd M) : gR M 171 33 = 188 := h.2 171 33 (by omega) (by omega)
theorem gr_171_37 {M : Mm} (h : Gd M) : gR M 171 37 = 189 := h.2 171 37 (by omega) (by omega)
theorem gr_171_38 {M : Mm} (h : Gd M) : gR M 171 38 = 190 := h.2 171 38 (by omega) (by omega)
theorem gr_171_39 {M : Mm} (h : Gd M) : gR M 171 39 = 191 := h.2 171 39 (by omega) (by omega)
theorem gr_171_41 {M : Mm} (h : Gd M) : gR M 171 41 = 192 := h.2 171 41 (by omega) (by omega)
theorem gr_171_43 {M : Mm} (h : Gd M) : gR M 171 43 = 193 := h.2 171 43 (by omega) (by omega)
theorem gr_171_44 {M : Mm} (h : Gd M) : gR M 171 44 = 194 := h.2 171 44 (by omega) (by omega)
theorem gr_171_45 {M : Mm} (h : Gd M) : gR M 171 45 = 195 := h.2 171 45 (by omega) (by omega)
theorem gr_171_46 {M : Mm} (h : Gd M) : gR M 171 46 = 196 := h.2 171 46 (by omega) (by omega)
theorem gr_171_47 {M : Mm} (h : Gd M) : gR M 171 47 = 197 := h.2 171 47 (by omega) (by omega)
theorem gr_sheet_t : ∀ k, k < 8 → RC 2 k = 155 + 2 * k := by decide +kernel
theorem gr_sheet {M : Mm} (h : Gd M) {k : Nat} (hk : k < 8) : gR M 2 k = 155 + 2 * k := (h.2 _ _ (by omega) (by omega)).trans (gr_sheet_t k hk)
theorem gr_law_t : ∀ k, k < 8 → RC 8 k = 10 + 2 * k := by decide +kernel
theorem gr_law {M : Mm} (h : Gd M) {k : Nat} (hk : k < 8) : gR M 8 k = 10 + 2 * k := (h.2 _ _ (by omega) (by omega)).trans (gr_law_t k hk)
theorem gr_line_t : ∀ k, k < 24 → RC 9 k = 26 + 3 * k := by decide +kernel
theorem gr_line {M : Mm} (h : Gd M) {k : Nat} (hk : k < 24) : gR M 9 k = 26 + 3 * k := (h.2 _ _ (by omega) (by omega)).trans (gr_line_t k hk)
theorem gr_row_t : ∀ k, k < 13 → RC 99 k = 100 + 2 * k := by decide +kernel
theorem gr_row {M : Mm} (h : Gd M) {k : Nat} (hk : k < 13) : gR M 99 k = 100 + 2 * k := (h.2 _ _ (by omega) (by omega)).trans (gr_row_t k hk)
theorem gr_lawW_t : ∀ k, k < 8 → RC (10 + 2 * k) 0 = 11 + 2 * k := by decide +kernel
theorem gr_lawW {M : Mm} (h : Gd M) {k : Nat} (hk : k < 8) : gR M (10 + 2 * k) 0 = 11 + 2 * k := (h.2 _ _ (by omega) (by omega)).trans (gr_lawW_t k hk)
theorem gr_lineS_t : ∀ k, k < 24 → RC (26 + 3 * k) 8 = 27 + 3 * k := by decide +kernel
theorem gr_lineS {M : Mm} (h : Gd M) {k : Nat} (hk : k < 24) : gR M (26 + 3 * k) 8 = 27 + 3 * k := (h.2 _ _ (by omega) (by omega)).trans (gr_lineS_t k hk)
theorem gr_lineW_t : ∀ k, k < 24 → RC (27 + 3 * k) 0 = 28 + 3 * k := by decide +kernel
theorem gr_lineW {M : Mm} (h : Gd M) {k : Nat} (hk : k < 24) : gR M (27 + 3 * k) 0 = 28 + 3 * k := (h.2 _ _ (by omega) (by omega)).trans (gr_lineW_t k hk)
theorem gr_rowW_t : ∀ k, k < 13 → RC (100 + 2 * k) 0 = 101 + 2 * k := by decide +kernel
theorem gr_rowW {M : Mm} (h : Gd M) {k : Nat} (hk : k < 13) : gR M (100 + 2 * k) 0 = 101 + 2 * k := (h.2 _ _ (by omega) (by omega)).trans (gr_rowW_t k hk)
theorem gr_items_t : ∀ k, k < 8 → RC (155 + 2 * k) 2 = 156 + 2 * k := by decide +kernel
theorem gr_items {M : Mm} (h : Gd M) {k : Nat} (hk : k < 8) : gR M (155 + 2 * k) 2 = 156 + 2 * k := (h.2 _ _ (by omega) (by omega)).trans (gr_items_t k hk)
theorem ok_sheet_t : ∀ k, k < 8 → okC (155 + 2 * k) 9 = true := by decide +kernel
theorem ok_sheet {M : Mm} (h : Gd M) {k : Nat} (hk : k < 8) : okO M (155 + 2 * k) 9 = true := okO_g h (ok_sheet_t k hk)
theorem ok_law_t : ∀ k, k < 8 → okC (10 + 2 * k) 4 = true := by decide +kernel
theorem ok_law {M : Mm} (h : Gd M) {k : Nat} (hk : k < 8) : okO M (10 + 2 * k) 4 = true := okO_g h (ok_law_t k hk)
theorem ok_line_t : ∀ k, k < 24 → okC (26 + 3 * k) 6 = true := by decide +kernel
theorem ok_line {M : Mm} (h : Gd M) {k : Nat} (hk : k < 24) : okO M (26 + 3 * k) 6 = true := okO_g h (ok_line_t k hk)
theorem ok_say_t : ∀ k, k < 24 → okC (27 + 3 * k) 4 = true := by decide +kernel
theorem ok_say {M : Mm} (h : Gd M) {k : Nat} (hk : k < 24) : okO M (27 + 3 * k) 4 = true := okO_g h (ok_say_t k hk)
theorem ok_row_t : ∀ k, k < 13 → okC (100 + 2 * k) 4 = true := by decide +kernel
theorem ok_row {M : Mm} (h : Gd M) {k : Nat} (hk : k < 13) : okO M (100 + 2 * k) 4 = true := okO_g h (ok_row_t k hk)
theorem ok_1 {M : Mm} (h : Gd M) : okO M 1 11 = true := okO_g h rfl
theorem ok_3 {M : Mm} (h : Gd M) : okO M 3 10 = true := okO_g h rfl
theorem ok_5 {M : Mm} (h : Gd M) : okO M 5 1 = true := okO_g h rfl
theorem ok_98 {M : Mm} (h : Gd M) : okO M 98 7 = true := okO_g h rfl
theorem ok_126 {M : Mm} (h : Gd M) : okO M 126 5 = true := okO_g h rfl
theorem ok_127 {M : Mm} (h : Gd M) : okO M 127 4 = true := okO_g h rfl
theorem ok_129 {M : Mm} (h : Gd M) : okO M 129 4 = true := okO_g h rfl
theorem ok_131 {M : Mm} (h : Gd M) : okO M 131 4 = true := okO_g h rfl
theorem ok_133 {M : Mm} (h : Gd M) : okO M 133 4 = true := okO_g h rfl
theorem ok_138 {M : Mm} (h : Gd M) : okO M 138 2 = true := okO_g h rfl
theorem ok_139 {M : Mm} (h : Gd M) : okO M 139 8 = true := okO_g h rfl
theorem ok_141 {M : Mm} (h : Gd M) : okO M 141 4 = true := okO_g h rfl
theorem ok_146 {M : Mm} (h : Gd M) : okO M 146 4 = true := okO_g h rfl
theorem ok_148 {M : Mm} (h : Gd M) : okO M 148 3 = true := okO_g h rfl
theorem ok_151 {M : Mm} (h : Gd M) : okO M 151 0 = true := okO_g h rfl
theorem ok_171 {M : Mm} (h : Gd M) : okO M 171 12 = true := okO_g h rfl
theorem rk_2 {M : Mm} (h : Gd M) {k : Nat} (hk : k < 8) : rQ M 2 (nI k) = true := by unfold rQ; rw [show wOK M 2 4 (nI k) = true from wOK_g h rfl hk]; simp
theorem rk_4 {M : Mm} (h : Gd M) {k : Nat} (hk : k < 500) : rB M 4 (nI k) = true := by unfold rB; rw [show rOK M 4 1 (nI k) = true from rOK_g h rfl hk]; simp
theorem wk_4 {M : Mm} (h : Gd M) {k : Nat} (hk : k < 500) : wB M 4 (nI k) = true := by unfold wB; rw [show wOK M 4 1 (nI k) = true from wOK_g h rfl hk]; simp
theorem rk_6 {M : Mm} (h : Gd M) {k : Nat} (hk : k < 10) : rOK M 6 0 (nI k) = true := rOK_g h rfl hk
theorem wk_6 {M : Mm} (h : Gd M) {k : Nat} (hk : k < 10) : wOK M 6 0 (nI k) = true := wOK_g h rfl hk
theorem rk_7 {M : Mm} (h : Gd M) {k : Nat} (hk : k < 10) : rOK M 7 0 (nI k) = true := rOK_g h rfl hk
theorem wk_7 {M : Mm} (h : Gd M) {k : Nat} (hk : k < 10) : wOK M 7 0 (nI k) = true := wOK_g h rfl hk
theorem rk_8 {M : Mm} (h : Gd M) {k : Nat} (hk : k < 8) : rQ M 8 (nI k) = true := by unfold rQ; rw [show wOK M 8 5 (nI k) = true from wOK_g h rfl hk]; simp
theorem rk_9 {M : Mm} (h : Gd M) {k : Nat} (hk : k < 24) : rQ M 9 (nI k) = true := by unfold rQ; rw [show wOK M 9 6 (nI k) = true from wOK_g h rfl hk]; simp
theorem rk_99 {M : Mm} (h : Gd M) {k : Nat} (hk : k < 13) : rQ M 99 (nI k) = true := by unfold rQ; rw [show wOK M 99 5 (nI k) = true from wOK_g h rfl hk]; simp
theorem rk_128 {M : Mm} (h : Gd M) {k : Nat} (hk : k < 16) : rOK M 128 3 (nI k) = true := rOK_g h rfl hk
theorem wk_128 {M : Mm} (h : Gd M) {k : Nat} (hk : k < 16) : wOK M 128 3 (nI k) = true := wOK_g h rfl hk
theorem rk_130 {M : Mm} (h : Gd M) {k : Nat} (hk : k < 16) : rOK M 130 3 (nI k) = true := rOK_g h rfl hk
theorem wk_130 {M : Mm} (h : Gd M) {k : Nat} (hk : k < 16) : wOK M 130 3 (nI k) = true := wOK_g h rfl hk
theorem rk_132 {M : Mm} (h : Gd M) {k : Nat} (hk : k < 16) : rOK M 132 3 (nI k) = true := rOK_g h rfl hk
theorem wk_132 {M : Mm} (h : Gd M) {k : Nat} (hk : k < 16) : wOK M 132 3 (nI k) = true := wOK_g h rfl hk
theorem rk_134 {M : Mm} (h : Gd M) {k : Nat} (hk : k < 16) : rOK M 134 3 (nI k) = true := rOK_g h rfl hk
theorem wk_134 {M : Mm} (h : Gd M) {k : Nat} (hk : k < 16) : wOK M 134 3 (nI k) = true := wOK_g h rfl hk
theorem rk_135 {M : Mm} (h : Gd M) {k : Nat} (hk : k < 11) : rOK M 135 0 (nI k) = true := rOK_g h rfl hk
theorem wk_135 {M : Mm} (h : Gd M) {k : Nat} (hk : k < 11) : wOK M 135 0 (nI k) = true := wOK_g h rfl hk
theorem rk_136 {M : Mm} (h : Gd M) {k : Nat} (hk : k < 11) : rOK M 136 0 (nI k) = true := rOK_g h rfl hk
theorem wk_136 {M : Mm} (h : Gd M) {k : Nat} (hk : k < 11) : wOK M 136 0 (nI k) = true := wOK_g h rfl hk
theorem rk_137 {M : Mm} (h : Gd M) {k : Nat} (hk : k < 11) : rOK M 137 0 (nI k) = true := rOK_g h rfl hk
theorem wk_137 {M : Mm} (h : Gd M) {k : Nat} (hk : k < 11) : wOK M 137 0 (nI k) = true := wOK_g h rfl hk
theorem rk_140 {M : Mm} (h : Gd M) {k : Nat} (hk : k < 4) : rOK M 140 0 (nI k) = true := rOK_g h rfl hk
theorem wk_140 {M : Mm} (h : Gd M) {k : Nat} (hk : k < 4) : wOK M 140 0 (nI k) = true := wOK_g h rfl hk
theorem rk_142 {M : Mm} (h : Gd M) {k : Nat} (hk : k < 16) : rOK M 142 3 (nI k) = true := rOK_g h rfl hk
theorem wk_142 {M : Mm} (h : Gd M) {k : Nat} (hk : k < 16) : wOK M 142 3 (nI k) = true := wOK_g h rfl hk
theorem rk_143 {M : Mm} (h : Gd M) {k : Nat} (hk : k < 1000) : rOK M 143 0 (nI k) = true := rOK_g h rfl hk
theorem wk_143 {M : Mm} (h : Gd M) {k : Nat} (hk : k < 1000) : wOK M 143 0 (nI k) = true := wOK_g h rfl hk
theorem rk_144 {M : Mm} (h : Gd M) {k : Nat} (hk : k < 1024) : rOK M 144 0 (nI k) = true := rOK_g h rfl hk
theorem wk_144 {M : Mm} (h : Gd M) {k : Nat} (hk : k < 1024) : wOK M 144 0 (nI k) = true := wOK_g h rfl hk
theorem rk_145 {M : Mm} (h : Gd M) {k : Nat} (hk : k < 1000) : rB M 145 (nI k) = true := by unfold rB; rw [show rOK M 145 2 (nI k) = true from rOK_g h rfl hk]; simp
theorem wk_145 {M : Mm} (h : Gd M) {k : Nat} (hk : k < 1000) : wB M 145 (nI k) = true := by unfold wB; rw [show wOK M 145 2 (nI k) = true from wOK_g h rfl hk]; simp
theorem rk_147 {M : Mm} (h : Gd M) {k : Nat} (hk : k < 16) : rOK M 147 3 (nI k) = true := rOK_g h rfl hk
theorem wk_147 {M : Mm} (h : Gd M) {k : Nat} (hk : k < 16) : wOK M 147 3 (nI k) = true := wOK_g h rfl hk
theorem rk_149 {M : Mm} (h : Gd M) {k : Nat} (hk : k < 180) : rOK M 149 0 (nI k) = true := rOK_g h rfl hk
theorem wk_149 {M : Mm} (h : Gd M) {k : Nat} (hk : k < 180) : wOK M 149 0 (nI k) = true := wOK_g h rfl hk
theorem rk_150 {M : Mm} (h : Gd M) {k : Nat} (hk : k < 20) : rOK M 150 0 (nI k) = true := rOK_g h rfl hk
theorem wk_150 {M : Mm} (h : Gd M) {k : Nat} (hk : k < 20) : wOK M 150 0 (nI k) = true := wOK_g h rfl hk
theorem rk_152 {M : Mm} (h : Gd M) {k : Nat} (hk : k < 16) : rOK M 152 0 (nI k) = true := rOK_g h rfl hk
theorem wk_152 {M : Mm} (h : Gd M) {k : Nat} (hk : k < 16) : wOK M 152 0 (nI k) = true := wOK_g h rfl hk
theorem rk_153 {M : Mm} (h : Gd M) {k : Nat} (hk : k < 8) : rOK M 153 0 (nI k) = true := rOK_g h rfl hk
theorem wk_153 {M : Mm} (h : Gd M) {k : Nat} (hk : k < 8) : wOK M 153 0 (nI k) = true := wOK_g h rfl hk
theorem rk_154 {M : Mm} (h : Gd M) {k : Nat} (hk : k < 8) : rOK M 154 0 (nI k) = true := rOK_g h rfl hk
theorem wk_154 {M : Mm} (h : Gd M) {k : Nat} (hk : k < 8) : wOK M 154 0 (nI k) = true := wOK_g h rfl hk
theorem rk_172 {M : Mm} (h : Gd M) {k : Nat} (hk : k < 8) : rOK M 172 0 (nI k) = true := rOK_g h rfl hk
theorem wk_172 {M : Mm} (h : Gd M) {k : Nat} (hk : k < 8) : wOK M 172 0 (nI k) = true := wOK_g h rfl hk
theorem rk_173 {M : Mm} (h : Gd M) {k : Nat} (hk : k < 8) : rOK M 173 0 (nI k) = true := rOK_g h rfl hk
theorem wk_173 {M : Mm} (h : Gd M) {k : Nat} (hk : k < 8) : wOK M 173 0 (nI k) = true := wOK_g h rfl hk
theorem rk_174 {M : Mm} (h : Gd M) {k : Nat} (hk : k < 320) : rOK M 174 0 (nI k) = true := rOK_g h rfl hk
theorem wk_174 {M : Mm} (h : Gd M) {k : Nat} (hk : k < 320) : wOK M 174 0 (nI k) = true := wOK_g h rfl hk
theorem rk_175 {M : Mm} (h : Gd M) {k : Nat} (hk : k < 10) : rOK M 175 0 (nI k) = true := rOK_g h rfl hk
theorem wk_175 {M : Mm} (h : Gd M) {k : Nat} (hk : k < 10) : wOK M 175 0 (nI k) = true := wOK_g h rfl hk
theorem rk_176 {M : Mm} (h : Gd M) {k : Nat} (hk : k < 10) : rOK M 176 0 (nI k) = true := rOK_g h rfl hk
theorem wk_176 {M : Mm} (h : Gd M) {k : Nat} (hk : k < 10) : wOK M 176 0 (nI k) = true := wOK_g h rfl hk
theorem rk_177 {M : Mm} (h : Gd M) {k : Nat} (hk : k < 24) : rOK M 177 0 (nI k) = true := rOK_g h rfl hk
theorem wk_177 {M : Mm} (h : Gd M) {k : Nat} (hk : k < 24) : wOK M 177 0 (nI k) = true := wOK_g h rfl hk
theorem rk_178 {M : Mm} (h : Gd M) {k : Nat} (hk : k < 24) : rOK M 178 0 (nI k) = true := rOK_g h rfl hk
theorem wk_178 {M : Mm} (h : Gd M) {k : Nat} (hk : k < 24) : wOK M 178 0 (nI k) = true := wOK_g h rfl hk
theorem rk_179 {M : Mm} (h : Gd M) {k : Nat} (hk : k < 24) : rOK M 179 0 (nI k) = true := rOK_g h rfl hk
theorem wk_179 {M : Mm} (h : Gd M) {k : Nat} (hk : k < 24) : wOK M 179 0 (nI k) = true := wOK_g h rfl hk
theorem rk_180 {M : Mm} (h : Gd M) {k : Nat} (hk : k < 24) : rOK M 180 0 (nI k) = true := rOK_g h rfl hk
theorem wk_180 {M : Mm} (h : Gd M) {k : Nat} (hk : k < 24) : wOK M 180 0 (nI k) = true := wOK_g h rfl hk
theorem rk_181 {M : Mm} (h : Gd M) {k : Nat} (hk : k < 24) : rOK M 181 0 (nI k) = true := rOK_g h rfl hk
theorem wk_181 {M : Mm} (h : Gd M) {k : Nat} (hk : k < 24) : wOK M 181 0 (nI k) = true := wOK_g h rfl hk
theorem rk_182 {M : Mm} (h : Gd M) {k : Nat} (hk : k < 24) : rOK M 182 0 (nI k) = true := rOK_g h rfl hk
theorem wk_182 {M : Mm} (h : Gd M) {k : Nat} (hk : k < 24) : wOK M 182 0 (nI k) = true := wOK_g h rfl hk
theorem rk_183 {M : Mm} (h : Gd M) {k : Nat} (hk : k < 24) : rOK M 183 0 (nI k) = true := rOK_g h rfl hk
theorem wk_183 {M : Mm} (h : Gd M) {k : Nat} (hk : k < 24) : wOK M 183 0 (nI k) = true := wOK_g h rfl hk
theorem rk_184 {M : Mm} (h : Gd M) {k : Nat} (hk : k < 3200) : rOK M 184 0 (nI k) = true := rOK_g h rfl hk
theorem wk_184 {M : Mm} (h : Gd M) {k : Nat} (hk : k < 3200) : wOK M 184 0 (nI k) = true := wOK_g h rfl hk
theorem rk_185 {M : Mm} (h : Gd M) {k : Nat} (hk : k < 32) : rOK M 185 0 (nI k) = true := rOK_g h rfl hk
theorem wk_185 {M : Mm} (h : Gd M) {k : Nat} (hk : k < 32) : wOK M 185 0 (nI k) = true := wOK_g h rfl hk
theorem rk_186 {M : Mm} (h : Gd M) {k : Nat} (hk : k < 32) : rOK M 186 0 (nI k) = true := rOK_g h rfl hk
theorem wk_186 {M : Mm} (h : Gd M) {k : Nat} (hk : k < 32) : wOK M 186 0 (nI k) = true := wOK_g h rfl hk
theorem rk_187 {M : Mm} (h : Gd M) {k : Nat} (hk : k < 500) : rOK M 187 0 (nI k) = true := rOK_g h rfl hk
theorem wk_187 {M : Mm} (h : Gd M) {k : Nat} (hk : k < 500) : wOK M 187 0 (nI k) = true := wOK_g h rfl hk
theorem rk_188 {M : Mm} (h : Gd M) {k : Nat} (hk : k < 40) : rOK M 188 0 (nI k) = true := rOK_g h rfl hk
theorem wk_188 {M : Mm} (h : Gd M) {k : Nat} (hk : k < 40) : wOK M 188 0 (nI k) = true := wOK_g h rfl hk
theorem rk_189 {M : Mm} (h : Gd M) {k : Nat} (hk : k < 1024) : rOK M 189 0 (nI k) = true := rOK_g h rfl hk
theorem wk_189 {M : Mm} (h : Gd M) {k : Nat} (hk : k < 1024) : wOK M 189 0 (nI k) = true := wOK_g h rfl hk
theorem rk_190 {M : Mm} (h : Gd M) {k : Nat} (hk : k < 1024) : rOK M 190 0 (nI k) = true := rOK_g h rfl hk
theorem wk_190 {M : Mm} (h : Gd M) {k : Nat} (hk : k < 1024) : wOK M 190 0 (nI k) = true := wOK_g h rfl hk
theorem rk_191 {M : Mm} (h : Gd M) {k : Nat} (hk : k < 100) : rB M 191 (nI k) = true := by unfold rB; rw [show rOK M 191 2 (nI k) = true from rOK_g h rfl hk]; simp
theorem wk_191 {M : Mm} (h : Gd M) {k : Nat} (hk : k < 100) : wB M 191 (nI k) = true := by unfold wB; rw [show wOK M 191 2 (nI k) = true from wOK_g h rfl hk]; simp
theorem rk_192 {M : Mm} (h : Gd M) {k : Nat} (hk : k < 4) : rOK M 192 0 (nI k) = true := rOK_g h rfl hk
theorem wk_192 {M : Mm} (h : Gd M) {k : Nat} (hk : k < 4) : wOK M 192 0 (nI k) = true := wOK_g h rfl hk
theorem rk_193 {M : Mm} (h : Gd M) {k : Nat} (hk : k < 1024) : rOK M 193 0 (nI k) = true := rOK_g h rfl hk
theorem wk_193 {M : Mm} (h : Gd M) {k : Nat} (hk : k < 1024) : wOK M 193 0 (nI k) = true := wOK_g h rfl hk
theorem rk_194 {M : Mm} (h : Gd M) {k : Nat} (hk : k < 400) : rB M 194 (nI k) = true := by unfold rB; rw [show rOK M 194 2 (nI k) = true from rOK_g h rfl hk]; simp
theorem wk_194 {M : Mm} (h : Gd M) {k : Nat} (hk : k < 400) : wB M 194 (nI k) = true := by unfold wB; rw [show wOK M 194 2 (nI k) = true from wOK_g h rfl hk]; simp
theorem rk_195 {M : Mm} (h : Gd M) {k : Nat} (hk : k < 8) : rOK M 195 0 (nI k) = true := rOK_g h rfl hk
theorem wk_195 {M : Mm} (h : Gd M) {k : Nat} (hk : k < 8) : wOK M 195 0 (nI k) = true := wOK_g h rfl hk
theorem rk_196 {M : Mm} (h : Gd M) {k : Nat} (hk : k < 8) : rOK M 196 0 (nI k) = true := rOK_g h rfl hk
theorem wk_196 {M : Mm} (h : Gd M) {k : Nat} (hk : k < 8) : wOK M 196 0 (nI k) = true := wOK_g h rfl hk
theorem rk_197 {M : Mm} (h : Gd M) {k : Nat} (hk : k < 16) : rOK M 197 0 (nI k) = true := rOK_g h rfl hk
theorem wk_197 {M : Mm} (h : Gd M) {k : Nat} (hk : k < 16) : wOK M 197 0 (nI k) = true := wOK_g h rfl hk
theorem k_lawW_t : ∀ k, k < 8 → arC (11 + 2 * k) 3 = true ∧ (SH (11 + 2 * k)).2 = 16 := by decide +kernel
theorem rk_lawW {M : Mm} (h : Gd M) {k j : Nat} (hk : k < 8) (hj : j < 16) : rOK M (11 + 2 * k) 3 (nI j) = true := rOK_g h (k_lawW_t k hk).1 (by rw [(k_lawW_t k hk).2]; exact hj)
theorem wk_lawW {M : Mm} (h : Gd M) {k j : Nat} (hk : k < 8) (hj : j < 16) : wOK M (11 + 2 * k) 3 (nI j) = true := wOK_g h (k_lawW_t k hk).1 (by rw [(k_lawW_t k hk).2]; exact hj)
theorem k_lineW_t : ∀ k, k < 24 → arC (28 + 3 * k) 3 = true ∧ (SH (28 + 3 * k)).2 = 16 := by decide +kernel
theorem rk_lineW {M : Mm} (h : Gd M) {k j : Nat} (hk : k < 24) (hj : j < 16) : rOK M (28 + 3 * k) 3 (nI j) = true := rOK_g h (k_lineW_t k hk).1 (by rw [(k_lineW_t k hk).2]; exact hj)
theorem wk_lineW {M : Mm} (h : Gd M) {k j : Nat} (hk : k < 24) (hj : j < 16) : wOK M (28 + 3 * k) 3 (nI j) = true := wOK_g h (k_lineW_t k hk).1 (by rw [(k_lineW_t k hk).2]; exact hj)
theorem k_rowW_t : ∀ k, k < 13 → arC (101 + 2 * k) 3 = true ∧ (SH (101 + 2 * k)).2 = 16 := by decide +kernel
theorem rk_rowW {M : Mm} (h : Gd M) {k j : Nat} (hk : k < 13) (hj : j < 16) : rOK M (101 + 2 * k) 3 (nI j) = true := rOK_g h (k_rowW_t k hk).1 (by rw [(k_rowW_t k hk).2]; exact hj)
theorem wk_rowW {M : Mm} (h : Gd M) {k j : Nat} (hk : k < 13) (hj : j < 16) : wOK M (101 + 2 * k) 3 (nI j) = true := wOK_g h (k_rowW_t k hk).1 (by rw [(k_rowW_t k hk).2]; exact hj)
theorem k_items_t : ∀ k, k < 8 → arC (156 + 2 * k) 0 = true ∧ (SH (156 + 2 * k)).2 = 40 := by decide +kernel
theorem rk_items {M : Mm} (h : Gd M) {k j : Nat} (hk : k < 8) (hj : j < 40) : rOK M (156 + 2 * k) 0 (nI j) = true := rOK_g h (k_items_t k hk).1 (by rw [(k_items_t k hk).2]; exact hj)
theorem wk_items {M : Mm} (h : Gd M) {k j : Nat} (hk : k < 8) (hj : j < 40) : wOK M (156 + 2 * k) 0 (nI j) = true := wOK_g h (k_items_t k hk).1 (by rw [(k_items_t k hk).2]; exact hj)
/-- reads behind writes, word by word -/
theorem gI_sI {M : Mm} {i k : Nat} {v : Int32} {r j : Nat} : gI (sI M i k v) r j = if r = i ∧ j = k then v else gI M r j := rfl
theorem gL_sL {M : Mm} {i k : Nat} {v : Int64} {r j : Nat} : gL (sL M i k v) r j = if r = i ∧ j = k then v else gL M r j := rfl
theorem gR_sR {M : Mm} {i k v : Nat} {r j : Nat} : gR (sR M i k v) r j = if r = i ∧ j = k then v else gR M r j := rfl
theorem gI_sL {M : Mm} {i k : Nat} {v : Int64} : gI (sL M i k v) = gI M := rfl
theorem gI_sR {M : Mm} {i k v : Nat} : gI (sR M i k v) = gI M := rfl
theorem gL_sI {M : Mm} {i k : Nat} {v : Int32} : gL (sI M i k v) = gL M := rfl
theorem gL_sR {M : Mm} {i k v : Nat} : gL (sR M i k v) = gL M := rfl
theorem gR_sI {M : Mm} {i k : Nat} {v : Int32} : gR (sI M i k v) = gR M := rfl
theorem gR_sL {M : Mm} {i k : Nat} {v : Int64} : gR (sL M i k v) = gR M := rfl
theorem bI_s {x : Int32} {M : Mm} {k : Int32 → Mm → Oo} : bI (some (some (.int x), M)) k = k x M := rfl
theorem bL_s {x : Int64} {M : Mm} {k : Int64 → Mm → Oo} : bL (some (some (.long x), M)) k = k x M := rfl
theorem bV_s {M : Mm} {k : Mm → Oo} : bV (some (none, M)) k = k M := rfl
theorem bM_d {α : Type} {M : Mm} {k : Mm → α} : bM M k = k M := rfl
theorem bX_d {α β : Type} {x : β} {k : β → α} : bX x k = k x := rfl
theorem b01_0 : ((0 : Int32) == 0 || (0 : Int32) == 1) = true := rfl
theorem b01_1 : ((1 : Int32) == 0 || (1 : Int32) == 1) = true := rfl
theorem okO_sI {M : Mm} {i k : Nat} {v : Int32} {r ci : Nat} : okO (sI M i k v) r ci = okO M r ci := rfl
theorem okO_sL {M : Mm} {i k : Nat} {v : Int64} {r ci : Nat} : okO (sL M i k v) r ci = okO M r ci := rfl
theorem okO_sZ {M : Mm} {i k : Nat} {v : Int32} {r ci : Nat} : okO (sZ M i k v) r ci = okO M r ci := rfl
theorem okO_cI {M : Mm} {a sp c dp n : Nat} {r ci : Nat} : okO (cI M a sp c dp n) r ci = okO M r ci := rfl
theorem okA_sI {M : Mm} {i k : Nat} {v : Int32} {r t : Nat} : okA (sI M i k v) r t = okA M r t := rfl
theorem okA_sL {M : Mm} {i k : Nat} {v : Int64} {r t : Nat} : okA (sL M i k v) r t = okA M r t := rfl
theorem okA_sZ {M : Mm} {i k : Nat} {v : Int32} {r t : Nat} : okA (sZ M i k v) r t = okA M r t := rfl
theorem okA_cI {M : Mm} {a sp c dp n : Nat} {r t : Nat} : okA (cI M a sp c dp n) r t = okA M r t := rfl
theorem rOK_sI {M : Mm} {i k : Nat} {v : Int32} {r t : Nat} {x : Int32} : rOK (sI M i k v) r t x = rOK M r t x := rfl
theorem rOK_sL {M : Mm} {i k : Nat} {v : Int64} {r t : Nat} {x : Int32} : rOK (sL M i k v) r t x = rOK M r t x := rfl
theorem rOK_sZ {M : Mm} {i k : Nat} {v : Int32} {r t : Nat} {x : Int32} : rOK (sZ M i k v) r t x = rOK M r t x := rfl
theorem rOK_cI {M : Mm} {a sp c dp n : Nat} {r t : Nat} {x : Int32} : rOK (cI M a sp c dp n) r t x = rOK M r t x := rfl
theorem wOK_sI {M : Mm} {i k : Nat} {v : Int32} {r t : Nat} {x : Int32} : wOK (sI M i k v) r t x = wOK M r t x := rfl
theorem wOK_sL {M : Mm} {i k : Nat} {v : Int64} {r t : Nat} {x : Int32} : wOK (sL M i k v) r t x = wOK M r t x := rfl
theorem wOK_sZ {M : Mm} {i k : Nat} {v : Int32} {r t : Nat} {x : Int32} : wOK (sZ M i k v) r t x = wOK M r t x := rfl
theorem wOK_cI {M : Mm} {a sp c dp n : Nat} {r t : Nat} {x : Int32} : wOK (cI M a sp c dp n) r t x = wOK M r t x := rfl
theorem rB_sI {M : Mm} {i k : Nat} {v : Int32} {r : Nat} {x : Int32} : rB (sI M i k v) r x = rB M r x := rfl
theorem rB_sL {M : Mm} {i k : Nat} {v : Int64} {r : Nat} {x : Int32} : rB (sL M i k v) r x = rB M r x := rfl
theorem rB_sZ {M : Mm} {i k : Nat} {v : Int32} {r : Nat} {x : Int32} : rB (sZ M i k v) r x = rB M r x := rfl
theorem rB_cI {M : Mm} {a sp c dp n : Nat} {r : Nat} {x : Int32} : rB (cI M a sp c dp n) r x = rB M r x := rfl
theorem wB_sI {M : Mm} {i k : Nat} {v : Int32} {r : Nat} {x : Int32} : wB (sI M i k v) r x = wB M r x := rfl
theorem wB_sL {M : Mm} {i k : Nat} {v : Int64} {r : Nat} {x : Int32} : wB (sL M i k v) r x = wB M r x := rfl
theorem wB_sZ {M : Mm} {i k : Nat} {v : Int32} {r : Nat} {x : Int32} : wB (sZ M i k v) r x = wB M r x := rfl
theorem wB_cI {M : Mm} {a sp c dp n : Nat} {r : Nat} {x : Int32} : wB (cI M a sp c dp n) r x = wB M r x := rfl
theorem rQ_sI {M : Mm} {i k : Nat} {v : Int32} {r : Nat} {x : Int32} : rQ (sI M i k v) r x = rQ M r x := rfl
theorem rQ_sL {M : Mm} {i k : Nat} {v : Int64} {r : Nat} {x : Int32} : rQ (sL M i k v) r x = rQ M r x := rfl
theorem rQ_sZ {M : Mm} {i k : Nat} {v : Int32} {r : Nat} {x : Int32} : rQ (sZ M i k v) r x = rQ M r x := rfl
theorem rQ_cI {M : Mm} {a sp c dp n : Nat} {r : Nat} {x : Int32} : rQ (cI M a sp c dp n) r x = rQ M r x := rfl
theorem okL_sI {M : Mm} {i k : Nat} {v : Int32} {r : Nat} : okL (sI M i k v) r = okL M r := rfl
theorem okL_sL {M : Mm} {i k : Nat} {v : Int64} {r : Nat} : okL (sL M i k v) r = okL M r := rfl
theorem okL_sZ {M : Mm} {i k : Nat} {v : Int32} {r : Nat} : okL (sZ M i k v) r = okL M r := rfl
theorem okL_cI {M : Mm} {a sp c dp n : Nat} {r : Nat} : okL (cI M a sp c dp n) r = okL M r := rfl
theorem gR_sZ {M : Mm} {i k : Nat} {v : Int32} : gR (sZ M i k v) = gR M := rfl
theorem gL_sZ {M : Mm} {i k : Nat} {v : Int32} : gL (sZ M i k v) = gL M := rfl
theorem gR_cI {M : Mm} {a sp c dp n : Nat} : gR (cI M a sp c dp n) = gR M := rfl
