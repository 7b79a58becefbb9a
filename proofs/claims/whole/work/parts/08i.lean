/-! ===== marks, lines, kinds: is it one ===== -/
theorem p10 {nm : Nat} (h : nm ≤ 10) : (2 : Nat) ^ nm ≤ 1024 ∧ 1 ≤ (2 : Nat) ^ nm := ⟨Nat.pow_le_pow_right (by omega) h, Nat.one_le_two_pow⟩
theorem c_hasBit {d : Nat} {M : Mm} {n i : Nat} (hn : n < 2 ^ 31) (hi : i < 31) : go (d + 1) 16 0 [.int (nI n), .int (nI i)] [] M = some (some (.int (b2i (n.testBit i))), M) := by
  have e : ((nI n >>> (nI i &&& 31)) &&& (1 : Int32)) = nI (n / 2 ^ i % 2) := by
    rw [pk_shrN hn (nI i &&& 31) i (s_l i (by omega)), show (1 : Int32) = nI (2 ^ 1 - 1) from rfl, fa_mask]
  rw [q16_0, e]
  have hb : n.testBit i = decide (n / 2 ^ i % 2 = 1) := Nat.testBit_eq_decide_div_mod_eq
  rcases (show n / 2 ^ i % 2 = 0 ∨ n / 2 ^ i % 2 = 1 by omega) with h | h
  · rw [h, if_pos (show nI 0 = 0 from rfl), hb, h]; rfl
  · rw [h, if_neg (by decide), hb, h]; rfl
theorem c_isMark {d : Nat} {M : Mm} {nm nl nn ver : Nat} (hG : Gd M) (hC : CNT M nm nl nn ver) (x : Int32) : go (d + 1) 17 0 [.ref 5, .int x] [] M = some (some (.int (b2i (inR nm x))), M) := by
  have o1 := ok_5 hG
  obtain ⟨c1, c2, c3, c4, c5, c6, c7, c8, c9, c10, c11, c12, c13⟩ := hC
  simp only [q17_0, o1, c1, if_true]
  rw [inR_c (n := nm) (by omega) rfl]; cases inR nm x <;> rfl
theorem c_isLine {d : Nat} {M : Mm} {nm nl nn ver : Nat} (hG : Gd M) (hC : CNT M nm nl nn ver) (x : Int32) : go (d + 1) 18 0 [.ref 5, .int x] [] M = some (some (.int (b2i (inR nn x))), M) := by
  have o1 := ok_5 hG
  obtain ⟨c1, c2, c3, c4, c5, c6, c7, c8, c9, c10, c11, c12, c13⟩ := hC
  simp only [q18_0, o1, c5, if_true]
  rw [inR_c (n := nn) (by omega) rfl]; cases inR nn x <;> rfl
theorem shl1m : ∀ m, m < 11 → ((1 : Int32) <<< (nI m &&& 31)) - (1 : Int32) = nI (2 ^ m - 1) := by decide +kernel
theorem c_allMarks {d : Nat} {M : Mm} {nm nl nn ver : Nat} (hG : Gd M) (hC : CNT M nm nl nn ver) : go (d + 1) 19 0 [.ref 5] [] M = some (some (.int (nI (2 ^ nm - 1))), M) := by
  have o1 := ok_5 hG
  obtain ⟨c1, c2, c3, c4, c5, c6, c7, c8, c9, c10, c11, c12, c13⟩ := hC
  simp only [q19_0, o1, c1, if_true, shl1m nm (by omega)]
theorem c_isKind {d : Nat} {M : Mm} {nm nl nn ver : Nat} (hG : Gd M) (hC : CNT M nm nl nn ver) (x : Int32) : go (d + 2) 20 0 [.ref 5, .int x] [] M = some (some (.int (b2i (inR (2 ^ nm) x))), M) := by
  have o1 := ok_5 hG
  have hn : nm ≤ 10 := hC.2.2.2.2.2.2.2.2.2.1
  simp only [q20_0, o1, if_true, c_allMarks hG hC, bI_s]
  cases h : inR (2 ^ nm) x with
  | true => rw [if_pos ((mask_k hn x).mpr h)]; rfl
  | false => rw [if_neg (fun z => by rw [(mask_k hn x).mp z] at h; cases h)]; rfl
theorem m_isKind {d : Nat} {M : Mm} {nm nl nn ver : Nat} (hG : Gd M) (hC : CNT M nm nl nn ver) (x : Int32) : go (d + 2) 189 0 [.ref 171, .int x] [] M = some (some (.int (b2i (inR (2 ^ nm) x))), M) := by
  have o1 := ok_171 hG
  obtain ⟨c1, c2, c3, c4, c5, c6, c7, c8, c9, c10, c11, c12, c13⟩ := hC
  have hp := p10 c10
  simp only [q189_0, o1, if_true, c9]
  rw [m_inR (n := 2 ^ nm) (subm1 (by omega)), bI_s, if_pos (b2i01 _)]
theorem m_isLine {d : Nat} {M : Mm} {nm nl nn ver : Nat} (hG : Gd M) (hC : CNT M nm nl nn ver) (x : Int32) : go (d + 2) 202 0 [.ref 171, .int x] [] M = some (some (.int (b2i (inR nn x))), M) := by
  have o1 := ok_171 hG
  obtain ⟨c1, c2, c3, c4, c5, c6, c7, c8, c9, c10, c11, c12, c13⟩ := hC
  simp only [q202_0, o1, if_true, c6]
  rw [m_inR (n := nn) (subm1 (by omega)), bI_s, if_pos (b2i01 _)]
theorem m_isMark {d : Nat} {M : Mm} {nm nl nn ver : Nat} (hG : Gd M) (hC : CNT M nm nl nn ver) (x : Int32) : go (d + 2) 214 0 [.ref 171, .int x] [] M = some (some (.int (b2i (inR nm x))), M) := by
  have o1 := ok_171 hG
  obtain ⟨c1, c2, c3, c4, c5, c6, c7, c8, c9, c10, c11, c12, c13⟩ := hC
  simp only [q214_0, o1, if_true, c2]
  rw [m_inR (n := nm) (subm1 (by omega)), bI_s, if_pos (b2i01 _)]
theorem c_isChoice {d : Nat} {M : Mm} {nm nl nn ver : Nat} (hG : Gd M) (hC : CNT M nm nl nn ver) (x y : Int32) : go (d + 3) 21 0 [.ref 5, .int x, .int y] [] M = some (some (.int (b2i (inR (2 ^ nm) x && inR (2 ^ nm) y && decide (x &&& y = 0)))), M) := by
  have o1 := ok_5 hG
  simp only [q21_0, o1, if_true, c_isKind hG hC, bI_s]
  cases inR (2 ^ nm) x <;> cases inR (2 ^ nm) y <;> by_cases h : x &&& y = 0 <;> simp [b2i, h]
theorem m_isChoice {d : Nat} {M : Mm} {nm nl nn ver : Nat} (hG : Gd M) (hC : CNT M nm nl nn ver) (x y : Int32) : go (d + 3) 195 0 [.ref 171, .int x, .int y] [] M = some (some (.int (b2i (inR (2 ^ nm) x && inR (2 ^ nm) y && decide (x &&& y = 0)))), M) := by
  have o1 := ok_171 hG
  simp only [q195_0, o1, if_true, m_isKind hG hC, bI_s]
  cases inR (2 ^ nm) x <;> cases inR (2 ^ nm) y <;> by_cases h : x &&& y = 0 <;> simp [b2i, h]
def isBd (nm : Nat) (k v b : Int32) : Bool := inR (2 ^ nm) k && inR 10 v && (decide (b = NONE) || inR 8 b)
theorem c_isBody {d : Nat} {M : Mm} {nm nl nn ver : Nat} (hG : Gd M) (hC : CNT M nm nl nn ver) (x y z : Int32) : go (d + 3) 151 0 [.ref 1, .int x, .int y, .int z] [] M = some (some (.int (b2i (isBd nm x y z))), M) := by
  have o1 := ok_1 hG
  have o2 := ok_5 hG
  have r1 := gr_1_2 hG
  simp only [q151_0, o1, r1, o2, if_true, c_isKind hG hC, bI_s, c_isVersion, c_isBuyer, isBd]
  cases inR (2 ^ nm) x <;> cases inR 10 y <;> cases inR 8 z <;> by_cases h : z = NONE <;> simp [b2i, h]
theorem m_isBody {d : Nat} {M : Mm} {nm nl nn ver : Nat} (hG : Gd M) (hC : CNT M nm nl nn ver) (x y z : Int32) : go (d + 3) 208 0 [.ref 171, .int x, .int y, .int z] [] M = some (some (.int (b2i (isBd nm x y z))), M) := by
  have o1 := ok_171 hG
  simp only [q208_0, o1, if_true, m_isKind hG hC, bI_s, m_isVersion, m_isBuyer, isBd]
  cases inR (2 ^ nm) x <;> cases inR 10 y <;> cases inR 8 z <;> by_cases h : z = NONE <;> simp [b2i, h]
