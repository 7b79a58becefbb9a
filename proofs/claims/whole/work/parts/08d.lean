/-! ===== how many bits ===== -/
theorem land_dig {s a d c m : Nat} (hd : d < 2 ^ s) (hm : m < 2 ^ s) : (2 ^ s * a + d) &&& (2 ^ s * c + m) = 2 ^ s * (a &&& c) + (d &&& m) := by
  have hdm : d &&& m < 2 ^ s := Nat.lt_of_le_of_lt Nat.and_le_left hd
  apply Nat.eq_of_testBit_eq
  intro i
  rw [Nat.testBit_and, Nat.testBit_two_pow_mul_add _ hd, Nat.testBit_two_pow_mul_add _ hm, Nat.testBit_two_pow_mul_add _ hdm]
  split <;> simp [Nat.testBit_and]
theorem land_256 {a d c m : Nat} (hd : d < 256) (hm : m < 256) : (256 * a + d) &&& (256 * c + m) = 256 * (a &&& c) + (d &&& m) := land_dig (s := 8) hd hm
def mk8 (b : Nat) : Nat → Nat
  | 0 => 0
  | n + 1 => 256 * mk8 b n + b
def pc1 (n x : Nat) : Nat := x - (x / 2 &&& mk8 0x55 n)
def pc2 (n x : Nat) : Nat := (x &&& mk8 0x33 n) + (x / 4 &&& mk8 0x33 n)
def pc3 (n x : Nat) : Nat := (x + x / 16) &&& mk8 0x0f n
def pb (r : Nat) : Nat := fb_ct (fun i => r.testBit i) 8
def p1b (r : Nat) : Nat := r - (r / 2 &&& 0x55)
def p2b (r : Nat) : Nat := (r &&& 0x33) + (r / 4 &&& 0x33)
theorem d1 : ∀ c, c < 2 → ∀ t, t < 128 → (128 * c + t) &&& 0x55 = t &&& 0x55 := by decide +kernel
theorem d2 : ∀ c, c < 4 → ∀ t, t < 64 → (64 * c + t) &&& 0x33 = t &&& 0x33 := by decide +kernel
theorem d3 : ∀ r, r < 256 → p1b r < 256 ∧ (r / 2 &&& 0x55) ≤ r ∧ p2b (p1b r) % 16 ≤ 4 ∧ p2b (p1b r) ≤ 0x44 := by decide +kernel
theorem d4 : ∀ c, c < 5 → ∀ r, r < 256 → (p2b (p1b r) + p2b (p1b r) / 16 + 16 * c) &&& 0x0f = pb r := by decide +kernel
theorem d5 : ∀ r, r < 256 → pb r ≤ 8 := by decide +kernel
theorem pc1_s (n q r : Nat) (hr : r < 256) : pc1 (n + 1) (256 * q + r) = 256 * pc1 n q + p1b r ∧ (q / 2 &&& mk8 0x55 n) ≤ q := by
  have h1 : (256 * q + r) / 2 = 256 * (q / 2) + (128 * (q % 2) + r / 2) := by omega
  have h2 := d1 (q % 2) (by omega) (r / 2) (by omega)
  have h3 : (q / 2 &&& mk8 0x55 n) ≤ q := Nat.le_trans Nat.and_le_left (by omega)
  have h4 := (d3 r hr).2.1
  refine ⟨?_, h3⟩
  unfold pc1 p1b
  rw [h1, show mk8 0x55 (n + 1) = 256 * mk8 0x55 n + 0x55 from rfl, land_256 (by omega) (by omega), h2]
  omega
theorem pc2_s (n q r : Nat) (hr : r < 256) : pc2 (n + 1) (256 * q + r) = 256 * pc2 n q + p2b r := by
  have h1 : (256 * q + r) / 4 = 256 * (q / 4) + (64 * (q % 4) + r / 4) := by omega
  have h2 := d2 (q % 4) (by omega) (r / 4) (by omega)
  unfold pc2 p2b
  rw [h1, show mk8 0x33 (n + 1) = 256 * mk8 0x33 n + 0x33 from rfl, land_256 hr (by omega), land_256 (by omega) (by omega), h2]
  omega
/-- the bytes' counts, one behind another -/
def pcs : Nat → Nat → Nat
  | 0, _ => 0
  | n + 1, x => 256 * pcs n (x / 256) + pb (x % 256)
theorem pc12_mod : ∀ n x, pc2 n (pc1 n x) % 16 ≤ 4
  | 0, x => by simp [pc2, mk8]
  | n + 1, x => by
    have hx : x = 256 * (x / 256) + x % 256 := by omega
    have hr : x % 256 < 256 := by omega
    rw [hx, (pc1_s n _ _ hr).1, pc2_s n _ _ (d3 _ hr).1]
    have := (d3 _ hr).2.2.1
    omega
theorem pc3_all : ∀ n x, pc3 n (pc2 n (pc1 n x)) = pcs n x
  | 0, x => by simp [pc3, mk8, pcs]
  | n + 1, x => by
    have hx : x = 256 * (x / 256) + x % 256 := by omega
    have hr : x % 256 < 256 := by omega
    have ih := pc3_all n (x / 256)
    have hm := pc12_mod n (x / 256)
    obtain ⟨g1, -, g2, g3⟩ := d3 _ hr
    show _ = 256 * pcs n (x / 256) + pb (x % 256)
    rw [← ih]
    conv => lhs; rw [hx]
    rw [(pc1_s n _ _ hr).1, pc2_s n _ _ g1]
    generalize hz : pc2 n (pc1 n (x / 256)) = z at hm ⊢
    have h4 := d4 (z % 16) (by omega) _ hr
    unfold pc3
    have e1 : 256 * z + p2b (p1b (x % 256)) + (256 * z + p2b (p1b (x % 256))) / 16 = 256 * (z + z / 16) + (p2b (p1b (x % 256)) + p2b (p1b (x % 256)) / 16 + 16 * (z % 16)) := by omega
    rw [e1, show mk8 0x0f (n + 1) = 256 * mk8 0x0f n + 0x0f from rfl, land_256 (by omega) (by omega), h4]
def psum : Nat → Nat → Nat
  | 0, _ => 0
  | n + 1, x => psum n (x / 256) + pb (x % 256)
theorem psum_ct : ∀ n x, fb_ct (fun i => x.testBit i) (8 * n) = psum n x
  | 0, _ => rfl
  | n + 1, x => by
    have ih := psum_ct n (x / 256)
    rw [show 8 * (n + 1) = 8 + 8 * n by omega, fb_ct_split]
    show _ = psum n (x / 256) + pb (x % 256)
    rw [← ih, Nat.add_comm]
    congr 1
    · apply fb_ct_cong
      intro k _
      rw [show (256 : Nat) = 2 ^ 8 from rfl, ← Nat.shiftRight_eq_div_pow, Nat.testBit_shiftRight]
    · unfold pb
      apply fb_ct_cong
      intro k hk
      rw [show (256 : Nat) = 2 ^ 8 from rfl, Nat.testBit_mod_two_pow]
      simp [hk]
theorem pb8 (x : Nat) : pb (x % 256) ≤ 8 := d5 _ (by omega)
theorem mk55 : mk8 0x55 8 = 6148914691236517205 := by decide +kernel
theorem mk33 : mk8 0x33 8 = 3689348814741910323 := by decide +kernel
theorem mk0f : mk8 0x0f 8 = 1085102592571150095 := by decide +kernel
theorem mk55i : mk8 0x55 4 = 1431655765 := by decide +kernel
theorem mk33i : mk8 0x33 4 = 858993459 := by decide +kernel
theorem mk0fi : mk8 0x0f 4 = 252645135 := by decide +kernel
theorem dvC {H L : Nat} (h : L < 256) : (256 * H + L) / 256 = H := by omega
theorem dvA {H L : Nat} (h : L < 65536) : (65536 * H + L) / 65536 = H := by omega
theorem dvB {H L : Nat} (h : L < 4294967296) : (4294967296 * H + L) / 4294967296 = H := by omega
theorem mdC {K s : Nat} (h : s < 128) : (256 * K + s) % 128 = s := by omega
theorem mdD {K s : Nat} : (256 * K + s) % 64 = s % 64 := by omega
theorem f64a (p0 p1 p2 p3 p4 p5 p6 p7 : Nat) : 256 * (256 * (256 * (256 * (256 * (256 * (256 * (256 * 0 + p7) + p6) + p5) + p4) + p3) + p2) + p1) + p0 = 256 * (p1 + 256 * p2 + 65536 * p3 + 16777216 * p4 + 4294967296 * p5 + 1099511627776 * p6 + 281474976710656 * p7) + p0 := by omega
theorem f64b (p0 p1 p2 p3 p4 p5 p6 p7 : Nat) : 256 * (p1 + 256 * p2 + 65536 * p3 + 16777216 * p4 + 4294967296 * p5 + 1099511627776 * p6 + 281474976710656 * p7) + p0 + (p1 + 256 * p2 + 65536 * p3 + 16777216 * p4 + 4294967296 * p5 + 1099511627776 * p6 + 281474976710656 * p7) = 65536 * ((p2 + p3) + 256 * (p3 + p4) + 65536 * (p4 + p5) + 16777216 * (p5 + p6) + 4294967296 * (p6 + p7) + 1099511627776 * p7) + ((p0 + p1) + 256 * (p1 + p2)) := by omega
theorem f64c (p0 p1 p2 p3 p4 p5 p6 p7 : Nat) : 65536 * ((p2 + p3) + 256 * (p3 + p4) + 65536 * (p4 + p5) + 16777216 * (p5 + p6) + 4294967296 * (p6 + p7) + 1099511627776 * p7) + ((p0 + p1) + 256 * (p1 + p2)) + ((p2 + p3) + 256 * (p3 + p4) + 65536 * (p4 + p5) + 16777216 * (p5 + p6) + 4294967296 * (p6 + p7) + 1099511627776 * p7) = 4294967296 * ((p4 + p5 + p6 + p7) + 256 * (p5 + p6 + p7) + 65536 * (p6 + p7) + 16777216 * p7) + ((p0 + p1 + p2 + p3) + 256 * (p1 + p2 + p3 + p4) + 65536 * (p2 + p3 + p4 + p5) + 16777216 * (p3 + p4 + p5 + p6)) := by omega
theorem f64d (p0 p1 p2 p3 p4 p5 p6 p7 : Nat) : 4294967296 * ((p4 + p5 + p6 + p7) + 256 * (p5 + p6 + p7) + 65536 * (p6 + p7) + 16777216 * p7) + ((p0 + p1 + p2 + p3) + 256 * (p1 + p2 + p3 + p4) + 65536 * (p2 + p3 + p4 + p5) + 16777216 * (p3 + p4 + p5 + p6)) + ((p4 + p5 + p6 + p7) + 256 * (p5 + p6 + p7) + 65536 * (p6 + p7) + 16777216 * p7) = 256 * ((p1 + p2 + p3 + p4 + (p5 + p6 + p7)) + 256 * (p2 + p3 + p4 + p5 + (p6 + p7)) + 65536 * (p3 + p4 + p5 + p6 + p7) + 16777216 * (p4 + p5 + p6 + p7) + 4294967296 * (p5 + p6 + p7) + 1099511627776 * (p6 + p7) + 281474976710656 * p7) + (0 + p7 + p6 + p5 + p4 + p3 + p2 + p1 + p0) := by omega
theorem f64l5 (p0 p1 p2 p3 p4 p5 p6 : Nat) (h0 : p0 ≤ 8) (h1 : p1 ≤ 8) (h2 : p2 ≤ 8) (h3 : p3 ≤ 8) (h4 : p4 ≤ 8) (h5 : p5 ≤ 8) (h6 : p6 ≤ 8) : ((p0 + p1 + p2 + p3) + 256 * (p1 + p2 + p3 + p4) + 65536 * (p2 + p3 + p4 + p5) + 16777216 * (p3 + p4 + p5 + p6)) < 4294967296 := by omega
theorem f64s (p0 p1 p2 p3 p4 p5 p6 p7 : Nat) (h0 : p0 ≤ 8) (h1 : p1 ≤ 8) (h2 : p2 ≤ 8) (h3 : p3 ≤ 8) (h4 : p4 ≤ 8) (h5 : p5 ≤ 8) (h6 : p6 ≤ 8) (h7 : p7 ≤ 8) : (0 + p7 + p6 + p5 + p4 + p3 + p2 + p1 + p0) ≤ 64 := by omega
theorem f64x (p0 p1 p2 p3 p4 p5 p6 p7 : Nat) (h0 : p0 ≤ 8) (h1 : p1 ≤ 8) (h2 : p2 ≤ 8) (h3 : p3 ≤ 8) (h4 : p4 ≤ 8) (h5 : p5 ≤ 8) (h6 : p6 ≤ 8) (h7 : p7 ≤ 8) : 256 * ((p1 + p2 + p3 + p4 + (p5 + p6 + p7)) + 256 * (p2 + p3 + p4 + p5 + (p6 + p7)) + 65536 * (p3 + p4 + p5 + p6 + p7) + 16777216 * (p4 + p5 + p6 + p7) + 4294967296 * (p5 + p6 + p7) + 1099511627776 * (p6 + p7) + 281474976710656 * p7) + (0 + p7 + p6 + p5 + p4 + p3 + p2 + p1 + p0) < 2 ^ 61 := by omega
theorem fold64p {z s : Nat} (p0 p1 p2 p3 p4 p5 p6 p7 : Nat) (h0 : p0 ≤ 8) (h1 : p1 ≤ 8) (h2 : p2 ≤ 8) (h3 : p3 ≤ 8) (h4 : p4 ≤ 8) (h5 : p5 ≤ 8) (h6 : p6 ≤ 8) (h7 : p7 ≤ 8) (hz : z = 256 * (256 * (256 * (256 * (256 * (256 * (256 * (256 * 0 + p7) + p6) + p5) + p4) + p3) + p2) + p1) + p0) (hs : s = (0 + p7 + p6 + p5 + p4 + p3 + p2 + p1 + p0)) : z < 2 ^ 61 ∧ z + z / 256 < 2 ^ 62 ∧ z + z / 256 + (z + z / 256) / 65536 < 2 ^ 63 ∧ z + z / 256 + (z + z / 256) / 65536 + (z + z / 256 + (z + z / 256) / 65536) / 4294967296 < 2 ^ 64 ∧ (z + z / 256 + (z + z / 256) / 65536 + (z + z / 256 + (z + z / 256) / 65536) / 4294967296) % 128 = s ∧ s ≤ 64 := by
  have l4 : ((p0 + p1) + 256 * (p1 + p2)) < 65536 := by clear hz hs; omega
  have e4 : z / 256 = (p1 + 256 * p2 + 65536 * p3 + 16777216 * p4 + 4294967296 * p5 + 1099511627776 * p6 + 281474976710656 * p7) := by rw [hz, f64a]; exact dvC (Nat.lt_of_le_of_lt h0 (by decide))
  have z4e : z + z / 256 = 65536 * ((p2 + p3) + 256 * (p3 + p4) + 65536 * (p4 + p5) + 16777216 * (p5 + p6) + 4294967296 * (p6 + p7) + 1099511627776 * p7) + ((p0 + p1) + 256 * (p1 + p2)) := by rw [e4, hz, f64a, f64b]
  have e5 : (z + z / 256) / 65536 = ((p2 + p3) + 256 * (p3 + p4) + 65536 * (p4 + p5) + 16777216 * (p5 + p6) + 4294967296 * (p6 + p7) + 1099511627776 * p7) := by rw [z4e]; exact dvA l4
  have z5e : z + z / 256 + (z + z / 256) / 65536 = 4294967296 * ((p4 + p5 + p6 + p7) + 256 * (p5 + p6 + p7) + 65536 * (p6 + p7) + 16777216 * p7) + ((p0 + p1 + p2 + p3) + 256 * (p1 + p2 + p3 + p4) + 65536 * (p2 + p3 + p4 + p5) + 16777216 * (p3 + p4 + p5 + p6)) := by rw [e5, z4e, f64c]
  have e6 : (z + z / 256 + (z + z / 256) / 65536) / 4294967296 = ((p4 + p5 + p6 + p7) + 256 * (p5 + p6 + p7) + 65536 * (p6 + p7) + 16777216 * p7) := by rw [z5e]; exact dvB (f64l5 _ _ _ _ _ _ _ h0 h1 h2 h3 h4 h5 h6)
  have z6e : z + z / 256 + (z + z / 256) / 65536 + (z + z / 256 + (z + z / 256) / 65536) / 4294967296 = 256 * ((p1 + p2 + p3 + p4 + (p5 + p6 + p7)) + 256 * (p2 + p3 + p4 + p5 + (p6 + p7)) + 65536 * (p3 + p4 + p5 + p6 + p7) + 16777216 * (p4 + p5 + p6 + p7) + 4294967296 * (p5 + p6 + p7) + 1099511627776 * (p6 + p7) + 281474976710656 * p7) + s := by rw [e6, z5e, f64d, hs]
  have s64 : s ≤ 64 := hs ▸ f64s p0 p1 p2 p3 p4 p5 p6 p7 h0 h1 h2 h3 h4 h5 h6 h7
  have x61 := f64x p0 p1 p2 p3 p4 p5 p6 p7 h0 h1 h2 h3 h4 h5 h6 h7
  rw [← hs] at x61
  have b1 : z ≤ z + z / 256 := Nat.le_add_right _ _
  have b2 : z + z / 256 ≤ z + z / 256 + (z + z / 256) / 65536 := Nat.le_add_right _ _
  have b3 : z + z / 256 + (z + z / 256) / 65536 ≤ z + z / 256 + (z + z / 256) / 65536 + (z + z / 256 + (z + z / 256) / 65536) / 4294967296 := Nat.le_add_right _ _
  rw [← z6e] at x61
  have c1 := Nat.lt_of_le_of_lt b3 x61
  have c2 := Nat.lt_of_le_of_lt b2 c1
  have c3 := Nat.lt_of_le_of_lt b1 c2
  refine ⟨c3, Nat.lt_trans c2 (by decide), Nat.lt_trans c1 (by decide), Nat.lt_trans x61 (by decide), ?_, s64⟩
  rw [z6e]
  exact mdC (Nat.lt_of_le_of_lt s64 (by decide))
theorem fold64 (x : Nat) : pcs 8 x < 2 ^ 61 ∧ pcs 8 x + pcs 8 x / 256 < 2 ^ 62 ∧ pcs 8 x + pcs 8 x / 256 + (pcs 8 x + pcs 8 x / 256) / 65536 < 2 ^ 63 ∧ pcs 8 x + pcs 8 x / 256 + (pcs 8 x + pcs 8 x / 256) / 65536 + (pcs 8 x + pcs 8 x / 256 + (pcs 8 x + pcs 8 x / 256) / 65536) / 4294967296 < 2 ^ 64 ∧ (pcs 8 x + pcs 8 x / 256 + (pcs 8 x + pcs 8 x / 256) / 65536 + (pcs 8 x + pcs 8 x / 256 + (pcs 8 x + pcs 8 x / 256) / 65536) / 4294967296) % 128 = psum 8 x ∧ psum 8 x ≤ 64 :=
  fold64p _ _ _ _ _ _ _ _ (pb8 x) (pb8 (x / 256)) (pb8 (x / 256 / 256)) (pb8 (x / 256 / 256 / 256)) (pb8 (x / 256 / 256 / 256 / 256)) (pb8 (x / 256 / 256 / 256 / 256 / 256)) (pb8 (x / 256 / 256 / 256 / 256 / 256 / 256)) (pb8 (x / 256 / 256 / 256 / 256 / 256 / 256 / 256)) rfl rfl
theorem fold32p {z s p0 p1 p2 p3 : Nat} (h0 : p0 ≤ 8) (h1 : p1 ≤ 8) (h2 : p2 ≤ 8) (h3 : p3 ≤ 8) (hz : z = 256 * (256 * (256 * (256 * 0 + p3) + p2) + p1) + p0) (hs : s = 0 + p3 + p2 + p1 + p0) : z < 2 ^ 29 ∧ z + z / 256 < 2 ^ 30 ∧ z + z / 256 + (z + z / 256) / 65536 < 2 ^ 31 ∧ (z + z / 256 + (z + z / 256) / 65536) % 64 = s % 64 ∧ s ≤ 32 := by
  have s32 : s ≤ 32 := by clear hz; omega
  have b0 : z < 2 ^ 29 := by clear hs; omega
  have e4 : z / 256 = p1 + 256 * p2 + 65536 * p3 := by
    rw [show z = 256 * (p1 + 256 * p2 + 65536 * p3) + p0 by rw [hz]; clear hz hs b0 s32; omega]
    exact dvC (Nat.lt_of_le_of_lt h0 (by decide))
  have z4e : z + z / 256 = 65536 * ((p2 + p3) + 256 * p3) + ((p0 + p1) + 256 * (p1 + p2)) := by rw [e4, hz]; clear e4 hz hs b0 s32; omega
  have e5 : (z + z / 256) / 65536 = (p2 + p3) + 256 * p3 := by rw [z4e]; exact dvA (by clear e4 hz hs b0 s32 z4e; omega)
  have z5e : z + z / 256 + (z + z / 256) / 65536 = 256 * ((p1 + p2 + p3) + 256 * (p2 + p3) + 65536 * p3) + s := by rw [e5, z4e, hs]; clear e5 z4e e4 hz hs b0 s32; omega
  have x1 : 256 * ((p1 + p2 + p3) + 256 * (p2 + p3) + 65536 * p3) + s < 2 ^ 30 := by clear z5e e5 z4e e4 hz hs b0; omega
  rw [← z5e] at x1
  have b2 : z + z / 256 ≤ z + z / 256 + (z + z / 256) / 65536 := Nat.le_add_right _ _
  refine ⟨b0, Nat.lt_of_le_of_lt b2 x1, Nat.lt_trans x1 (by decide), ?_, s32⟩
  rw [z5e]; exact mdD
theorem fold32 (x : Nat) : pcs 4 x < 2 ^ 29 ∧ pcs 4 x + pcs 4 x / 256 < 2 ^ 30 ∧ pcs 4 x + pcs 4 x / 256 + (pcs 4 x + pcs 4 x / 256) / 65536 < 2 ^ 31 ∧ (pcs 4 x + pcs 4 x / 256 + (pcs 4 x + pcs 4 x / 256) / 65536) % 64 = psum 4 x % 64 ∧ psum 4 x ≤ 32 :=
  fold32p (pb8 x) (pb8 (x / 256)) (pb8 (x / 256 / 256)) (pb8 (x / 256 / 256 / 256)) rfl rfl
theorem sh64 (k : Nat) (hk : k < 64) : ((nI k).toInt64.toUInt64 &&& Int64.toUInt64 63) = UInt64.ofNat k := wb_cu k hk
theorem land_lt64 {a b : Nat} (h : b < 2 ^ 64) : a &&& b < 2 ^ 64 := Nat.lt_of_le_of_lt Nat.and_le_right h
theorem bitCountL {d : Nat} {M : Mm} (x : Nat) (hx : x < 2 ^ 64) : go (d + 1) 239 0 [.long (lN x), .null] [] M = some (some (.int (nI (fb_ct (fun i => x.testBit i) 64))), M) := by
  rw [q239_0]
  simp only [bX_d]
  have s1 : ∀ n, n < 2 ^ 64 → ((lN n).toUInt64 >>> ((1 : Int32).toInt64.toUInt64 &&& Int64.toUInt64 63)).toInt64 = lN (n / 2) := fun n h => wb_shr (k := 1) h (by omega)
  have s2 : ∀ n, n < 2 ^ 64 → ((lN n).toUInt64 >>> ((2 : Int32).toInt64.toUInt64 &&& Int64.toUInt64 63)).toInt64 = lN (n / 4) := fun n h => wb_shr (k := 2) h (by omega)
  have s4 : ∀ n, n < 2 ^ 64 → ((lN n).toUInt64 >>> ((4 : Int32).toInt64.toUInt64 &&& Int64.toUInt64 63)).toInt64 = lN (n / 16) := fun n h => wb_shr (k := 4) h (by omega)
  have s8 : ∀ n, n < 2 ^ 64 → ((lN n).toUInt64 >>> ((8 : Int32).toInt64.toUInt64 &&& Int64.toUInt64 63)).toInt64 = lN (n / 256) := fun n h => wb_shr (k := 8) h (by omega)
  have s16 : ∀ n, n < 2 ^ 64 → ((lN n).toUInt64 >>> ((16 : Int32).toInt64.toUInt64 &&& Int64.toUInt64 63)).toInt64 = lN (n / 65536) := fun n h => wb_shr (k := 16) h (by omega)
  have s32 : ∀ n, n < 2 ^ 64 → ((lN n).toUInt64 >>> ((32 : Int32).toInt64.toUInt64 &&& Int64.toUInt64 63)).toInt64 = lN (n / 4294967296) := fun n h => wb_shr (k := 32) h (by omega)
  have m5 : (6148914691236517205 : Int64) = lN (mk8 0x55 8) := by rw [mk55]; rfl
  have m3 : (3689348814741910323 : Int64) = lN (mk8 0x33 8) := by rw [mk33]; rfl
  have m0 : (1085102592571150095 : Int64) = lN (mk8 0x0f 8) := by rw [mk0f]; rfl
  have l5 : mk8 0x55 8 < 2 ^ 64 := by rw [mk55]; omega
  have l3 : mk8 0x33 8 < 2 ^ 63 := by rw [mk33]; omega
  have l0 : mk8 0x0f 8 < 2 ^ 62 := by rw [mk0f]; omega
  have a1 : x / 2 &&& mk8 0x55 8 ≤ x := Nat.le_trans Nat.and_le_left (by omega)
  have z1 : lN x - (lN (x / 2) &&& lN (mk8 0x55 8)) = lN (pc1 8 x) := by rw [wb_and (by omega) l5, lN_sub a1]; rfl
  have b1 : pc1 8 x < 2 ^ 64 := by unfold pc1; omega
  have z2 : (lN (pc1 8 x) &&& lN (mk8 0x33 8)) + (lN (pc1 8 x / 4) &&& lN (mk8 0x33 8)) = lN (pc2 8 (pc1 8 x)) := by rw [wb_and b1 (by omega), wb_and (by omega) (by omega), lN_add]; rfl
  have b2 : pc2 8 (pc1 8 x) < 2 ^ 64 := by
    unfold pc2
    have q1 : pc1 8 x &&& mk8 0x33 8 ≤ mk8 0x33 8 := Nat.and_le_right
    have q2 : pc1 8 x / 4 &&& mk8 0x33 8 ≤ mk8 0x33 8 := Nat.and_le_right
    omega
  obtain ⟨f1, f2, f3, f4, f5, f6⟩ := fold64 x
  have z3 : (lN (pc2 8 (pc1 8 x)) + lN (pc2 8 (pc1 8 x) / 16)) &&& lN (mk8 0x0f 8) = lN (pcs 8 x) := by
    rw [lN_add, ← pc3_all 8 x]
    unfold pc3
    exact fb_andL _ _
  rw [s1 x hx, m5, z1, s2 _ b1, m3, z2, s4 _ b2, m0, z3, s8 _ (by omega), lN_add, s16 _ (by omega), lN_add, s32 _ (by omega), lN_add, lN_i, psum_ct 8 x] 
  rw [show (127 : Int32) = nI (2 ^ 7 - 1) from rfl, fa_mask]
  rw [show (2 : Nat) ^ 7 = 128 from rfl, f5]
theorem bitCountI {d : Nat} {M : Mm} (x : Nat) (hx : x < 2 ^ 31) : go (d + 1) 238 0 [.int (nI x)] [] M = some (some (.int (nI (fb_ct (fun i => x.testBit i) 32))), M) := by
  rw [q238_0]
  simp only [bX_d]
  have sh : ∀ k, k < 32 → ∀ n, n < 2 ^ 32 → ((nI n).toUInt32 >>> ((nI k).toUInt32 &&& Int32.toUInt32 31)).toInt32 = nI (n / 2 ^ k) := fun k hk n hn => pk_ushrN hn (nI k) k (nf_sl k hk)
  have s1 : ∀ n, n < 2 ^ 32 → ((nI n).toUInt32 >>> ((1 : Int32).toUInt32 &&& Int32.toUInt32 31)).toInt32 = nI (n / 2) := fun n h => sh 1 (by omega) n h
  have s2 : ∀ n, n < 2 ^ 32 → ((nI n).toUInt32 >>> ((2 : Int32).toUInt32 &&& Int32.toUInt32 31)).toInt32 = nI (n / 4) := fun n h => sh 2 (by omega) n h
  have s4 : ∀ n, n < 2 ^ 32 → ((nI n).toUInt32 >>> ((4 : Int32).toUInt32 &&& Int32.toUInt32 31)).toInt32 = nI (n / 16) := fun n h => sh 4 (by omega) n h
  have s8 : ∀ n, n < 2 ^ 32 → ((nI n).toUInt32 >>> ((8 : Int32).toUInt32 &&& Int32.toUInt32 31)).toInt32 = nI (n / 256) := fun n h => sh 8 (by omega) n h
  have s16 : ∀ n, n < 2 ^ 32 → ((nI n).toUInt32 >>> ((16 : Int32).toUInt32 &&& Int32.toUInt32 31)).toInt32 = nI (n / 65536) := fun n h => sh 16 (by omega) n h
  have m5 : (1431655765 : Int32) = nI (mk8 0x55 4) := by rw [mk55i]; rfl
  have m3 : (858993459 : Int32) = nI (mk8 0x33 4) := by rw [mk33i]; rfl
  have m0 : (252645135 : Int32) = nI (mk8 0x0f 4) := by rw [mk0fi]; rfl
  have l3 : mk8 0x33 4 < 2 ^ 30 := by rw [mk33i]; omega
  have a1 : x / 2 &&& mk8 0x55 4 ≤ x := Nat.le_trans Nat.and_le_left (by omega)
  have z1 : nI x - (nI (x / 2) &&& nI (mk8 0x55 4)) = nI (pc1 4 x) := by rw [fa_and, pk_sub a1]; rfl
  have b1 : pc1 4 x < 2 ^ 32 := by unfold pc1; omega
  have z2 : (nI (pc1 4 x) &&& nI (mk8 0x33 4)) + (nI (pc1 4 x / 4) &&& nI (mk8 0x33 4)) = nI (pc2 4 (pc1 4 x)) := by rw [fa_and, fa_and, nI_add]; rfl
  have b2 : pc2 4 (pc1 4 x) < 2 ^ 32 := by
    unfold pc2
    have q1 : pc1 4 x &&& mk8 0x33 4 ≤ mk8 0x33 4 := Nat.and_le_right
    have q2 : pc1 4 x / 4 &&& mk8 0x33 4 ≤ mk8 0x33 4 := Nat.and_le_right
    omega
  obtain ⟨f1, f2, f3, f4, f5⟩ := fold32 x
  have z3 : (nI (pc2 4 (pc1 4 x)) + nI (pc2 4 (pc1 4 x) / 16)) &&& nI (mk8 0x0f 4) = nI (pcs 4 x) := by
    rw [nI_add, ← pc3_all 4 x]
    unfold pc3
    exact fa_and _ _
  rw [s1 x (by omega), m5, z1, s2 _ b1, m3, z2, s4 _ b2, m0, z3, s8 _ (by omega), nI_add, s16 _ (by omega), nI_add, psum_ct 4 x]
  rw [show (63 : Int32) = nI (2 ^ 6 - 1) from rfl, fa_mask]
  rw [show (2 : Nat) ^ 6 = 64 from rfl, f4, Nat.mod_eq_of_lt (by omega)]
