/-! bits of sixteen counted -/
theorem zy_bcT0 : ∀ c, c < 8 → ∀ a, a < 256 → zr_bc (nI (a + 256 * (c + 0))) = zr_bc (nI a) + zr_bc (nI (c + 0)) := by decide +kernel
theorem zy_bcT1 : ∀ c, c < 8 → ∀ a, a < 256 → zr_bc (nI (a + 256 * (c + 8))) = zr_bc (nI a) + zr_bc (nI (c + 8)) := by decide +kernel
theorem zy_bcT2 : ∀ c, c < 8 → ∀ a, a < 256 → zr_bc (nI (a + 256 * (c + 16))) = zr_bc (nI a) + zr_bc (nI (c + 16)) := by decide +kernel
theorem zy_bcT3 : ∀ c, c < 8 → ∀ a, a < 256 → zr_bc (nI (a + 256 * (c + 24))) = zr_bc (nI a) + zr_bc (nI (c + 24)) := by decide +kernel
theorem zy_bcT4 : ∀ c, c < 8 → ∀ a, a < 256 → zr_bc (nI (a + 256 * (c + 32))) = zr_bc (nI a) + zr_bc (nI (c + 32)) := by decide +kernel
theorem zy_bcT5 : ∀ c, c < 8 → ∀ a, a < 256 → zr_bc (nI (a + 256 * (c + 40))) = zr_bc (nI a) + zr_bc (nI (c + 40)) := by decide +kernel
theorem zy_bcT6 : ∀ c, c < 8 → ∀ a, a < 256 → zr_bc (nI (a + 256 * (c + 48))) = zr_bc (nI a) + zr_bc (nI (c + 48)) := by decide +kernel
theorem zy_bcT7 : ∀ c, c < 8 → ∀ a, a < 256 → zr_bc (nI (a + 256 * (c + 56))) = zr_bc (nI a) + zr_bc (nI (c + 56)) := by decide +kernel
theorem zy_bcT8 : ∀ c, c < 8 → ∀ a, a < 256 → zr_bc (nI (a + 256 * (c + 64))) = zr_bc (nI a) + zr_bc (nI (c + 64)) := by decide +kernel
theorem zy_bcT9 : ∀ c, c < 8 → ∀ a, a < 256 → zr_bc (nI (a + 256 * (c + 72))) = zr_bc (nI a) + zr_bc (nI (c + 72)) := by decide +kernel
theorem zy_bcT10 : ∀ c, c < 8 → ∀ a, a < 256 → zr_bc (nI (a + 256 * (c + 80))) = zr_bc (nI a) + zr_bc (nI (c + 80)) := by decide +kernel
theorem zy_bcT11 : ∀ c, c < 8 → ∀ a, a < 256 → zr_bc (nI (a + 256 * (c + 88))) = zr_bc (nI a) + zr_bc (nI (c + 88)) := by decide +kernel
theorem zy_bcT12 : ∀ c, c < 8 → ∀ a, a < 256 → zr_bc (nI (a + 256 * (c + 96))) = zr_bc (nI a) + zr_bc (nI (c + 96)) := by decide +kernel
theorem zy_bcT13 : ∀ c, c < 8 → ∀ a, a < 256 → zr_bc (nI (a + 256 * (c + 104))) = zr_bc (nI a) + zr_bc (nI (c + 104)) := by decide +kernel
theorem zy_bcT14 : ∀ c, c < 8 → ∀ a, a < 256 → zr_bc (nI (a + 256 * (c + 112))) = zr_bc (nI a) + zr_bc (nI (c + 112)) := by decide +kernel
theorem zy_bcT15 : ∀ c, c < 8 → ∀ a, a < 256 → zr_bc (nI (a + 256 * (c + 120))) = zr_bc (nI a) + zr_bc (nI (c + 120)) := by decide +kernel
theorem zy_bcT16 : ∀ c, c < 8 → ∀ a, a < 256 → zr_bc (nI (a + 256 * (c + 128))) = zr_bc (nI a) + zr_bc (nI (c + 128)) := by decide +kernel
theorem zy_bcT17 : ∀ c, c < 8 → ∀ a, a < 256 → zr_bc (nI (a + 256 * (c + 136))) = zr_bc (nI a) + zr_bc (nI (c + 136)) := by decide +kernel
theorem zy_bcT18 : ∀ c, c < 8 → ∀ a, a < 256 → zr_bc (nI (a + 256 * (c + 144))) = zr_bc (nI a) + zr_bc (nI (c + 144)) := by decide +kernel
theorem zy_bcT19 : ∀ c, c < 8 → ∀ a, a < 256 → zr_bc (nI (a + 256 * (c + 152))) = zr_bc (nI a) + zr_bc (nI (c + 152)) := by decide +kernel
theorem zy_bcT20 : ∀ c, c < 8 → ∀ a, a < 256 → zr_bc (nI (a + 256 * (c + 160))) = zr_bc (nI a) + zr_bc (nI (c + 160)) := by decide +kernel
theorem zy_bcT21 : ∀ c, c < 8 → ∀ a, a < 256 → zr_bc (nI (a + 256 * (c + 168))) = zr_bc (nI a) + zr_bc (nI (c + 168)) := by decide +kernel
theorem zy_bcT22 : ∀ c, c < 8 → ∀ a, a < 256 → zr_bc (nI (a + 256 * (c + 176))) = zr_bc (nI a) + zr_bc (nI (c + 176)) := by decide +kernel
theorem zy_bcT23 : ∀ c, c < 8 → ∀ a, a < 256 → zr_bc (nI (a + 256 * (c + 184))) = zr_bc (nI a) + zr_bc (nI (c + 184)) := by decide +kernel
theorem zy_bcT24 : ∀ c, c < 8 → ∀ a, a < 256 → zr_bc (nI (a + 256 * (c + 192))) = zr_bc (nI a) + zr_bc (nI (c + 192)) := by decide +kernel
theorem zy_bcT25 : ∀ c, c < 8 → ∀ a, a < 256 → zr_bc (nI (a + 256 * (c + 200))) = zr_bc (nI a) + zr_bc (nI (c + 200)) := by decide +kernel
theorem zy_bcT26 : ∀ c, c < 8 → ∀ a, a < 256 → zr_bc (nI (a + 256 * (c + 208))) = zr_bc (nI a) + zr_bc (nI (c + 208)) := by decide +kernel
theorem zy_bcT27 : ∀ c, c < 8 → ∀ a, a < 256 → zr_bc (nI (a + 256 * (c + 216))) = zr_bc (nI a) + zr_bc (nI (c + 216)) := by decide +kernel
theorem zy_bcT28 : ∀ c, c < 8 → ∀ a, a < 256 → zr_bc (nI (a + 256 * (c + 224))) = zr_bc (nI a) + zr_bc (nI (c + 224)) := by decide +kernel
theorem zy_bcT29 : ∀ c, c < 8 → ∀ a, a < 256 → zr_bc (nI (a + 256 * (c + 232))) = zr_bc (nI a) + zr_bc (nI (c + 232)) := by decide +kernel
theorem zy_bcT30 : ∀ c, c < 8 → ∀ a, a < 256 → zr_bc (nI (a + 256 * (c + 240))) = zr_bc (nI a) + zr_bc (nI (c + 240)) := by decide +kernel
theorem zy_bcT31 : ∀ c, c < 8 → ∀ a, a < 256 → zr_bc (nI (a + 256 * (c + 248))) = zr_bc (nI a) + zr_bc (nI (c + 248)) := by decide +kernel
theorem zy_bcT {a b : Nat} (ha : a < 256) (hb : b < 256) : zr_bc (nI (a + 256 * b)) = zr_bc (nI a) + zr_bc (nI b) := by
  obtain ⟨k, c, hk, hc, rfl⟩ : ∃ k c, k < 32 ∧ c < 8 ∧ b = c + 8 * k := ⟨b / 8, b % 8, by omega, by omega, by omega⟩
  match k, hk with
  | 0, _ => exact zy_bcT0 c hc a ha
  | 1, _ => exact zy_bcT1 c hc a ha
  | 2, _ => exact zy_bcT2 c hc a ha
  | 3, _ => exact zy_bcT3 c hc a ha
  | 4, _ => exact zy_bcT4 c hc a ha
  | 5, _ => exact zy_bcT5 c hc a ha
  | 6, _ => exact zy_bcT6 c hc a ha
  | 7, _ => exact zy_bcT7 c hc a ha
  | 8, _ => exact zy_bcT8 c hc a ha
  | 9, _ => exact zy_bcT9 c hc a ha
  | 10, _ => exact zy_bcT10 c hc a ha
  | 11, _ => exact zy_bcT11 c hc a ha
  | 12, _ => exact zy_bcT12 c hc a ha
  | 13, _ => exact zy_bcT13 c hc a ha
  | 14, _ => exact zy_bcT14 c hc a ha
  | 15, _ => exact zy_bcT15 c hc a ha
  | 16, _ => exact zy_bcT16 c hc a ha
  | 17, _ => exact zy_bcT17 c hc a ha
  | 18, _ => exact zy_bcT18 c hc a ha
  | 19, _ => exact zy_bcT19 c hc a ha
  | 20, _ => exact zy_bcT20 c hc a ha
  | 21, _ => exact zy_bcT21 c hc a ha
  | 22, _ => exact zy_bcT22 c hc a ha
  | 23, _ => exact zy_bcT23 c hc a ha
  | 24, _ => exact zy_bcT24 c hc a ha
  | 25, _ => exact zy_bcT25 c hc a ha
  | 26, _ => exact zy_bcT26 c hc a ha
  | 27, _ => exact zy_bcT27 c hc a ha
  | 28, _ => exact zy_bcT28 c hc a ha
  | 29, _ => exact zy_bcT29 c hc a ha
  | 30, _ => exact zy_bcT30 c hc a ha
  | 31, _ => exact zy_bcT31 c hc a ha
  | n + 32, hk => exact absurd hk (by omega)
