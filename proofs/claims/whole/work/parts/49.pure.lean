/-! every call; every script -/
theorem law_any {L B i n : Nat} {xs : Nat → Int32} {x : XS} {y : MS} (hL : L ≤ 3072) (hi : i + 6 ≤ L) (h9 : 9 ≤ B) (hB : B ≤ 1546) (hr : r_S B x y) (ih : ∀ x' y', r_S (B + 3) x' y' → f_law L xs n (nI (i + 6)) x' y' = some 1) : f_law L xs (n + 1) (nI i) x y = some 1 := by
  obtain ⟨w, hw, hx⟩ := pk_andE (xs i) (m := 31) 5 (by decide)
  by_cases h : w < 24
  · rcases (show w = 0 ∨ w = 1 ∨ w = 2 ∨ w = 3 ∨ w = 4 ∨ w = 5 ∨ w = 6 ∨ w = 7 ∨ w = 8 ∨ w = 9 ∨ w = 10 ∨ w = 11 ∨ w = 12 ∨ w = 13 ∨ w = 14 ∨ w = 15 ∨ w = 16 ∨ w = 17 ∨ w = 18 ∨ w = 19 ∨ w = 20 ∨ w = 21 ∨ w = 22 ∨ w = 23 by omega) with rfl | rfl | rfl | rfl | rfl | rfl | rfl | rfl | rfl | rfl | rfl | rfl | rfl | rfl | rfl | rfl | rfl | rfl | rfl | rfl | rfl | rfl | rfl | rfl
    · exact law_0 hL hi h9 hB hr ih hx
    · exact law_1 hL hi h9 hB hr ih hx
    · exact law_2 hL hi h9 hB hr ih hx
    · exact law_3 hL hi h9 hB hr ih hx
    · exact law_4 hL hi h9 hB hr ih hx
    · exact law_5 hL hi h9 hB hr ih hx
    · exact law_6 hL hi h9 hB hr ih hx
    · exact law_7 hL hi h9 hB hr ih hx
    · exact law_8 hL hi h9 hB hr ih hx
    · exact law_9 hL hi h9 hB hr ih hx
    · exact law_10 hL hi h9 hB hr ih hx
    · exact law_11 hL hi h9 hB hr ih hx
    · exact law_12 hL hi h9 hB hr ih hx
    · exact law_13 hL hi h9 hB hr ih hx
    · exact law_14 hL hi h9 hB hr ih hx
    · exact law_15 hL hi h9 hB hr ih hx
    · exact law_16 hL hi h9 hB hr ih hx
    · exact law_17 hL hi h9 hB hr ih hx
    · exact law_18 hL hi h9 hB hr ih hx
    · exact law_19 hL hi h9 hB hr ih hx
    · exact law_20 hL hi h9 hB hr ih hx
    · exact law_21 hL hi h9 hB hr ih hx
    · exact law_22 hL hi h9 hB hr ih hx
    · exact law_23 hL hi h9 hB hr ih hx
  · refine law_o hL hi h9 hB hr ih (fun c hc q => ?_)
    rw [hx] at q
    have h2 : w < 32 := hw
    have := (nI_eq (by omega) (by omega)).mp q
    omega
theorem law_all {L : Nat} (hL : L ≤ 3072) (xs : Nat → Int32) : ∀ (j n c : Nat) (x : XS) (y : MS), L ≤ 6 * c + 6 * j → c ≤ 512 → j < n → r_S (9 + 3 * c) x y → f_law L xs n (nI (6 * c)) x y = some 1
  | 0, n, c, x, y, h, hc, hn, hr => by
    obtain ⟨n, rfl⟩ : ∃ m, n = m + 1 := ⟨n - 1, by omega⟩
    rw [f_law]
    dsimp only
    rw [if_pos ((law_end hL (by omega)).mpr (by omega))]
  | j + 1, n, c, x, y, h, hc, hn, hr => by
    obtain ⟨n, rfl⟩ : ∃ m, n = m + 1 := ⟨n - 1, by omega⟩
    by_cases hi : 6 * c + 6 ≤ L
    · refine law_any hL hi (by omega) (by omega) hr (fun x' y' h' => ?_)
      have e := law_all hL xs j n (c + 1) x' y' (by omega) (by omega) (by omega) (by
        rw [show 9 + 3 * (c + 1) = 9 + 3 * c + 3 by omega]
        exact h')
      rw [show 6 * c + 6 = 6 * (c + 1) by omega]
      exact e
    · rw [f_law]
      dsimp only
      rw [if_pos ((law_end hL (by omega)).mpr (by omega))]
abbrev X00 (la : Nat → Nat) : XS := (0, 0, 0, (fun _ => 0), zL, zL, zL, zL, zL, zL, zL, zL, zL, 0, la, (fun _ => zL))
abbrev Y00 : MS := (0, 0, 0, 0, 0, 0, 0, 0, 0, 0, 0, 0, (fun _ => 0), (fun _ => 0), (fun _ => 0), (fun _ => 0), (fun _ => 0), (fun _ => 0), (fun _ => 0), (fun _ => 0), (fun _ => 0), (fun _ => 0), (fun _ => 0), (fun _ => 0), (fun _ => 0))
abbrev a00 : AL := (fun _ => 0, 0, 0, 0, 0, 0)
theorem nb_00 (c : Nat) : nb 0 c = 0 := by
  show uN 0 / 2 ^ (4 * c) % 16 = 0
  rw [show uN 0 = 0 from rfl, Nat.zero_div]
theorem rel_00 (la : Nat → Nat) : r_S 9 (X00 la) Y00 := by
  refine ⟨fun _ => 0, a00, fun _ => 0, 0, 0, rfl, rfl, by omega, rfl, fun i => ⟨rfl, (by decide : 0 < 256)⟩, rfl, rfl, rfl, by omega, ⟨⟨fun c _ => nb_00 c, fun c _ => nb_00 c, rfl, rfl, rfl, rfl, rfl⟩, ⟨fun c _ => rfl, rfl, rfl, rfl, rfl, rfl⟩, fun c _ => rfl, fun c _ => (by decide : 0 ≤ 4), fun c _ => (by decide : 0 ≤ 4), by decide, by decide, by decide, by decide⟩, by decide, fun j hj => absurd hj (Nat.not_lt_zero j), false, false, rfl, rfl, rfl, fun z => (by cases z), fun z => (by cases z)⟩
theorem f_law_true {L : Nat} (hL : L ≤ 3072) (xs : Nat → Int32) (la : Nat → Nat) : f_law L xs FU 0 (X00 la) Y00 = some 1 := by
  have h := law_all hL xs 512 FU 0 (X00 la) Y00 (by omega) (by omega) (by unfold FU; omega) (rel_00 la)
  rw [show nI (6 * 0) = (0 : Int32) from rfl] at h
  exact h
