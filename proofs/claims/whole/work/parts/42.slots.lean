/-! slots, and what is told of the state: both sides -/
def b1 (b : Bool) (v : Nat) : Nat := if b = true then v else 0
def KS (g : Nat → Nat) (B : Nat) (kb : Int32) (k0 k1 : LV) (kp ik : Nat → Int32) : Prop := ∃ q0 q1 : Bool, kb = nI (b1 q0 1 + b1 q1 2) ∧ ik 0 = nI (b1 q0 1) ∧ ik 1 = nI (b1 q1 1) ∧ (q0 = true → Sl g B k0 (fun c => kp (17 * 0 + c))) ∧ (q1 = true → Sl g B k1 (fun c => kp (17 * 1 + c)))
theorem KS_mono {g : Nat → Nat} {B B' : Nat} {kb : Int32} {k0 k1 : LV} {kp ik : Nat → Int32} (h : KS g B kb k0 k1 kp ik) (hb : B ≤ B') : KS g B' kb k0 k1 kp ik := by
  obtain ⟨q0, q1, h1, h2, h3, h4, h5⟩ := h
  exact ⟨q0, q1, h1, h2, h3, fun z => Sl_mono (h4 z) hb, fun z => Sl_mono (h5 z) hb⟩
theorem KS_none {g : Nat → Nat} {B : Nat} {k0 k1 : LV} {kp ik : Nat → Int32} : KS g B 0 k0 k1 kp (upd (upd ik 0 (0 : Int32)) 1 (0 : Int32)) := by
  refine ⟨false, false, rfl, ?_, ?_, fun z => (by cases z), fun z => (by cases z)⟩
  · rw [upd_ne (by decide), upd_eq]; rfl
  · rw [upd_eq]; rfl
theorem keep_L {K : Int32 → (Nat → Int32) → Option (Int32 × Int32 × (Nat → Int32) × (Nat → Int32))} {m : Nat} (hm : m < 2) (p b : Nat → Int32) : ∀ (k f i : Nat), i + k = 17 → k < f → ∃ v1, f_X4_keep_L26 K (nI m) p f (nI i) (fb_put b p (17 * m) i) = K v1 (fb_put b p (17 * m) 17)
  | 0, f, i, hik, h1 => by
    obtain ⟨f, rfl⟩ : ∃ m, f = m + 1 := ⟨f - 1, by omega⟩
    obtain rfl : i = 17 := by omega
    rw [f_X4_keep_L26]
    dsimp only
    rw [if_pos (ge_nI 17 17 rfl (by omega) (by omega))]
    exact ⟨_, rfl⟩
  | k + 1, f, i, hik, h1 => by
    obtain ⟨f, rfl⟩ : ∃ m, f = m + 1 := ⟨f - 1, by omega⟩
    rw [f_X4_keep_L26]
    dsimp only
    rw [if_neg (nge_nI 17 17 rfl (by omega) (by omega)), o_g_nI (by omega) (by decide), show (17 : Int32) * nI m + nI i = nI (17 * m + i) by rw [show (17 : Int32) = nI 17 from rfl, pk_mul, nI_add], o_g_nI (by omega) (by decide), nI_clamp (by omega), nI_clamp (by omega), fb_put_succ, nI_1]
    exact keep_L hm p b k f (i + 1) (by omega) (by omega)
theorem again_L {K : Int32 → (Nat → Int32) → Option (Int32 × Int32 × Int32 × (Nat → Int32))} {m : Nat} (hm : m < 2) (bk p : Nat → Int32) : ∀ (k f i : Nat), i + k = 17 → k < f → ∃ v1, f_X4_again_L31 K (nI m) bk f (nI i) (fb_put p (fun c => bk (17 * m + c)) 0 i) = K v1 (fb_put p (fun c => bk (17 * m + c)) 0 17)
  | 0, f, i, hik, h1 => by
    obtain ⟨f, rfl⟩ : ∃ m, f = m + 1 := ⟨f - 1, by omega⟩
    obtain rfl : i = 17 := by omega
    rw [f_X4_again_L31]
    dsimp only
    rw [if_pos (ge_nI 17 17 rfl (by omega) (by omega))]
    exact ⟨_, rfl⟩
  | k + 1, f, i, hik, h1 => by
    obtain ⟨f, rfl⟩ : ∃ m, f = m + 1 := ⟨f - 1, by omega⟩
    have e := fb_put_succ p (fun c => bk (17 * m + c)) 0 i
    rw [Nat.zero_add] at e
    rw [f_X4_again_L31]
    dsimp only
    rw [if_neg (nge_nI 17 17 rfl (by omega) (by omega)), show (17 : Int32) * nI m + nI i = nI (17 * m + i) by rw [show (17 : Int32) = nI 17 from rfl, pk_mul, nI_add], o_g_nI (by omega) (by decide), o_g_nI (by omega) (by decide), nI_clamp (by omega), nI_clamp (by omega), e, nI_1]
    exact again_L hm bk p k f (i + 1) (by omega) (by omega)
theorem slot_cs (v : Int32) : (¬ v = 0 ∧ ¬ v = 1 ∧ f_X4_in v.toInt64 0 1 = 0) ∨ v = nI 0 ∨ v = nI 1 := by
  by_cases r1 : v < 0
  · left
    exact ⟨(fa_of_lt r1).2.2.2.1, fun q => by rw [q] at r1; exact absurd r1 (by decide), in_no 0 1 0 1 rfl rfl (Or.inl r1)⟩
  obtain ⟨s, hs, rfl⟩ := nI_of r1
  by_cases r2 : s ≤ 1
  · right
    rcases (show s = 0 ∨ s = 1 by omega) with rfl | rfl
    · exact Or.inl rfl
    · exact Or.inr rfl
  · left
    exact ⟨n0_nI (by omega) hs, neq_nI 1 1 rfl (by omega) hs (by decide), in_no 0 1 0 1 rfl rfl (Or.inr ((nI_ltI (a := 1) (by decide) hs).mpr (by omega)))⟩
theorem or_01 : ∀ q0 q1 : Bool, nI (b1 q0 1 + b1 q1 2) ||| (1 : Int32) = nI (b1 true 1 + b1 q1 2) ∧ nI (b1 q0 1 + b1 q1 2) ||| (2 : Int32) = nI (b1 q0 1 + b1 true 2) := by decide +kernel
theorem bit_0 : ∀ q0 q1 : Bool, ((i_shr (nI (b1 q0 1 + b1 q1 2)) (0 : Int32)) &&& (1 : Int32)) = (if q0 = true then 1 else 0) := by decide +kernel
theorem bit_1 : ∀ q0 q1 : Bool, ((i_shr (nI (b1 q0 1 + b1 q1 2)) (1 : Int32)) &&& (1 : Int32)) = (if q1 = true then 1 else 0) := by decide +kernel
theorem keep_eq {g : Nat → Nat} {l : Nat → Int32} {B : Nat} {a : AL} {x : LV} {p : Nat → Int32} {kb : Int32} {k0 k1 : LV} {kp ik : Nat → Int32} (hb : Bo g l B a x p) (h8 : nsg a ≤ 8) (hK : KS g B kb k0 k1 kp ik) (v1 : Int32) : ∃ kp' ik', f_X4_keep p kp ik v1 = some ((f_X3_keep kb x k0 k1 v1).1, 0, kp', ik') ∧ KS g B (f_X3_keep kb x k0 k1 v1).2.1 (f_X3_keep kb x k0 k1 v1).2.2.1 (f_X3_keep kb x k0 k1 v1).2.2.2 kp' ik' := by
  unfold f_X3_keep f_X4_keep
  rcases slot_cs v1 with ⟨h1, h2, h3⟩ | rfl | rfl
  · rw [if_neg h1, if_neg h2, h3, if_pos rfl]
    exact ⟨kp, ik, rfl, hK⟩
  · obtain ⟨q0, q1, e1, e2, e3, e4, e5⟩ := hK
    rw [if_pos (show nI 0 = 0 from rfl), in_yes 0 1 0 1 rfl rfl (by decide) (by decide), if_neg (show ¬ (1 : Int32) = 0 by decide), o_g_nI (by decide) (by decide), nI_clamp (by decide)]
    obtain ⟨v2, e⟩ := keep_L (K := (fun (v2_1 : Int32) (r_kept_2 : Nat → Int32) => some ((p 16), (0 : Int32), r_kept_2, (upd ik 0 (1 : Int32))))) (m := 0) (by decide) p kp 17 FU 0 rfl (by decide)
    rw [fb_put_0, show nI 0 = (0 : Int32) from rfl] at e
    rw [show nI 0 = (0 : Int32) from rfl, e]
    refine ⟨fb_put kp p (17 * 0) 17, upd ik 0 (1 : Int32), ?_, ?_⟩
    · show some (p 16, (0 : Int32), fb_put kp p (17 * 0) 17, upd ik 0 (1 : Int32)) = some (x.2.2.2.2.2.2, (0 : Int32), fb_put kp p (17 * 0) 17, upd ik 0 (1 : Int32))
      rw [hb.1.2.2.2.2.2.2, hb.2.1.2.2.2.2.2]
    · refine ⟨true, q1, ?_, ?_, ?_, fun _ => ?_, fun z => ?_⟩
      · show kb ||| (1 : Int32) = _
        rw [e1]
        exact (or_01 q0 q1).1
      · rw [upd_eq]; rfl
      · rw [upd_ne (by decide)]; exact e3
      · refine Sl_cong (Bo_Sl hb h8) (fun c hc => ?_)
        rw [fb_put_in (by omega) (by omega), Nat.add_sub_cancel_left]
      · refine Sl_cong (e5 z) (fun c hc => ?_)
        rw [fb_put_out (by omega)]
  · obtain ⟨q0, q1, e1, e2, e3, e4, e5⟩ := hK
    rw [if_neg (show ¬ nI 1 = 0 by decide), if_pos (show nI 1 = 1 from rfl), in_yes 0 1 0 1 rfl rfl (by decide) (by decide), if_neg (show ¬ (1 : Int32) = 0 by decide), o_g_nI (by decide) (by decide), nI_clamp (by decide)]
    obtain ⟨v2, e⟩ := keep_L (K := (fun (v2_1 : Int32) (r_kept_2 : Nat → Int32) => some ((p 16), (0 : Int32), r_kept_2, (upd ik 1 (1 : Int32))))) (m := 1) (by decide) p kp 17 FU 0 rfl (by decide)
    rw [fb_put_0, show nI 0 = (0 : Int32) from rfl] at e
    rw [e]
    refine ⟨fb_put kp p (17 * 1) 17, upd ik 1 (1 : Int32), ?_, ?_⟩
    · show some (p 16, (0 : Int32), fb_put kp p (17 * 1) 17, upd ik 1 (1 : Int32)) = some (x.2.2.2.2.2.2, (0 : Int32), fb_put kp p (17 * 1) 17, upd ik 1 (1 : Int32))
      rw [hb.1.2.2.2.2.2.2, hb.2.1.2.2.2.2.2]
    · refine ⟨q0, true, ?_, ?_, ?_, fun z => ?_, fun _ => ?_⟩
      · show kb ||| (2 : Int32) = _
        rw [e1]
        exact (or_01 q0 q1).2
      · rw [upd_ne (by decide)]; exact e2
      · rw [upd_eq]; rfl
      · refine Sl_cong (e4 z) (fun c hc => ?_)
        rw [fb_put_out (by omega)]
      · refine Sl_cong (Bo_Sl hb h8) (fun c hc => ?_)
        rw [fb_put_in (by omega) (by omega), Nat.add_sub_cancel_left]
theorem again_eq {g : Nat → Nat} {l : Nat → Int32} {B k : Nat} {a : AL} {x : LV} {p : Nat → Int32} {kb : Int32} {k0 k1 : LV} {kp ik : Nat → Int32} (hb : Bo g l B a x p) (h8 : nsg a ≤ 8) (hk : k ≤ 14) (hK : KS g B kb k0 k1 kp ik) (v1 : Int32) : ∃ r x' p' k', f_X3_again kb x k0 k1 (nI k) v1 = (r, x', nI k') ∧ f_X4_again (nI k) p kp ik v1 = some (r, 0, nI k', p') ∧ (k' = k ∨ k' = 0) ∧ Sl g B x' p' := by
  unfold f_X3_again f_X4_again
  rcases slot_cs v1 with ⟨h1, h2, h3⟩ | rfl | rfl
  · rw [if_neg h1, if_neg h2, h3, if_pos rfl]
    exact ⟨-1, x, p, k, rfl, rfl, Or.inl rfl, Bo_Sl hb h8⟩
  · obtain ⟨q0, q1, e1, e2, e3, e4, e5⟩ := hK
    rw [if_pos (show nI 0 = 0 from rfl), in_yes 0 1 0 1 rfl rfl (by decide) (by decide), if_neg (by decide), o_g_nI (by decide) (by decide), nI_clamp (by decide), e2]
    unfold f_X3_again_0
    rw [e1, bit_0]
    cases q0 with
    | false =>
      rw [if_pos (show (if false = true then (1 : Int32) else 0) = 0 by decide), if_pos (show nI (b1 false 1) = 0 from rfl)]
      exact ⟨-3, x, p, k, rfl, rfl, Or.inl rfl, Bo_Sl hb h8⟩
    | true =>
      rw [if_pos rfl, if_neg (by decide), if_neg (show ¬ nI (b1 true 1) = 0 by decide)]
      obtain ⟨v2, e⟩ := again_L (K := (fun (v2_1 : Int32) (r_page_2 : Nat → Int32) => some ((r_page_2 16), (0 : Int32), (0 : Int32), r_page_2))) (m := 0) (by decide) kp p 17 FU 0 rfl (by decide)
      rw [fb_put_0] at e
      have hS := Sl_cong (e4 rfl) (q := fb_put p (fun c => kp (17 * 0 + c)) 0 17) (fun c hc => by
        rw [fb_put_in (by omega) (by omega)]
        rfl)
      obtain ⟨b, s1, s2, s3, s4⟩ := id hS
      have e7 : k0.2.2.2.2.2.2 = fb_put p (fun c => kp (17 * 0 + c)) 0 17 16 := s1.2.2.2.2.2.2.trans s2.2.2.2.2.2.symm
      refine ⟨k0.2.2.2.2.2.2, k0, _, 0, rfl, e.trans ?_, Or.inr rfl, hS⟩
      rw [e7]
      rfl
  · obtain ⟨q0, q1, e1, e2, e3, e4, e5⟩ := hK
    rw [if_neg (show ¬ nI 1 = 0 by decide), if_pos (show nI 1 = 1 from rfl), in_yes 0 1 0 1 rfl rfl (by decide) (by decide), if_neg (by decide), o_g_nI (by decide) (by decide), nI_clamp (by decide), e3]
    unfold f_X3_again_1
    rw [e1, bit_1]
    cases q1 with
    | false =>
      rw [if_pos (show (if false = true then (1 : Int32) else 0) = 0 by decide), if_pos (show nI (b1 false 1) = 0 from rfl)]
      exact ⟨-3, x, p, k, rfl, rfl, Or.inl rfl, Bo_Sl hb h8⟩
    | true =>
      rw [if_pos rfl, if_neg (by decide), if_neg (show ¬ nI (b1 true 1) = 0 by decide)]
      obtain ⟨v2, e⟩ := again_L (K := (fun (v2_1 : Int32) (r_page_2 : Nat → Int32) => some ((r_page_2 16), (0 : Int32), (0 : Int32), r_page_2))) (m := 1) (by decide) kp p 17 FU 0 rfl (by decide)
      rw [fb_put_0, show nI 0 = (0 : Int32) from rfl] at e
      have hS := Sl_cong (e5 rfl) (q := fb_put p (fun c => kp (17 * 1 + c)) 0 17) (fun c hc => by
        rw [fb_put_in (by omega) (by omega)]
        rfl)
      obtain ⟨b, s1, s2, s3, s4⟩ := id hS
      have e7 : k1.2.2.2.2.2.2 = fb_put p (fun c => kp (17 * 1 + c)) 0 17 16 := s1.2.2.2.2.2.2.trans s2.2.2.2.2.2.symm
      refine ⟨k1.2.2.2.2.2.2, k1, _, 0, rfl, e.trans ?_, Or.inr rfl, hS⟩
      rw [e7]
      rfl
theorem about_eq {g : Nat → Nat} {l : Nat → Int32} {B : Nat} {a : AL} {x : LV} {p : Nat → Int32} (hb : Bo g l B a x p) (n c v1 : Int32) : ∃ r, f_X3_about n x c v1 = some r ∧ f_X4_about n c l p v1 = some (r, 0) := by
  unfold f_X3_about f_X4_about
  rw [cntC hb.1 hb.2.2.2.2, sgdM hb.2.1 hb.2.2.2.2, errC hb.1 hb.2.2.2.1 hb.2.2.2.2, errM hb.2.2.1 hb.2.1 hb.2.2.2.1 hb.2.2.2.2, bd, bd, bd, bd, hb.1.2.2.1, hb.1.2.2.2.1, hb.1.2.2.2.2.1, hb.1.2.2.2.2.2.1, hb.1.2.2.2.2.2.2, hb.2.1.2.1, hb.2.1.2.2.1, hb.2.1.2.2.2.1, hb.2.1.2.2.2.2.1, hb.2.1.2.2.2.2.2]
  by_cases h0 : v1 = 0
  · rw [if_pos h0, if_pos h0]; exact ⟨_, rfl, rfl⟩
  rw [if_neg h0, if_neg h0]
  by_cases h1 : v1 = 1
  · rw [if_pos h1, if_pos h1]; exact ⟨_, rfl, rfl⟩
  rw [if_neg h1, if_neg h1]
  by_cases h2 : v1 = 2
  · rw [if_pos h2, if_pos h2]; exact ⟨_, rfl, rfl⟩
  rw [if_neg h2, if_neg h2]
  by_cases h3 : v1 = 3
  · rw [if_pos h3, if_pos h3]; exact ⟨_, rfl, rfl⟩
  rw [if_neg h3, if_neg h3]
  by_cases h4 : v1 = 4
  · rw [if_pos h4, if_pos h4]; exact ⟨_, rfl, rfl⟩
  rw [if_neg h4, if_neg h4]
  by_cases h5 : v1 = 5
  · rw [if_pos h5, if_pos h5]; exact ⟨_, rfl, rfl⟩
  rw [if_neg h5, if_neg h5]
  by_cases h6 : v1 = 6
  · rw [if_pos h6, if_pos h6]; exact ⟨_, rfl, rfl⟩
  rw [if_neg h6, if_neg h6]
  by_cases h7 : v1 = 7
  · rw [if_pos h7, if_pos h7]; exact ⟨_, rfl, rfl⟩
  rw [if_neg h7, if_neg h7]
  by_cases h9 : v1 = 8
  · rw [if_pos h9, if_pos h9]; exact ⟨_, rfl, rfl⟩
  rw [if_neg h9, if_neg h9]
  exact ⟨_, rfl, rfl⟩
theorem cell_eq {g : Nat → Nat} {l : Nat → Int32} {B : Nat} {a : AL} {x : LV} {p : Nat → Int32} (hb : Bo g l B a x p) (v1 v2 : Int32) : f_X4_cell l p v1 v2 = some (f_X3_cell x v1 v2, 0) := by
  unfold f_X3_cell f_X4_cell
  rcases cellCs v1 with ⟨h1, h2, -⟩ | ⟨c, hc, rfl⟩
  · rw [h1, h2, if_pos rfl, if_neg (by decide)]
  · rw [(cellOk c hc).1, (cellOk c hc).2, if_neg (show ¬ (1 : Int32) = 0 by decide), if_pos (show (0 : Int32) = 0 from rfl), signOf_nb x (by omega), landOf_nb x (by omega), hb.1.2.1 c hc, hb.1.1 c hc, goodC (hb.1.1 c hc) (hb.1.2.1 c hc) (hb.2.2.2.1 c hc) (hb.2.2.2.2.1 c hc) hc, goodM (hb.2.2.1 c hc) (hb.2.1.1 c hc) (hb.2.2.2.1 c hc) (hb.2.2.2.2.1 c hc) hc, o_g_nI (by omega) (by decide), o_g_nI (by omega) (by decide), nI_clamp (by omega), hb.2.2.1 c hc, hb.2.1.1 c hc, bd]
    by_cases h0 : v2 = 0
    · rw [if_pos h0, if_pos h0]
    rw [if_neg h0, if_neg h0]
    by_cases h1 : v2 = 1
    · rw [if_pos h1, if_pos h1]
    rw [if_neg h1, if_neg h1]
    by_cases h2 : v2 = 2
    · rw [if_pos h2, if_pos h2]
    rw [if_neg h2, if_neg h2]
