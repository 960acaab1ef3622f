/-! acts and what can be undone: both sides -/
def Sl (g : Nat → Nat) (B : Nat) (x : LV) (p : Nat → Int32) : Prop := ∃ a, CR g a x ∧ PR a p ∧ WA B a ∧ nsg a ≤ 8
theorem Sl_mono {g : Nat → Nat} {B B' : Nat} {x : LV} {p : Nat → Int32} (h : Sl g B x p) (hb : B ≤ B') : Sl g B' x p := by
  obtain ⟨a, h1, h2, h3, h4⟩ := h
  exact ⟨a, h1, h2, WA_mono h3 hb, h4⟩
theorem Sl_cong {g : Nat → Nat} {B : Nat} {x : LV} {p q : Nat → Int32} (h : Sl g B x p) (e : ∀ c, c < 17 → q c = p c) : Sl g B x q := by
  obtain ⟨a, h1, h2, h3, h4⟩ := h
  exact ⟨a, h1, PR_cong h2 e, h3, h4⟩
def Ac (g : Nat → Nat) (B k : Nat) (xl : Nat → LV) (bk : Nat → Int32) : Prop := ∀ j, j < k → Sl g B (xl j) (fun c => bk (17 * j + c))
theorem Ac_mono {g : Nat → Nat} {B B' k : Nat} {xl : Nat → LV} {bk : Nat → Int32} (h : Ac g B k xl bk) (hb : B ≤ B') : Ac g B' k xl bk := fun j hj => Sl_mono (h j hj) hb
theorem page_L {K : Int32 → (Nat → Int32) → Option (Int32 × (Nat → Int32))} {m : Nat} (hm : m < 14) (p b : Nat → Int32) : ∀ (k f i : Nat), i + k = 17 → k < f → ∃ v1, f_X4_note_L51 K (nI m) p f (nI i) (fb_put b p (17 * m) i) = K v1 (fb_put b p (17 * m) 17)
  | 0, f, i, hik, h1 => by
    obtain ⟨f, rfl⟩ : ∃ m, f = m + 1 := ⟨f - 1, by omega⟩
    obtain rfl : i = 17 := by omega
    rw [f_X4_note_L51]
    dsimp only
    rw [if_pos (ge_nI 17 17 rfl (by omega) (by omega))]
    exact ⟨_, rfl⟩
  | k + 1, f, i, hik, h1 => by
    obtain ⟨f, rfl⟩ : ∃ m, f = m + 1 := ⟨f - 1, by omega⟩
    rw [f_X4_note_L51]
    dsimp only
    rw [if_neg (nge_nI 17 17 rfl (by omega) (by omega)), o_g_nI (by omega) (by decide), show (17 : Int32) * nI m + nI i = nI (17 * m + i) by rw [show (17 : Int32) = nI 17 from rfl, pk_mul, nI_add], o_g_nI (by omega) (by decide), nI_clamp (by omega), nI_clamp (by omega), fb_put_succ, nI_1]
    exact page_L hm p b k f (i + 1) (by omega) (by omega)
theorem shift_L {K : Int32 → (Nat → Int32) → Option (Int32 × (Nat → Int32))} {b0 : Nat → Int32} : ∀ (k f i : Nat) (b : Nat → Int32), i + k = 221 → k < f → (∀ c, c < i → b c = b0 (c + 17)) → (∀ c, i ≤ c → b c = b0 c) → ∃ v1 b', f_X4_note_L11 K f (nI i) b = K v1 b' ∧ ∀ c, c < 221 → b' c = b0 (c + 17)
  | 0, f, i, b, hik, h1, h2, h3 => by
    obtain ⟨f, rfl⟩ : ∃ m, f = m + 1 := ⟨f - 1, by omega⟩
    obtain rfl : i = 221 := by omega
    rw [f_X4_note_L11]
    dsimp only
    rw [if_pos (ge_nI 221 221 rfl (by omega) (by omega))]
    exact ⟨_, b, rfl, h2⟩
  | k + 1, f, i, b, hik, h1, h2, h3 => by
    obtain ⟨f, rfl⟩ : ∃ m, f = m + 1 := ⟨f - 1, by omega⟩
    rw [f_X4_note_L11]
    dsimp only
    rw [if_neg (nge_nI 221 221 rfl (by omega) (by omega)), show nI i + (17 : Int32) = nI (i + 17) by rw [show (17 : Int32) = nI 17 from rfl, nI_add], o_g_nI (by omega) (by decide), o_g_nI (by omega) (by decide), nI_clamp (by omega), nI_clamp (by omega), nI_1]
    refine shift_L k f (i + 1) _ (by omega) (by omega) (fun c hc => ?_) (fun c hc => ?_)
    · by_cases y : c = i
      · subst y
        rw [upd_eq]
        exact h3 _ (by omega)
      · rw [upd_ne y]
        exact h2 c (by omega)
    · rw [upd_ne (by omega)]
      exact h3 c (by omega)
theorem add_note {g : Nat → Nat} {B k : Nat} {la : Nat → Nat} {xl : Nat → LV} {bk : Nat → Int32} {x : LV} {p : Nat → Int32} (hk : k ≤ 14) (hA : Ac g B k xl bk) (hS : Sl g B x p) : ∃ k' la' xl' bk', k' ≤ 14 ∧ f_X0_add (nI k) la xl x = some (nI k', la', xl') ∧ f_X4_note (nI k) p bk = some (nI k', bk') ∧ Ac g B k' xl' bk' := by
  unfold f_X0_add f_X4_note
  by_cases h14 : k = 14
  · subst h14
    rw [o_g_nI (by decide) (by decide), if_pos (show nI 14 = (14 : Int32) from rfl), if_pos (show nI 14 = (14 : Int32) from rfl)]
    obtain ⟨v1, b1, e1, e2⟩ := shift_L (K := (fun (v1_3 : Int32) (r_book_4 : Nat → Int32) => f_X4_note_L51 (fun (v1_5 : Int32) (r_book_6 : Nat → Int32) => some (((nI 14 - (1 : Int32)) + (1 : Int32)), r_book_6)) (nI 14 - (1 : Int32)) p FU (0 : Int32) r_book_4)) (b0 := bk) 221 FU 0 bk rfl (by decide) (fun c hc => by omega) (fun c _ => rfl)
    obtain ⟨v2, e3⟩ := page_L (K := (fun (v1_5 : Int32) (r_book_6 : Nat → Int32) => some (((nI 14 - (1 : Int32)) + (1 : Int32)), r_book_6))) (m := 13) (by decide) p b1 17 FU 0 rfl (by decide)
    rw [show nI 0 = (0 : Int32) from rfl] at e1 e3
    rw [fb_put_0] at e3
    rw [e1, show nI 14 - (1 : Int32) = nI 13 from nI_pred 13]
    rw [show nI 14 - (1 : Int32) = nI 13 from nI_pred 13] at e3
    rw [e3, nI_1]
    refine ⟨14, _, _, _, Nat.le_refl _, rfl, rfl, fun j hj => ?_⟩
    by_cases y : j = 13
    · subst y
      rw [va_up_self]
      refine Sl_cong hS (fun c hc => ?_)
      rw [fb_put_in (by omega) (by omega), Nat.add_sub_cancel_left]
    · rw [va_up_ne _ _ y]
      have h := hA (j + 1) (by omega)
      show Sl g B (if j < 13 then xl (j + 1) else if j = 13 then xl 0 else xl j) _
      rw [if_pos (by omega)]
      refine Sl_cong h (fun c hc => ?_)
      rw [fb_put_out (by omega), e2 _ (by omega), show 17 * j + c + 17 = 17 * (j + 1) + c by omega]
  · rw [o_g_nI (by omega) (by decide), if_neg (neq_nI 14 14 rfl h14 (by omega) (by decide)), if_neg (neq_nI 14 14 rfl h14 (by omega) (by decide)), nI_clamp (by omega)]
    obtain ⟨v2, e3⟩ := page_L (K := (fun (v1_1 : Int32) (r_book_2 : Nat → Int32) => some ((nI k + (1 : Int32)), r_book_2))) (m := k) (by omega) p bk 17 FU 0 rfl (by decide)
    rw [show nI 0 = (0 : Int32) from rfl, fb_put_0] at e3
    rw [e3, nI_1]
    refine ⟨k + 1, _, _, _, by omega, rfl, rfl, fun j hj => ?_⟩
    by_cases y : j = k
    · subst y
      rw [va_up_self]
      refine Sl_cong hS (fun c hc => ?_)
      rw [fb_put_in (by omega) (by omega), Nat.add_sub_cancel_left]
    · rw [va_up_ne _ _ y]
      refine Sl_cong (hA j (by omega)) (fun c hc => ?_)
      rw [fb_put_out (by omega)]
theorem un_L {K : Int32 → (Nat → Int32) → Option (Int32 × Int32 × Int32 × (Nat → Int32))} {m : Nat} (hm : m < 14) (bk p : Nat → Int32) : ∀ (k f i : Nat), i + k = 17 → k < f → ∃ v1, f_X4_undo_L27 K (nI m) bk f (nI i) (fb_put p (fun c => bk (17 * m + c)) 0 i) = K v1 (fb_put p (fun c => bk (17 * m + c)) 0 17)
  | 0, f, i, hik, h1 => by
    obtain ⟨f, rfl⟩ : ∃ m, f = m + 1 := ⟨f - 1, by omega⟩
    obtain rfl : i = 17 := by omega
    rw [f_X4_undo_L27]
    dsimp only
    rw [if_pos (ge_nI 17 17 rfl (by omega) (by omega))]
    exact ⟨_, rfl⟩
  | k + 1, f, i, hik, h1 => by
    obtain ⟨f, rfl⟩ : ∃ m, f = m + 1 := ⟨f - 1, by omega⟩
    have e := fb_put_succ p (fun c => bk (17 * m + c)) 0 i
    rw [Nat.zero_add] at e
    rw [f_X4_undo_L27]
    dsimp only
    rw [if_neg (nge_nI 17 17 rfl (by omega) (by omega)), show (17 : Int32) * nI m + nI i = nI (17 * m + i) by rw [show (17 : Int32) = nI 17 from rfl, pk_mul, nI_add], o_g_nI (by omega) (by decide), o_g_nI (by omega) (by decide), nI_clamp (by omega), nI_clamp (by omega), e, nI_1]
    exact un_L hm bk p k f (i + 1) (by omega) (by omega)
theorem Sl_Bo {g : Nat → Nat} {l : Nat → Int32} {B : Nat} {x : LV} {p : Nat → Int32} (hl : LR g l) (hg : WG g) (h : Sl g B x p) : ∃ a, Bo g l B a x p ∧ nsg a ≤ 8 := by
  obtain ⟨a, h1, h2, h3, h4⟩ := h
  exact ⟨a, ⟨h1, h2, hl, hg, h3⟩, h4⟩
theorem Bo_Sl {g : Nat → Nat} {l : Nat → Int32} {B : Nat} {a : AL} {x : LV} {p : Nat → Int32} (h : Bo g l B a x p) (h8 : nsg a ≤ 8) : Sl g B x p := ⟨a, h.1, h.2.1, h.2.2.2.2, h8⟩
theorem undo_eq {g : Nat → Nat} {l : Nat → Int32} {B k : Nat} {x : LV} {p : Nat → Int32} {xl : Nat → LV} {bk : Nat → Int32} (hS : Sl g B x p) (hk : k ≤ 14) (hA : Ac g B k xl bk) : ∃ r x' p' k', f_X3_undo x (nI k) xl = some (r, x', nI k') ∧ f_X4_undo (nI k) p bk = some (r, 0, nI k', p') ∧ k' ≤ 14 ∧ Sl g B x' p' ∧ Ac g B k' xl bk := by
  unfold f_X3_undo f_X4_undo f_X0_takeBack
  rw [o_g_nI (by omega) (by decide), bd]
  by_cases h0 : k = 0
  · subst h0
    rw [if_pos (show nI 0 = 0 from rfl), if_pos (show nI 0 = 0 from rfl)]
    dsimp only
    rw [if_pos (show (0 : Int32) = 0 from rfl)]
    exact ⟨-3, x, p, 0, rfl, rfl, by omega, hS, hA⟩
  · obtain ⟨m, rfl⟩ : ∃ m, k = m + 1 := ⟨k - 1, by omega⟩
    rw [if_neg (n0_nI h0 (by omega)), if_neg (n0_nI h0 (by omega)), nI_pred, nI_clamp (by omega)]
    dsimp only
    rw [if_neg (show ¬ (1 : Int32) = 0 by decide)]
    obtain ⟨v1, e⟩ := un_L (K := (fun (v1_1 : Int32) (r_page_2 : Nat → Int32) => some (nI m, (0 : Int32), nI m, r_page_2))) (m := m) (by omega) bk p 17 FU 0 rfl (by decide)
    rw [show nI 0 = (0 : Int32) from rfl, fb_put_0] at e
    rw [e]
    refine ⟨nI m, xl m, _, m, rfl, rfl, by omega, Sl_cong (hA m (by omega)) (fun c hc => ?_), fun j hj => hA j (by omega)⟩
    rw [fb_put_in (by omega) (by omega)]
    rfl
theorem nsg_sp {g : Nat → Nat} {a : AL} {w : Nat} : nsg (sp g a w) = nsg a := by
  unfold nsg sgd
  rw [aS_sp]
theorem nsg_se {a : AL} {c s : Nat} (hc : c < 12) : nsg (se a c s) + (if sgd a c then 1 else 0) = nsg a + (if decide (s ≠ 0) then 1 else 0) := by
  have h := fb_ct_upd (sgd a) (decide (s ≠ 0)) (i := c) (n := 12) hc
  have e : nsg (se a c s) = fb_ct (fun k => if k = c then decide (s ≠ 0) else sgd a k) 12 := by
    unfold nsg
    apply fb_ct_cong
    intro k hk
    show decide ((if k = c then s else aS a k) ≠ 0) = _
    by_cases y : k = c
    · rw [if_pos y, if_pos y]
    · rw [if_neg y, if_neg y]
      rfl
  rw [e]
  exact h
/-- a day, noted -/
theorem act_eq {g : Nat → Nat} {l : Nat → Int32} {B k w : Nat} {a : AL} {x : LV} {p : Nat → Int32} {la : Nat → Nat} {xl : Nat → LV} {bk : Nat → Int32} (hb : Bo g l B a x p) (h8 : nsg a ≤ 8) (hB : B + 100 < 2 ^ 20) (hk : k ≤ 14) (hA : Ac g B k xl bk) (h5 : w < 5) : (f_X3_actedBy x (nI k) la xl (nI w) = some (0, x, x, nI k, la, xl) ∧ f_X4_can p (nI w) = some 0) ∨ ∃ a' x' k' la' xl' p' bk', f_X3_actedBy x (nI k) la xl (nI w) = some (1, x', x, nI k', la', xl') ∧ f_X4_can p (nI w) = some 1 ∧ f_X4_note (nI k) p bk = some (nI k', bk') ∧ f_X4_step l p (nI w) = some p' ∧ k' ≤ 14 ∧ Bo g l (B + 3) a' x' p' ∧ nsg a' ≤ 8 ∧ Ac g (B + 3) k' xl' bk' := by
  unfold f_X3_actedBy o_let
  dsimp only
  rw [become_eq]
  rcases day_cs hb (by omega) h5 with ⟨c, h3, h4⟩ | ⟨c, x', p', h3, h4, h6, h7⟩
  · left
    rw [h3]
    dsimp only
    rw [if_pos (show (0 : Int32) = 0 from rfl)]
    exact ⟨rfl, h4⟩
  · right
    obtain ⟨k', la', xl', bk', e1, e2, e3, e4⟩ := add_note (la := la) hk hA (Bo_Sl hb h8)
    rw [h3]
    dsimp only
    rw [if_neg (show ¬ (1 : Int32) = 0 by decide), e2, bd]
    exact ⟨sp g a w, x', k', la', xl', p', bk', rfl, h4, e3, h6, e1, h7, by rw [nsg_sp]; exact h8, Ac_mono e4 (by omega)⟩
theorem go_eq {g : Nat → Nat} {l : Nat → Int32} {B k : Nat} {a : AL} {x : LV} {p : Nat → Int32} {la : Nat → Nat} {xl : Nat → LV} {bk : Nat → Int32} (hb : Bo g l B a x p) (h8 : nsg a ≤ 8) (hB : B + 100 < 2 ^ 20) (hk : k ≤ 14) (hA : Ac g B k xl bk) (xt : LV) (v1 : Int32) : ∃ r a' x' xt' k' la' xl' p' bk', f_X3_go x xt (nI k) la xl v1 = some (r, x', xt', nI k', la', xl') ∧ f_X4_go (nI k) l p bk v1 = some (r, 0, nI k', p', bk') ∧ k' ≤ 14 ∧ Bo g l (B + 3) a' x' p' ∧ nsg a' ≤ 8 ∧ Ac g (B + 3) k' xl' bk' := by
  unfold f_X3_go f_X4_go
  by_cases r1 : v1 < 0
  · rw [if_pos r1, in_no 0 3 0 3 rfl rfl (Or.inl r1), if_pos rfl]
    exact ⟨-2, a, x, xt, k, la, xl, p, bk, rfl, rfl, hk, Bo_mono hb (by omega), h8, Ac_mono hA (by omega)⟩
  obtain ⟨w, hw, rfl⟩ := nI_of r1
  by_cases r2 : w < 4
  · rw [if_neg r1, if_pos (show nI w < (4 : Int32) from (nI_ltI (b := 4) hw (by decide)).mpr r2), in_yes 0 3 0 3 rfl rfl (fa_of_nlt r1) ((nI_leI (b := 3) hw (by decide)).mpr (by omega)), if_neg (by decide)]
    rcases act_eq (la := la) hb h8 hB hk hA (show w < 5 by omega) with ⟨h1, h2⟩ | ⟨a', x', k', la', xl', p', bk', h1, h2, h3, h4, h5, h6, h7, h9⟩
    · rw [h1, h2, bd, bd]
      dsimp only
      rw [if_pos (show (0 : Int32) = 0 from rfl), if_pos (show (0 : Int32) = 0 from rfl)]
      exact ⟨-3, a, x, x, k, la, xl, p, bk, rfl, rfl, hk, Bo_mono hb (by omega), h8, Ac_mono hA (by omega)⟩
    · rw [h1, h2, bd, bd]
      dsimp only
      rw [if_neg (show ¬ (1 : Int32) = 0 by decide), if_neg (show ¬ (1 : Int32) = 0 by decide), h3, bd, h4, bd]
      dsimp only
      rw [h6.1.2.2.1, h6.2.1.2.1]
      exact ⟨_, a', x', x, k', la', xl', p', bk', rfl, rfl, h5, h6, h7, h9⟩
  · rw [if_neg r1, if_neg (show ¬ nI w < (4 : Int32) from fun q => r2 ((nI_ltI (b := 4) hw (by decide)).mp q)), in_no 0 3 0 3 rfl rfl (Or.inr ((nI_ltI (a := 3) (by decide) hw).mpr (by omega))), if_pos rfl]
    exact ⟨-2, a, x, xt, k, la, xl, p, bk, rfl, rfl, hk, Bo_mono hb (by omega), h8, Ac_mono hA (by omega)⟩
theorem rest_eq {g : Nat → Nat} {l : Nat → Int32} {B k : Nat} {a : AL} {x : LV} {p : Nat → Int32} {la : Nat → Nat} {xl : Nat → LV} {bk : Nat → Int32} (hb : Bo g l B a x p) (h8 : nsg a ≤ 8) (hB : B + 100 < 2 ^ 20) (hk : k ≤ 14) (hA : Ac g B k xl bk) : ∃ r a' x' xt' k' la' xl' p' bk', f_X3_rest x (nI k) la xl = some (r, x', xt', nI k', la', xl') ∧ f_X4_rest (nI k) l p bk = some (r, 0, nI k', p', bk') ∧ k' ≤ 14 ∧ Bo g l (B + 3) a' x' p' ∧ nsg a' ≤ 8 ∧ Ac g (B + 3) k' xl' bk' := by
  unfold f_X3_rest f_X4_rest
  rw [show (4 : Int32) = nI 4 from rfl]
  rcases act_eq (la := la) hb h8 hB hk hA (show 4 < 5 by omega) with ⟨h1, h2⟩ | ⟨a', x', k', la', xl', p', bk', h1, h2, h3, h4, h5, h6, h7, h9⟩
  · rw [h1, h2, bd, bd]
    dsimp only
    rw [if_pos (show (0 : Int32) = 0 from rfl), if_pos (show (0 : Int32) = 0 from rfl)]
    exact ⟨-3, a, x, x, k, la, xl, p, bk, rfl, rfl, hk, Bo_mono hb (by omega), h8, Ac_mono hA (by omega)⟩
  · rw [h1, h2, bd, bd]
    dsimp only
    rw [if_neg (show ¬ (1 : Int32) = 0 by decide), if_neg (show ¬ (1 : Int32) = 0 by decide), h3, bd, h4, bd]
    dsimp only
    rw [h6.1.2.2.2.1, h6.2.1.2.2.1]
    exact ⟨_, a', x', x, k', la', xl', p', bk', rfl, rfl, h5, h6, h7, h9⟩
theorem draw_eq {g : Nat → Nat} {l : Nat → Int32} {B k : Nat} {a : AL} {x : LV} {p : Nat → Int32} {la : Nat → Nat} {xl : Nat → LV} {bk : Nat → Int32} (hb : Bo g l B a x p) (h8 : nsg a ≤ 8) (hk : k ≤ 14) (hA : Ac g B k xl bk) (v1 v2 : Int32) : ∃ r a' x' k' la' xl' p' bk', f_X3_draw x (nI k) la xl v1 v2 = some (r, x', nI k', la', xl') ∧ f_X4_draw (nI k) p bk v1 v2 = some (r, 0, nI k', p', bk') ∧ k' ≤ 14 ∧ Bo g l B a' x' p' ∧ nsg a' ≤ 8 ∧ Ac g B k' xl' bk' := by
  unfold f_X3_draw f_X4_draw
  rcases cellCs v1 with ⟨h1, h2, -⟩ | ⟨c, hc, rfl⟩
  · rw [h1, h2, if_pos rfl, if_neg (by decide)]
    exact ⟨-1, a, x, k, la, xl, p, bk, rfl, rfl, hk, hb, h8, hA⟩
  · have hs4 := hb.2.2.2.2.1 c hc
    rw [(cellOk c hc).1, (cellOk c hc).2, if_neg (show ¬ (1 : Int32) = 0 by decide), if_pos (show (0 : Int32) = 0 from rfl)]
    by_cases r1 : v2 ≤ 0
    · rw [if_pos r1, in_no 1 4 1 4 rfl rfl (Or.inl (fa_of_nle (fun z => by
        have h3 := fa_trans (show (0 : Int32) < 1 by decide) z
        exact (fa_of_lt h3).2.1 r1))), if_pos rfl]
      exact ⟨-2, a, x, k, la, xl, p, bk, rfl, rfl, hk, hb, h8, hA⟩
    by_cases r2 : v2 ≤ 4
    · obtain ⟨s, hs, rfl⟩ : ∃ s, s < 2 ^ 31 ∧ v2 = nI s := nI_of (fun z => r1 (fa_of_lt z).1)
      have hsle : s ≤ 4 := (nI_leI (b := 4) hs (by decide)).mp r2
      have hs1 : 1 ≤ s := by
        rcases Nat.eq_zero_or_pos s with z | z
        · subst z; exact absurd (show nI 0 ≤ 0 by decide) r1
        · exact z
      rw [if_neg r1, if_pos r2, in_yes 1 4 1 4 rfl rfl ((nI_leI (a := 1) (by decide) hs).mpr hs1) r2, if_neg (show ¬ (1 : Int32) = 0 by decide), o_g_nI (by omega) (by decide), signOf_nb x (by omega), hb.1.2.1 c hc, nI_clamp (by omega), hb.2.1.1 c hc]
      by_cases z : aS a c = 0
      · have hns := nsg_se (a := a) (s := s) hc
        rw [if_neg (show ¬ sgd a c = true by simp [sgd, z]), if_pos (show decide (s ≠ 0) = true from decide_eq_true (by omega))] at hns
        rw [if_pos (by rw [z]; rfl), if_pos (by rw [z]; exact le0_0), cntC hb.1 hb.2.2.2.2, sgdM hb.2.1 hb.2.2.2.2, bd, bd]
        by_cases q : nsg a = 8
        · rw [if_neg (show ¬ nI (nsg a) < (8 : Int32) from fun w => by have := (nI_ltI (b := 8) (by omega) (by decide)).mp w; omega), if_pos (show nI (nsg a) = (8 : Int32) by rw [q]; rfl)]
          exact ⟨-4, a, x, k, la, xl, p, bk, rfl, rfl, hk, hb, h8, hA⟩
        · obtain ⟨k', la', xl', bk', e1, e2, e3, e4⟩ := add_note (la := la) hk hA (Bo_Sl hb h8)
          have hb' := Bo_se hb hc hsle
          rw [if_pos (show nI (nsg a) < (8 : Int32) from (nI_ltI (b := 8) (by omega) (by decide)).mpr (by omega)), if_neg (neq_nI 8 8 rfl q (by omega) (by decide)), e2, e3, bd, bd, o_g_nI (by omega) (by decide)]
          unfold o_let
          dsimp only
          rw [cntC hb'.1 hb'.2.2.2.2, sgdM hb'.2.1 hb'.2.2.2.2, bd, bd]
          exact ⟨_, se a c s, _, k', la', xl', _, bk', rfl, rfl, e1, hb', by omega, e4⟩
      · rw [if_neg (n0_nI z (by omega)), if_neg (nle0_nI z (by omega))]
        exact ⟨-3, a, x, k, la, xl, p, bk, rfl, rfl, hk, hb, h8, hA⟩
    · rw [if_neg r1, if_neg r2, in_no 1 4 1 4 rfl rfl (Or.inr (fa_of_nle r2)), if_pos rfl]
      exact ⟨-2, a, x, k, la, xl, p, bk, rfl, rfl, hk, hb, h8, hA⟩
theorem rub_eq {g : Nat → Nat} {l : Nat → Int32} {B k : Nat} {a : AL} {x : LV} {p : Nat → Int32} {la : Nat → Nat} {xl : Nat → LV} {bk : Nat → Int32} (hb : Bo g l B a x p) (h8 : nsg a ≤ 8) (hk : k ≤ 14) (hA : Ac g B k xl bk) (v1 : Int32) : ∃ r a' x' k' la' xl' p' bk', f_X3_rub x (nI k) la xl v1 = some (r, x', nI k', la', xl') ∧ f_X4_rub (nI k) p bk v1 = some (r, 0, nI k', p', bk') ∧ k' ≤ 14 ∧ Bo g l B a' x' p' ∧ nsg a' ≤ 8 ∧ Ac g B k' xl' bk' := by
  unfold f_X3_rub f_X4_rub
  rcases cellCs v1 with ⟨h1, h2, -⟩ | ⟨c, hc, rfl⟩
  · rw [h1, h2, if_pos rfl, if_neg (by decide)]
    exact ⟨-1, a, x, k, la, xl, p, bk, rfl, rfl, hk, hb, h8, hA⟩
  · have hs4 := hb.2.2.2.2.1 c hc
    have hP := hb.2.2.2.2.2.1
    rw [(cellOk c hc).1, (cellOk c hc).2, if_neg (show ¬ (1 : Int32) = 0 by decide), if_pos (show (0 : Int32) = 0 from rfl), o_g_nI (by omega) (by decide), signOf_nb x (by omega), hb.1.2.1 c hc, nI_clamp (by omega), hb.2.1.1 c hc, hb.1.2.2.1, hb.2.1.2.1]
    by_cases z : aS a c = 0
    · have z2 : nI (aS a c) = (0 : Int32) := by rw [z]; rfl
      rw [if_pos z2, if_pos z2]
      exact ⟨-3, a, x, k, la, xl, p, bk, rfl, rfl, hk, hb, h8, hA⟩
    · have z2 := n0_nI z (by omega)
      rw [if_neg z2, if_neg z2]
      by_cases q : c = aP a
      · rw [if_pos (by rw [q]), if_pos (by rw [q])]
        exact ⟨-3, a, x, k, la, xl, p, bk, rfl, rfl, hk, hb, h8, hA⟩
      · obtain ⟨k', la', xl', bk', e1, e2, e3, e4⟩ := add_note (la := la) hk hA (Bo_Sl hb h8)
        have hb' := Bo_se (s := 0) hb hc (by decide)
        have hns := nsg_se (a := a) (s := 0) hc
        rw [if_pos (show sgd a c = true by simp [sgd, z]), if_neg (by decide)] at hns
        rw [if_neg (fun w => q ((nI_eq (by omega) (by omega)).mp w)), if_neg (fun w => q ((nI_eq (by omega) (by omega)).mp w).symm), e2, e3, bd, bd, o_g_nI (by omega) (by decide)]
        unfold o_let
        exact ⟨_, se a c 0, _, k', la', xl', _, bk', rfl, rfl, e1, hb', by omega, e4⟩
