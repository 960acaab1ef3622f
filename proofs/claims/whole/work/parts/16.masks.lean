/-! loops with an invariant -/
theorem lpI {S R : Type} (F : Nat → Nat → S → R) (I : Nat → S → Prop) (N : Nat) (r : R) (hs : ∀ n i s, i < N → I i s → F (n + 1) i s = r ∨ ∃ s', F (n + 1) i s = F n (i + 1) s' ∧ I (i + 1) s') (he : ∀ n s, I N s → F (n + 1) N s = r) : ∀ k n i s, i + k = N → k < n → I i s → F n i s = r
  | 0, n, i, s, hik, hn, hI => by
    obtain ⟨n, rfl⟩ : ∃ m, n = m + 1 := ⟨n - 1, by omega⟩
    obtain rfl : i = N := by omega
    exact he n s hI
  | k + 1, n, i, s, hik, hn, hI => by
    obtain ⟨n, rfl⟩ : ∃ m, n = m + 1 := ⟨n - 1, by omega⟩
    rcases hs n i s (by omega) hI with h | ⟨s', h1, h2⟩
    · exact h
    · rw [h1]; exact lpI F I N r hs he k n (i + 1) s' (by omega) (by omega) h2
theorem ge_nI {i : Nat} (v : Int32) (N : Nat) (hv : v = nI N) (h : N ≤ i) (hi : i < 2 ^ 31) : v ≤ nI i := by
  rw [hv, nI_leI (by omega) hi]; exact h
theorem nge_nI {i : Nat} (v : Int32) (N : Nat) (hv : v = nI N) (h : i < N) (hN : N < 2 ^ 31) : ¬ v ≤ nI i := by
  rw [hv, nI_leI hN (by omega)]; omega
/-! rows of bits -/
def mk (p : Nat → Bool) : Nat → Nat
  | 0 => 0
  | n + 1 => mk p n ||| (if p n = true then 2 ^ n else 0)
theorem mk_lt (p : Nat → Bool) : ∀ n, mk p n < 2 ^ n
  | 0 => by show 0 < 1; decide
  | n + 1 => by
    have h := mk_lt p n
    have h1 : 2 ^ n < 2 ^ (n + 1) := Nat.pow_lt_pow_right (by decide) (by omega)
    unfold mk
    apply Nat.or_lt_two_pow
    · omega
    · split
      · exact h1
      · exact Nat.two_pow_pos _
theorem mk_bit (p : Nat → Bool) (i : Nat) : ∀ n, (mk p n).testBit i = (decide (i < n) && p i)
  | 0 => by unfold mk; simp
  | n + 1 => by
    unfold mk
    rw [Nat.testBit_or, mk_bit p i n]
    by_cases h : p n = true
    · rw [if_pos h, Nat.testBit_two_pow]
      by_cases e : n = i
      · subst e; simp [h]
      · have : decide (i < n + 1) = decide (i < n) := decide_eq_decide.mpr (by omega)
        rw [this]; simp [e]
    · rw [if_neg h, Nat.zero_testBit, Bool.or_false]
      by_cases e : n = i
      · subst e; simp [h]
      · have : decide (i < n + 1) = decide (i < n) := decide_eq_decide.mpr (by omega)
        rw [this]
theorem mk_cong {p q : Nat → Bool} : ∀ n, (∀ k, k < n → p k = q k) → mk p n = mk q n
  | 0, _ => rfl
  | n + 1, h => by
    unfold mk
    rw [mk_cong n (fun k hk => h k (by omega)), h n (by omega)]
theorem mk_yes {p : Nat → Bool} {i : Nat} (h : p i = true) (hi : i < 31) : nI (mk p i) ||| i_shl (1 : Int32) (nI i) = nI (mk p (i + 1)) := by
  rw [i_shl_one hi, fa_or]
  show _ = nI (mk p i ||| (if p i = true then 2 ^ i else 0))
  rw [if_pos h]
theorem mk_no {p : Nat → Bool} {i : Nat} (h : ¬ p i = true) : nI (mk p i) ||| (0 : Int32) = nI (mk p (i + 1)) := by
  rw [z_nI, fa_or]
  show _ = nI (mk p i ||| _)
  rw [if_neg h]
theorem mk_if {p : Nat → Bool} {i : Nat} (hi : i < 31) : (if p i = true then nI (mk p i) ||| i_shl (1 : Int32) (nI i) else nI (mk p i) ||| (0 : Int32)) = nI (mk p (i + 1)) := by
  by_cases h : p i = true
  · rw [if_pos h]; exact mk_yes h hi
  · rw [if_neg h]; exact mk_no h
/-- how many bits -/
def pc (m : Nat) (n : Nat) : Nat := fb_ct (fun i => m.testBit i) n
theorem pc_mk (p : Nat → Bool) (n : Nat) : pc (mk p n) n = fb_ct p n := fb_ct_cong (fun k hk => by rw [mk_bit]; simp [hk])
def pc12 : Nat → Nat → Nat
  | _, 0 => 0
  | m, n + 1 => m % 2 + pc12 (m / 2) n
theorem bc_two : ∀ a, a < 64 → ∀ b, b < 64 → f_J6_bitCount_0f7a4 (nI (a * 64 + b)) = nI (pc12 (a * 64 + b) 12) := by decide +kernel
theorem bc_all (m : Nat) (h : m < 4096) : f_J6_bitCount_0f7a4 (nI m) = nI (pc12 m 12) := by
  have e := bc_two (m / 64) (by omega) (m % 64) (by omega)
  rw [show m / 64 * 64 + m % 64 = m by omega] at e
  exact e
theorem pc12_pc : ∀ n m, pc12 m n = pc m n
  | 0, m => rfl
  | n + 1, m => by
    unfold pc12
    rw [pc12_pc n (m / 2)]
    unfold pc
    rw [show n + 1 = 1 + n by omega, fb_ct_split]
    congr 1
    · rw [show (1 : Nat) = 0 + 1 from rfl, fb_ct_succ]
      show m % 2 = 0 + _
      rw [Nat.testBit_zero]
      by_cases h : m % 2 = 1
      · simp [h]
      · have : m % 2 = 0 := by omega
        simp [this]
    · apply fb_ct_cong
      intro k hk
      rw [Nat.testBit_div_two, Nat.add_comm]
theorem bc_mk (p : Nat → Bool) : f_J6_bitCount_0f7a4 (nI (mk p 12)) = nI (fb_ct p 12) := by
  rw [bc_all _ (mk_lt p 12), pc12_pc, pc_mk]
theorem bc_pc {m : Nat} (h : m < 4096) : f_J6_bitCount_0f7a4 (nI m) = nI (pc m 12) := by
  rw [bc_all _ h, pc12_pc]
/-! the class's masks -/
def sgd (a : AL) (c : Nat) : Bool := decide (aS a c ≠ 0)
def err (g : Nat → Nat) (a : AL) (c : Nat) : Bool := decide (aS a c ≠ 0) && decide (aS a c ≠ g c)
def drw (g : Nat → Nat) (a : AL) (c : Nat) : Bool := decide (aS a c = 0) && decide (g c ≠ 0)
def opt (g : Nat → Nat) (a : AL) (t : Bool) (c : Nat) : Bool := opn a c && (t || decide (g c ≠ 4))
theorem n0_nI {a : Nat} (h : a ≠ 0) (ha : a < 2 ^ 31) : ¬ nI a = (0 : Int32) := nI_ne 0 rfl h ha (by decide)
theorem neq_nI {a : Nat} (v : Int32) (b : Nat) (hv : v = nI b) (h : a ≠ b) (ha : a < 2 ^ 31) (hb : b < 2 ^ 31) : ¬ nI a = v := nI_ne b hv h ha hb
theorem mkL {R : Type} (F : Nat → Int32 → Nat → R) (p : Nat → Bool) (r : R) (hs : ∀ n i v, i < 12 → F (n + 1) v i = F n (if p i = true then v ||| i_shl (1 : Int32) (nI i) else v ||| (0 : Int32)) (i + 1)) (he : ∀ n, F (n + 1) (nI (mk p 12)) 12 = r) : F FU 0 0 = r := by
  refine lpI (fun n i v => F n v i) (fun i v => v = nI (mk p i)) 12 r ?_ ?_ 12 FU 0 0 rfl (by decide) rfl
  · rintro n i v hi rfl
    exact Or.inr ⟨_, hs n i _ hi, mk_if (by omega)⟩
  · rintro n v rfl
    exact he n
theorem sgdC {g : Nat → Nat} {a : AL} {x : LV} {B : Nat} (h : CR g a x) (hw : WA B a) : f_X1_signedCells x = some (nI (mk (sgd a) 12)) := by
  refine mkL (fun n v i => f_X1_signedCells_L4 (fun (v1_1 : Int32) (v2_2 : Int32) => some v1_1) x n v (nI i)) (sgd a) _ ?_ (fun n => rfl)
  intro n i v hi
  show f_X1_signedCells_L4 _ x (n + 1) v (nI i) = f_X1_signedCells_L4 _ x n _ (nI (i + 1))
  rw [f_X1_signedCells_L4]
  show (if (12 : Int32) ≤ nI i then _ else _) = _
  rw [if_neg (nge_nI 12 12 rfl hi (by decide)), signOf_nb x (by omega), h.2.1 i hi, nI_1]
  have := hw.1 i hi
  by_cases e : aS a i = 0
  · rw [if_pos (by rw [e]; rfl), if_neg (by simp [sgd, e])]
  · rw [if_neg (n0_nI e (by omega)), if_pos (by simp [sgd, e])]
def nsg (a : AL) : Nat := fb_ct (sgd a) 12
theorem cntC {g : Nat → Nat} {a : AL} {x : LV} {B : Nat} (h : CR g a x) (hw : WA B a) : f_X1_countSigns x = some (nI (nsg a)) := by
  unfold f_X1_countSigns
  rw [sgdC h hw]
  show some _ = _
  rw [bc_mk]
  rfl
theorem isErrC {g : Nat → Nat} {a : AL} {x : LV} {c : Nat} (hl : nb x.1 c = g c) (hs : nb x.2.1 c = aS a c) (h1 : g c ≤ 4) (h2 : aS a c ≤ 4) (hc : c < 12) : f_X1_isError x (nI c) = if err g a c = true then 1 else 0 := by
  unfold f_X1_isError
  rw [signOf_nb x (by omega), landOf_nb x (by omega), hl, hs]
  by_cases e : aS a c = 0
  · rw [if_pos (by rw [e]; rfl), if_neg (by simp [err, e])]
  · rw [if_neg (n0_nI e (by omega))]
    by_cases q : aS a c = g c
    · rw [if_pos (by rw [q]), if_neg (by simp [err, q])]
    · rw [if_neg (fun z => q ((nI_eq (by omega) (by omega)).mp z)), if_pos (by simp [err, e, q])]
theorem errC {g : Nat → Nat} {a : AL} {x : LV} {B : Nat} (h : CR g a x) (hg : WG g) (hw : WA B a) : f_X1_errors x = some (nI (mk (err g a) 12)) := by
  refine mkL (fun n v i => f_X1_errors_L4 (fun (v1_1 : Int32) (v2_2 : Int32) => some v1_1) x n v (nI i)) (err g a) _ ?_ (fun n => rfl)
  intro n i v hi
  show f_X1_errors_L4 _ x (n + 1) v (nI i) = f_X1_errors_L4 _ x n _ (nI (i + 1))
  rw [f_X1_errors_L4]
  show (if (12 : Int32) ≤ nI i then _ else _) = _
  rw [if_neg (nge_nI 12 12 rfl hi (by decide)), isErrC (h.1 i hi) (h.2.1 i hi) (hg i hi) (hw.1 i hi) hi, nI_1]
  by_cases e : err g a i = true
  · rw [if_pos e, if_pos e, if_neg (by decide)]
  · rw [if_neg e, if_neg e, if_pos rfl]
theorem drwC {g : Nat → Nat} {a : AL} {x : LV} {B : Nat} (h : CR g a x) (hg : WG g) (hw : WA B a) : f_X1_cellsToDraw x = some (nI (mk (drw g a) 12)) := by
  refine mkL (fun n v i => f_X1_cellsToDraw_L4 (fun (v1_1 : Int32) (v2_2 : Int32) => some v1_1) x n v (nI i)) (drw g a) _ ?_ (fun n => rfl)
  intro n i v hi
  show f_X1_cellsToDraw_L4 _ x (n + 1) v (nI i) = f_X1_cellsToDraw_L4 _ x n _ (nI (i + 1))
  rw [f_X1_cellsToDraw_L4]
  show (if (12 : Int32) ≤ nI i then _ else _) = _
  rw [if_neg (nge_nI 12 12 rfl hi (by decide)), signOf_nb x (by omega), landOf_nb x (by omega), h.2.1 i hi, h.1 i hi, nI_1]
  have := hw.1 i hi
  have := hg i hi
  by_cases e : aS a i = 0
  · rw [if_pos (by rw [e]; rfl)]
    by_cases q : g i = 0
    · rw [if_pos (by rw [q]; rfl), if_neg (by simp [drw, q])]
    · rw [if_neg (n0_nI q (by omega)), if_pos (by simp [drw, e, q])]
  · rw [if_neg (n0_nI e (by omega)), if_neg (by simp [drw, e])]
theorem optC {g : Nat → Nat} {a : AL} {x : LV} {B : Nat} (h : CR g a x) (hg : WG g) (hw : WA B a) (v1 : Int32) : f_X1_openCells x v1 = some (nI (mk (opt g a (decide (v1 = 0))) 12)) := by
  refine mkL (fun n v i => f_X1_openCells_L4 (fun (v1_1 : Int32) (v2_2 : Int32) => some v1_1) v1 x n v (nI i)) (opt g a (decide (v1 = 0))) _ ?_ (fun n => rfl)
  intro n i v hi
  show f_X1_openCells_L4 _ v1 x (n + 1) v (nI i) = f_X1_openCells_L4 _ v1 x n _ (nI (i + 1))
  rw [f_X1_openCells_L4]
  show (if (12 : Int32) ≤ nI i then _ else _) = _
  rw [if_neg (nge_nI 12 12 rfl hi (by decide)), nI_1]
  unfold f_X1_isOpen
  rw [signOf_nb x (by omega), landOf_nb x (by omega), h.2.1 i hi, h.1 i hi]
  have := hw.1 i hi
  have := hg i hi
  by_cases e : aS a i = 0
  · rw [if_pos (by rw [e]; rfl), if_neg (by simp [opt, opn, e])]
  · rw [if_neg (n0_nI e (by omega))]
    by_cases q : aS a i = 4
    · rw [if_pos (by rw [q]; rfl), if_neg (by simp [opt, opn, q])]
    · rw [if_neg (neq_nI 4 4 rfl q (by omega) (by decide))]
      have ho : opn a i = true := by simp [opn]; omega
      by_cases z : v1 = 0
      · rw [if_pos z, if_neg (by decide), if_pos (by simp [opt, ho, z])]
      · rw [if_neg z]
        by_cases w : g i = 4
        · rw [if_pos (by rw [w]; rfl), if_neg (by simp [opt, w, z])]
        · rw [if_neg (neq_nI 4 4 rfl w (by omega) (by decide)), if_neg (by decide), if_pos (by simp [opt, ho, w])]
/-! the reference's masks -/
theorem le0_0 : nI 0 ≤ (0 : Int32) := by decide
theorem nle0_nI {a : Nat} (h : a ≠ 0) (ha : a < 2 ^ 31) : ¬ nI a ≤ (0 : Int32) := fun q => h ((le0_nI ha).mp q)
theorem sgdM {a : AL} {p : Nat → Int32} {B : Nat} (h : PR a p) (hw : WA B a) : f_X4_signsOf p = some (nI (nsg a)) := by
  unfold f_X4_signsOf
  refine lpI (fun n i v => f_X4_signsOf_L4 (fun (v1_1 : Int32) (v2_2 : Int32) => some v1_1) p n v (nI i)) (fun i v => v = nI (fb_ct (sgd a) i)) 12 (some (nI (nsg a))) ?_ ?_ 12 FU 0 0 rfl (by decide) rfl
  · rintro n i v hi rfl
    right
    show ∃ s', f_X4_signsOf_L4 _ p (n + 1) (nI (fb_ct (sgd a) i)) (nI i) = f_X4_signsOf_L4 _ p n s' (nI (i + 1)) ∧ s' = nI (fb_ct (sgd a) (i + 1))
    refine ⟨_, ?_, rfl⟩
    rw [f_X4_signsOf_L4]
    show (if (12 : Int32) ≤ nI i then _ else _) = _
    rw [if_neg (nge_nI 12 12 rfl hi (by decide)), o_g_nI (by omega) (by decide), nI_clamp (by omega), h.1 i hi, nI_1, fb_ct_succ]
    have := hw.1 i hi
    by_cases e : aS a i = 0
    · rw [if_pos (by rw [e]; exact le0_0), if_neg (by simp [sgd, e]), Int32.add_zero]
      rfl
    · rw [if_neg (nle0_nI e (by omega)), if_pos (by simp [sgd, e]), nI_1]
  · rintro n v rfl
    rfl
theorem errM {g : Nat → Nat} {a : AL} {l p : Nat → Int32} {B : Nat} (hl : LR g l) (h : PR a p) (hg : WG g) (hw : WA B a) : f_X4_errorsOf l p = some (nI (mk (err g a) 12)) := by
  refine mkL (fun n v i => f_X4_errorsOf_L4 (fun (v1_1 : Int32) (v2_2 : Int32) => some v1_1) l p n v (nI i)) (err g a) _ ?_ (fun n => rfl)
  intro n i v hi
  show f_X4_errorsOf_L4 _ l p (n + 1) v (nI i) = f_X4_errorsOf_L4 _ l p n _ (nI (i + 1))
  rw [f_X4_errorsOf_L4]
  show (if (12 : Int32) ≤ nI i then _ else _) = _
  rw [if_neg (nge_nI 12 12 rfl hi (by decide)), o_g_nI (by omega) (by decide), o_g_nI (by omega) (by decide), o_g_nI (by omega) (by decide), nI_clamp (by omega), h.1 i hi, hl i hi, nI_1]
  have := hw.1 i hi
  have := hg i hi
  by_cases e : aS a i = 0
  · rw [if_pos (by rw [e]; exact le0_0), if_neg (by simp [err, e])]
  · rw [if_neg (nle0_nI e (by omega))]
    by_cases q : aS a i = g i
    · rw [if_pos (by rw [q]), if_neg (by simp [err, q])]
    · rw [if_neg (fun z => q ((nI_eq (by omega) (by omega)).mp z)), if_pos (by simp [err, e, q])]
theorem drwM {g : Nat → Nat} {a : AL} {l p : Nat → Int32} {B : Nat} (hl : LR g l) (h : PR a p) (hg : WG g) (hw : WA B a) (K : Int32 → Int32 → Option (Int32 × Int32 × Int32 × Int32 × (Nat → Int32) × (Nat → Int32))) : f_X4_draws_L24 K l p FU 0 0 = K (nI (mk (drw g a) 12)) 12 := by
  refine mkL (fun n v i => f_X4_draws_L24 K l p n v (nI i)) (drw g a) _ ?_ (fun n => rfl)
  intro n i v hi
  show f_X4_draws_L24 _ l p (n + 1) v (nI i) = f_X4_draws_L24 _ l p n _ (nI (i + 1))
  rw [f_X4_draws_L24]
  show (if (12 : Int32) ≤ nI i then _ else _) = _
  rw [if_neg (nge_nI 12 12 rfl hi (by decide)), o_g_nI (by omega) (by decide), o_g_nI (by omega) (by decide), nI_clamp (by omega), h.1 i hi, hl i hi, nI_1]
  have := hw.1 i hi
  have := hg i hi
  by_cases e : aS a i = 0
  · rw [if_pos (by rw [e]; rfl)]
    by_cases q : g i = 0
    · rw [if_pos (by rw [q]; exact le0_0), if_neg (by simp [drw, q])]
    · rw [if_neg (nle0_nI q (by omega)), if_pos (by simp [drw, e, q])]
  · rw [if_neg (n0_nI e (by omega)), if_neg (by simp [drw, e])]
