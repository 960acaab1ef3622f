/-! the most he can live on: the class's search -/
def mx : Option Nat → Option Nat → Option Nat
  | none, o => o
  | some a, none => some a
  | some a, some b => some (if a < b then b else a)
def fo (f : Nat → Option Nat) : Nat → Option Nat
  | 0 => none
  | w + 1 => mx (fo f w) (f w)
def bst (g : Nat → Nat) : Nat → AL → Option Nat
  | 0, a => some (aF a)
  | n + 1, a => fo (fun w => if cn a w = true then bst g n (sp g a w) else none) 5
def vI : Option Nat → Int32
  | none => -9
  | some m => nI m
def oB (B : Nat) (o : Option Nat) : Prop := ∀ m, o = some m → m ≤ B
theorem oB_mx {B : Nat} {o p : Option Nat} (h : oB B o) (h2 : oB B p) : oB B (mx o p) := by
  intro m e
  cases o with
  | none => exact h2 m e
  | some a =>
    cases p with
    | none => exact h m e
    | some b =>
      have := h a rfl
      have := h2 b rfl
      simp only [mx, Option.some.injEq] at e
      split at e <;> omega
theorem oB_fo {B : Nat} {f : Nat → Option Nat} : ∀ n, (∀ w, w < n → oB B (f w)) → oB B (fo f n)
  | 0, _ => fun m e => by cases e
  | n + 1, h => oB_mx (oB_fo n (fun w hw => h w (by omega))) (h n (by omega))
theorem oB_bst {g : Nat → Nat} : ∀ {n B : Nat} {a : AL}, WA B a → oB (B + 3 * n) (bst g n a)
  | 0, B, a, hw => fun m e => by
    cases e
    exact hw.2.2.1
  | n + 1, B, a, hw => oB_fo 5 (fun w _ m e => by
    split at e
    · have := oB_bst (n := n) (WA_sp (g := g) (w := w) hw) m e
      omega
    · cases e)
theorem nm9_lt {a : Nat} (h : a < 2 ^ 31) : (-9 : Int32) < nI a := by
  rw [fa_lt, nI_toInt h]
  have : (-9 : Int32).toInt = -9 := rfl
  omega
theorem vI_max {B : Nat} (hB : B < 2 ^ 31) {o p : Option Nat} (h : oB B o) (h2 : oB B p) : i_max (vI o) (vI p) = vI (mx o p) := by
  unfold i_max
  cases o with
  | none =>
    cases p with
    | none => rfl
    | some b => exact if_pos (nm9_lt (Nat.lt_of_le_of_lt (h2 b rfl) hB))
  | some a =>
    have ha := h a rfl
    cases p with
    | none => exact if_neg (fun q => (fa_of_lt q).2.2.1 (nm9_lt (by omega)))
    | some b =>
      have hb := h2 b rfl
      show (if nI a < nI b then nI b else nI a) = nI (if a < b then b else a)
      by_cases z : a < b
      · rw [if_pos z, if_pos ((nI_ltI (by omega) (by omega)).mpr z)]
      · rw [if_neg z, if_neg (fun q => z ((nI_ltI (by omega) (by omega)).mp q))]
theorem mf_1 {g : Nat → Nat} {a : AL} {x : LV} (hc : CR g a x) : f_X3_mostFood_1 x (nI 0) = some (vI (bst g 0 a)) := by
  unfold f_X3_mostFood_1
  rw [if_neg (by decide), hc.2.2.2.1]
  rfl
theorem mfL_2 {g : Nat → Nat} {B : Nat} {a : AL} {x : LV} (hc : CR g a x) (hg : WG g) (hw : WA B a) (hB : B + 4 * (0 + 1) + 20 < 2 ^ 20) : ∀ (k f w : Nat) (s1 : LV), w + k = 5 → k < f → ∃ t1, f_X3_mostFood_2_L27 (fun (v3_4 : Int32) (v4_5 : Int32) (t1 : LV) => some (v3_4, t1)) (nI (0 + 1)) x f (vI (fo (fun w => if cn a w = true then bst g 0 (sp g a w) else none) w)) (nI w) s1 = some (vI (bst g (0 + 1) a), t1)
  | 0, f, w, s1, hik, h1 => by
    obtain ⟨f, rfl⟩ : ∃ m, f = m + 1 := ⟨f - 1, by omega⟩
    obtain rfl : w = 5 := by omega
    exact ⟨s1, rfl⟩
  | k + 1, f, w, s1, hik, h1 => by
    obtain ⟨f, rfl⟩ : ∃ m, f = m + 1 := ⟨f - 1, by omega⟩
    have ih := fun s1 => mfL_2 hc hg hw hB k f (w + 1) s1 (by omega) (by omega)
    rw [f_X3_mostFood_2_L27]
    dsimp only
    have hob : ∀ w', oB (B + 3 + 3 * 0) (if cn a w' = true then bst g 0 (sp g a w') else none) := fun w' m e => by
      split at e
      · exact oB_bst (WA_sp hw) m e
      · cases e
    rw [if_neg (show ¬ (4 : Int32) < nI w from fun q => by have := (nI_ltI (a := 4) (by decide) (by omega)).mp q; omega), nI_1]
    unfold o_let
    rw [become_eq]
    dsimp only
    by_cases e : cn a w = true
    · obtain ⟨x', h2, h3⟩ := live_yes hc hg hw (by omega) (show w < 5 by omega) e
      rw [h2]
      dsimp only
      rw [if_neg (show ¬ (1 : Int32) = 0 by decide), nI_pred]
      rw [mf_1 h3]
      dsimp only [Option.bind]
      rw [show i_max (vI (fo (fun w => if cn a w = true then bst g 0 (sp g a w) else none) w)) (vI (bst g 0 (sp g a w))) = vI (fo (fun w => if cn a w = true then bst g 0 (sp g a w) else none) (w + 1)) by
        rw [vI_max (B := B + 3 + 3 * 0) (by omega) (oB_fo w (fun w' _ => hob w')) (oB_bst (WA_sp hw))]
        show _ = vI (mx _ (if cn a w = true then bst g 0 (sp g a w) else none))
        rw [if_pos e]]
      exact ih _
    · rw [live_no hc hw (by omega) (show w < 5 by omega) (by simpa using e)]
      dsimp only
      rw [if_pos (show (0 : Int32) = 0 from rfl), show fo (fun w => if cn a w = true then bst g 0 (sp g a w) else none) w = fo (fun w => if cn a w = true then bst g 0 (sp g a w) else none) (w + 1) by
        show _ = mx (fo _ w) (if cn a w = true then bst g 0 (sp g a w) else none)
        rw [if_neg e]
        cases fo (fun w => if cn a w = true then bst g 0 (sp g a w) else none) w <;> rfl]
      exact ih _
theorem mf_2 {g : Nat → Nat} {n B : Nat} {a : AL} {x : LV} (hn : n < 2) (hc : CR g a x) (hg : WG g) (hw : WA B a) (hB : B + 4 * n + 20 < 2 ^ 20) (s1 : LV) : ∃ t1, f_X3_mostFood_2 x s1 (nI n) = some (vI (bst g n a), t1) := by
  unfold f_X3_mostFood_2
  cases n with
  | zero =>
    refine ⟨s1, ?_⟩
    rw [if_neg (by decide), hc.2.2.2.1]
    rfl
  | succ n =>
    rw [if_pos (pos_nI (by omega) (by omega))]
    obtain rfl : n = 0 := by omega
    exact mfL_2 hc hg hw (by omega) 5 FU 0 s1 rfl (by decide)
theorem mfL_3 {g : Nat → Nat} {n : Nat} {B : Nat} {a : AL} {x : LV} (hn : n < 2) (hc : CR g a x) (hg : WG g) (hw : WA B a) (hB : B + 4 * (n + 1) + 20 < 2 ^ 20) : ∀ (k f w : Nat) (s1 s2 : LV), w + k = 5 → k < f → ∃ t1 t2, f_X3_mostFood_3_L27 (fun (v3_4 : Int32) (v4_5 : Int32) (t1 : LV) (t2 : LV) => some (v3_4, t1, t2)) (nI (n + 1)) x f (vI (fo (fun w => if cn a w = true then bst g n (sp g a w) else none) w)) (nI w) s1 s2 = some (vI (bst g (n + 1) a), t1, t2)
  | 0, f, w, s1, s2, hik, h1 => by
    obtain ⟨f, rfl⟩ : ∃ m, f = m + 1 := ⟨f - 1, by omega⟩
    obtain rfl : w = 5 := by omega
    exact ⟨s1, s2, rfl⟩
  | k + 1, f, w, s1, s2, hik, h1 => by
    obtain ⟨f, rfl⟩ : ∃ m, f = m + 1 := ⟨f - 1, by omega⟩
    have ih := fun s1 s2 => mfL_3 hn hc hg hw hB k f (w + 1) s1 s2 (by omega) (by omega)
    rw [f_X3_mostFood_3_L27]
    dsimp only
    have hob : ∀ w', oB (B + 3 + 3 * n) (if cn a w' = true then bst g n (sp g a w') else none) := fun w' m e => by
      split at e
      · exact oB_bst (WA_sp hw) m e
      · cases e
    rw [if_neg (show ¬ (4 : Int32) < nI w from fun q => by have := (nI_ltI (a := 4) (by decide) (by omega)).mp q; omega), nI_1]
    unfold o_let
    rw [become_eq]
    dsimp only
    by_cases e : cn a w = true
    · obtain ⟨x', h2, h3⟩ := live_yes hc hg hw (by omega) (show w < 5 by omega) e
      rw [h2]
      dsimp only
      rw [if_neg (show ¬ (1 : Int32) = 0 by decide), nI_pred]
      obtain ⟨u2, hm⟩ := mf_2 hn h3 hg (WA_sp (g := g) (w := w) hw) (by omega) s2
      rw [hm]
      dsimp only [Option.bind]
      rw [show i_max (vI (fo (fun w => if cn a w = true then bst g n (sp g a w) else none) w)) (vI (bst g n (sp g a w))) = vI (fo (fun w => if cn a w = true then bst g n (sp g a w) else none) (w + 1)) by
        rw [vI_max (B := B + 3 + 3 * n) (by omega) (oB_fo w (fun w' _ => hob w')) (oB_bst (WA_sp hw))]
        show _ = vI (mx _ (if cn a w = true then bst g n (sp g a w) else none))
        rw [if_pos e]]
      exact ih _ u2
    · rw [live_no hc hw (by omega) (show w < 5 by omega) (by simpa using e)]
      dsimp only
      rw [if_pos (show (0 : Int32) = 0 from rfl), show fo (fun w => if cn a w = true then bst g n (sp g a w) else none) w = fo (fun w => if cn a w = true then bst g n (sp g a w) else none) (w + 1) by
        show _ = mx (fo _ w) (if cn a w = true then bst g n (sp g a w) else none)
        rw [if_neg e]
        cases fo (fun w => if cn a w = true then bst g n (sp g a w) else none) w <;> rfl]
      exact ih _ s2
theorem mf_3 {g : Nat → Nat} {n B : Nat} {a : AL} {x : LV} (hn : n < 3) (hc : CR g a x) (hg : WG g) (hw : WA B a) (hB : B + 4 * n + 20 < 2 ^ 20) (s1 s2 : LV) : ∃ t1 t2, f_X3_mostFood_3 x s1 s2 (nI n) = some (vI (bst g n a), t1, t2) := by
  unfold f_X3_mostFood_3
  cases n with
  | zero =>
    refine ⟨s1, s2, ?_⟩
    rw [if_neg (by decide), hc.2.2.2.1]
    rfl
  | succ n =>
    rw [if_pos (pos_nI (by omega) (by omega))]
    exact mfL_3 (by omega) hc hg hw (by omega) 5 FU 0 s1 s2 rfl (by decide)
theorem mfL_4 {g : Nat → Nat} {n : Nat} {B : Nat} {a : AL} {x : LV} (hn : n < 3) (hc : CR g a x) (hg : WG g) (hw : WA B a) (hB : B + 4 * (n + 1) + 20 < 2 ^ 20) : ∀ (k f w : Nat) (s1 s2 s3 : LV), w + k = 5 → k < f → ∃ t1 t2 t3, f_X3_mostFood_4_L27 (fun (v3_4 : Int32) (v4_5 : Int32) (t1 : LV) (t2 : LV) (t3 : LV) => some (v3_4, t1, t2, t3)) (nI (n + 1)) x f (vI (fo (fun w => if cn a w = true then bst g n (sp g a w) else none) w)) (nI w) s1 s2 s3 = some (vI (bst g (n + 1) a), t1, t2, t3)
  | 0, f, w, s1, s2, s3, hik, h1 => by
    obtain ⟨f, rfl⟩ : ∃ m, f = m + 1 := ⟨f - 1, by omega⟩
    obtain rfl : w = 5 := by omega
    exact ⟨s1, s2, s3, rfl⟩
  | k + 1, f, w, s1, s2, s3, hik, h1 => by
    obtain ⟨f, rfl⟩ : ∃ m, f = m + 1 := ⟨f - 1, by omega⟩
    have ih := fun s1 s2 s3 => mfL_4 hn hc hg hw hB k f (w + 1) s1 s2 s3 (by omega) (by omega)
    rw [f_X3_mostFood_4_L27]
    dsimp only
    have hob : ∀ w', oB (B + 3 + 3 * n) (if cn a w' = true then bst g n (sp g a w') else none) := fun w' m e => by
      split at e
      · exact oB_bst (WA_sp hw) m e
      · cases e
    rw [if_neg (show ¬ (4 : Int32) < nI w from fun q => by have := (nI_ltI (a := 4) (by decide) (by omega)).mp q; omega), nI_1]
    unfold o_let
    rw [become_eq]
    dsimp only
    by_cases e : cn a w = true
    · obtain ⟨x', h2, h3⟩ := live_yes hc hg hw (by omega) (show w < 5 by omega) e
      rw [h2]
      dsimp only
      rw [if_neg (show ¬ (1 : Int32) = 0 by decide), nI_pred]
      obtain ⟨u2, u3, hm⟩ := mf_3 hn h3 hg (WA_sp (g := g) (w := w) hw) (by omega) s2 s3
      rw [hm]
      dsimp only [Option.bind]
      rw [show i_max (vI (fo (fun w => if cn a w = true then bst g n (sp g a w) else none) w)) (vI (bst g n (sp g a w))) = vI (fo (fun w => if cn a w = true then bst g n (sp g a w) else none) (w + 1)) by
        rw [vI_max (B := B + 3 + 3 * n) (by omega) (oB_fo w (fun w' _ => hob w')) (oB_bst (WA_sp hw))]
        show _ = vI (mx _ (if cn a w = true then bst g n (sp g a w) else none))
        rw [if_pos e]]
      exact ih _ u2 u3
    · rw [live_no hc hw (by omega) (show w < 5 by omega) (by simpa using e)]
      dsimp only
      rw [if_pos (show (0 : Int32) = 0 from rfl), show fo (fun w => if cn a w = true then bst g n (sp g a w) else none) w = fo (fun w => if cn a w = true then bst g n (sp g a w) else none) (w + 1) by
        show _ = mx (fo _ w) (if cn a w = true then bst g n (sp g a w) else none)
        rw [if_neg e]
        cases fo (fun w => if cn a w = true then bst g n (sp g a w) else none) w <;> rfl]
      exact ih _ s2 s3
theorem mf_4 {g : Nat → Nat} {n B : Nat} {a : AL} {x : LV} (hn : n < 4) (hc : CR g a x) (hg : WG g) (hw : WA B a) (hB : B + 4 * n + 20 < 2 ^ 20) (s1 s2 s3 : LV) : ∃ t1 t2 t3, f_X3_mostFood_4 x s1 s2 s3 (nI n) = some (vI (bst g n a), t1, t2, t3) := by
  unfold f_X3_mostFood_4
  cases n with
  | zero =>
    refine ⟨s1, s2, s3, ?_⟩
    rw [if_neg (by decide), hc.2.2.2.1]
    rfl
  | succ n =>
    rw [if_pos (pos_nI (by omega) (by omega))]
    exact mfL_4 (by omega) hc hg hw (by omega) 5 FU 0 s1 s2 s3 rfl (by decide)
theorem mfL_5 {g : Nat → Nat} {n : Nat} {B : Nat} {a : AL} {x : LV} (hn : n < 4) (hc : CR g a x) (hg : WG g) (hw : WA B a) (hB : B + 4 * (n + 1) + 20 < 2 ^ 20) : ∀ (k f w : Nat) (s1 s2 s3 s4 : LV), w + k = 5 → k < f → ∃ t1 t2 t3 t4, f_X3_mostFood_5_L27 (fun (v3_4 : Int32) (v4_5 : Int32) (t1 : LV) (t2 : LV) (t3 : LV) (t4 : LV) => some (v3_4, t1, t2, t3, t4)) (nI (n + 1)) x f (vI (fo (fun w => if cn a w = true then bst g n (sp g a w) else none) w)) (nI w) s1 s2 s3 s4 = some (vI (bst g (n + 1) a), t1, t2, t3, t4)
  | 0, f, w, s1, s2, s3, s4, hik, h1 => by
    obtain ⟨f, rfl⟩ : ∃ m, f = m + 1 := ⟨f - 1, by omega⟩
    obtain rfl : w = 5 := by omega
    exact ⟨s1, s2, s3, s4, rfl⟩
  | k + 1, f, w, s1, s2, s3, s4, hik, h1 => by
    obtain ⟨f, rfl⟩ : ∃ m, f = m + 1 := ⟨f - 1, by omega⟩
    have ih := fun s1 s2 s3 s4 => mfL_5 hn hc hg hw hB k f (w + 1) s1 s2 s3 s4 (by omega) (by omega)
    rw [f_X3_mostFood_5_L27]
    dsimp only
    have hob : ∀ w', oB (B + 3 + 3 * n) (if cn a w' = true then bst g n (sp g a w') else none) := fun w' m e => by
      split at e
      · exact oB_bst (WA_sp hw) m e
      · cases e
    rw [if_neg (show ¬ (4 : Int32) < nI w from fun q => by have := (nI_ltI (a := 4) (by decide) (by omega)).mp q; omega), nI_1]
    unfold o_let
    rw [become_eq]
    dsimp only
    by_cases e : cn a w = true
    · obtain ⟨x', h2, h3⟩ := live_yes hc hg hw (by omega) (show w < 5 by omega) e
      rw [h2]
      dsimp only
      rw [if_neg (show ¬ (1 : Int32) = 0 by decide), nI_pred]
      obtain ⟨u2, u3, u4, hm⟩ := mf_4 hn h3 hg (WA_sp (g := g) (w := w) hw) (by omega) s2 s3 s4
      rw [hm]
      dsimp only [Option.bind]
      rw [show i_max (vI (fo (fun w => if cn a w = true then bst g n (sp g a w) else none) w)) (vI (bst g n (sp g a w))) = vI (fo (fun w => if cn a w = true then bst g n (sp g a w) else none) (w + 1)) by
        rw [vI_max (B := B + 3 + 3 * n) (by omega) (oB_fo w (fun w' _ => hob w')) (oB_bst (WA_sp hw))]
        show _ = vI (mx _ (if cn a w = true then bst g n (sp g a w) else none))
        rw [if_pos e]]
      exact ih _ u2 u3 u4
    · rw [live_no hc hw (by omega) (show w < 5 by omega) (by simpa using e)]
      dsimp only
      rw [if_pos (show (0 : Int32) = 0 from rfl), show fo (fun w => if cn a w = true then bst g n (sp g a w) else none) w = fo (fun w => if cn a w = true then bst g n (sp g a w) else none) (w + 1) by
        show _ = mx (fo _ w) (if cn a w = true then bst g n (sp g a w) else none)
        rw [if_neg e]
        cases fo (fun w => if cn a w = true then bst g n (sp g a w) else none) w <;> rfl]
      exact ih _ s2 s3 s4
theorem mf_5 {g : Nat → Nat} {n B : Nat} {a : AL} {x : LV} (hn : n < 5) (hc : CR g a x) (hg : WG g) (hw : WA B a) (hB : B + 4 * n + 20 < 2 ^ 20) (s1 s2 s3 s4 : LV) : ∃ t1 t2 t3 t4, f_X3_mostFood_5 x s1 s2 s3 s4 (nI n) = some (vI (bst g n a), t1, t2, t3, t4) := by
  unfold f_X3_mostFood_5
  cases n with
  | zero =>
    refine ⟨s1, s2, s3, s4, ?_⟩
    rw [if_neg (by decide), hc.2.2.2.1]
    rfl
  | succ n =>
    rw [if_pos (pos_nI (by omega) (by omega))]
    exact mfL_5 (by omega) hc hg hw (by omega) 5 FU 0 s1 s2 s3 s4 rfl (by decide)
theorem mfL_6 {g : Nat → Nat} {n : Nat} {B : Nat} {a : AL} {x : LV} (hn : n < 5) (hc : CR g a x) (hg : WG g) (hw : WA B a) (hB : B + 4 * (n + 1) + 20 < 2 ^ 20) : ∀ (k f w : Nat) (s1 s2 s3 s4 s5 : LV), w + k = 5 → k < f → ∃ t1 t2 t3 t4 t5, f_X3_mostFood_6_L27 (fun (v3_4 : Int32) (v4_5 : Int32) (t1 : LV) (t2 : LV) (t3 : LV) (t4 : LV) (t5 : LV) => some (v3_4, t1, t2, t3, t4, t5)) (nI (n + 1)) x f (vI (fo (fun w => if cn a w = true then bst g n (sp g a w) else none) w)) (nI w) s1 s2 s3 s4 s5 = some (vI (bst g (n + 1) a), t1, t2, t3, t4, t5)
  | 0, f, w, s1, s2, s3, s4, s5, hik, h1 => by
    obtain ⟨f, rfl⟩ : ∃ m, f = m + 1 := ⟨f - 1, by omega⟩
    obtain rfl : w = 5 := by omega
    exact ⟨s1, s2, s3, s4, s5, rfl⟩
  | k + 1, f, w, s1, s2, s3, s4, s5, hik, h1 => by
    obtain ⟨f, rfl⟩ : ∃ m, f = m + 1 := ⟨f - 1, by omega⟩
    have ih := fun s1 s2 s3 s4 s5 => mfL_6 hn hc hg hw hB k f (w + 1) s1 s2 s3 s4 s5 (by omega) (by omega)
    rw [f_X3_mostFood_6_L27]
    dsimp only
    have hob : ∀ w', oB (B + 3 + 3 * n) (if cn a w' = true then bst g n (sp g a w') else none) := fun w' m e => by
      split at e
      · exact oB_bst (WA_sp hw) m e
      · cases e
    rw [if_neg (show ¬ (4 : Int32) < nI w from fun q => by have := (nI_ltI (a := 4) (by decide) (by omega)).mp q; omega), nI_1]
    unfold o_let
    rw [become_eq]
    dsimp only
    by_cases e : cn a w = true
    · obtain ⟨x', h2, h3⟩ := live_yes hc hg hw (by omega) (show w < 5 by omega) e
      rw [h2]
      dsimp only
      rw [if_neg (show ¬ (1 : Int32) = 0 by decide), nI_pred]
      obtain ⟨u2, u3, u4, u5, hm⟩ := mf_5 hn h3 hg (WA_sp (g := g) (w := w) hw) (by omega) s2 s3 s4 s5
      rw [hm]
      dsimp only [Option.bind]
      rw [show i_max (vI (fo (fun w => if cn a w = true then bst g n (sp g a w) else none) w)) (vI (bst g n (sp g a w))) = vI (fo (fun w => if cn a w = true then bst g n (sp g a w) else none) (w + 1)) by
        rw [vI_max (B := B + 3 + 3 * n) (by omega) (oB_fo w (fun w' _ => hob w')) (oB_bst (WA_sp hw))]
        show _ = vI (mx _ (if cn a w = true then bst g n (sp g a w) else none))
        rw [if_pos e]]
      exact ih _ u2 u3 u4 u5
    · rw [live_no hc hw (by omega) (show w < 5 by omega) (by simpa using e)]
      dsimp only
      rw [if_pos (show (0 : Int32) = 0 from rfl), show fo (fun w => if cn a w = true then bst g n (sp g a w) else none) w = fo (fun w => if cn a w = true then bst g n (sp g a w) else none) (w + 1) by
        show _ = mx (fo _ w) (if cn a w = true then bst g n (sp g a w) else none)
        rw [if_neg e]
        cases fo (fun w => if cn a w = true then bst g n (sp g a w) else none) w <;> rfl]
      exact ih _ s2 s3 s4 s5
theorem mf_6 {g : Nat → Nat} {n B : Nat} {a : AL} {x : LV} (hn : n < 6) (hc : CR g a x) (hg : WG g) (hw : WA B a) (hB : B + 4 * n + 20 < 2 ^ 20) (s1 s2 s3 s4 s5 : LV) : ∃ t1 t2 t3 t4 t5, f_X3_mostFood_6 x s1 s2 s3 s4 s5 (nI n) = some (vI (bst g n a), t1, t2, t3, t4, t5) := by
  unfold f_X3_mostFood_6
  cases n with
  | zero =>
    refine ⟨s1, s2, s3, s4, s5, ?_⟩
    rw [if_neg (by decide), hc.2.2.2.1]
    rfl
  | succ n =>
    rw [if_pos (pos_nI (by omega) (by omega))]
    exact mfL_6 (by omega) hc hg hw (by omega) 5 FU 0 s1 s2 s3 s4 s5 rfl (by decide)
