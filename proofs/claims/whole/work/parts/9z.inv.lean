/-! THE INVARIANT: all that the rows of both sides want of (q, L) -/
def AKey (q : xrho) (key : Int32) : Prop := ∃ c j, c < 6 ∧ j < nu q 46 c ∧ q.1 48 (60 * c + j) = key
def N1 (q : xrho) (n : Nat) : Prop := isN q 45 0 6 ∧ (∀ c, c < 6 → isN q 46 c 60) ∧ isN q 82 0 1200 ∧ isN q 12 0 40 ∧ isN q 44 0 n ∧ isN q 88 0 n
def N2 (q : xrho) : Prop := bkOK q ∧ ∀ r, r < 40 → (q.1 7 r < 0 ∨ isN q 7 r 5) ∧ isN q 10 r 5 ∧ isN q 11 r 5
def N3 (q : xrho) : Prop := (∀ c j, c < 6 → j < nu q 46 c → isN q 48 (60 * c + j) 9999 ∧ isN q 47 (60 * c + j) 4 ∧ (q.1 54 (60 * c + j) = 0 → q.1 49 (60 * c + j) = Int32.ofInt (-9))) ∧ frA q ∧ ∀ c, nu q 45 0 ≤ c → c < 6 → q.1 46 c = nI 0
def lt4 (q : xrho) (l : Nat) : Prop := (q.1 69 l = Int32.ofInt (-1) ∨ isN q 69 l 3) ∧ isN q 62 l 5 ∧ ∀ j, j < nu q 69 l → AKey q (q.1 74 (3 * l + j))
def lt2 (q : xrho) (l : Nat) : Prop := nu q 61 l < nu q 45 0 ∧ (q.1 63 l ≠ Int32.ofInt (-9) → isN q 63 l 39 ∧ isN q 72 l 5 ∧ isN q 70 l 9999 ∧ isN q 71 l 10000 ∧ nu q 70 l < nu q 71 l)
def lt0 (q : xrho) (l : Nat) : Prop := isN q 62 l 5 ∧ nu q 62 l < nu q 45 0 ∧ isN q 66 l 59 ∧ nu q 66 l < nu q 46 (nu q 62 l)
def lt1 (q : xrho) (l : Nat) : Prop := nu q 61 l < nu q 45 0 ∧ isN q 66 l 59 ∧ nu q 66 l < nu q 46 (nu q 61 l)
def ltr (q : xrho) (l : Nat) : Prop := isN q 60 l 14 ∧ isN q 61 l 5 ∧ (nu q 60 l ≠ 1 → nu q 60 l ≠ 2 → isN q 63 l 39) ∧ (nu q 60 l = 0 → lt0 q l) ∧ (nu q 60 l = 1 → lt1 q l) ∧ (nu q 60 l = 2 → lt2 q l) ∧ (nu q 60 l = 3 → isN q 72 l 5) ∧ (nu q 60 l = 4 → lt4 q l) ∧ (nu q 60 l = 5 → q.1 68 l < 0 → q.1 68 l = Int32.ofInt (-1)) ∧ (nu q 60 l = 7 ∨ nu q 60 l = 9 ∨ nu q 60 l = 11 ∨ nu q 60 l = 13 → q.1 62 l = 0)
def N4 (q : xrho) : Prop := ∀ l, l < nu q 82 0 → ltr q l
def N5 (q : xrho) : Prop := frL q ∧ ∀ x, x < 3600 → xbool (q.1 76 x) = true
def hd6 (q : xrho) (p : Nat) : Prop := isN q 15 p 5 ∧ isN q 21 p 5 ∧ ((q.1 15 p = nI 2 ∨ q.1 15 p = nI 3) → q.1 32 p = 0 → isN q 29 p 1199 ∧ nu q 29 p < nu q 82 0 ∧ q.1 60 (nu q 29 p) = nI 4 ∧ q.1 69 (nu q 29 p) = q.1 28 p ∧ q.1 70 (nu q 29 p) = q.1 16 p ∧ q.1 71 (nu q 29 p) = q.1 17 p)
def N6 (q : xrho) : Prop := ∀ p, p < 240 → hd6 q p
def gv7 (q : xrho) (g : Nat) : Prop := isN q 39 g 39 ∧ isN q 43 g 5 ∧ isN q 40 g 9999 ∧ isN q 41 g 10000 ∧ nu q 40 g < nu q 41 g
def N7 (q : xrho) : Prop := ∀ g, g < nu q 44 0 → gv7 q g
def N8 (q : xrho) : Prop := ∀ c k, c < 6 → k < 10000 → isN q 55 (10000 * c + k) 39 ∧ isN q 57 (10000 * c + k) 5
def N9 (q : xrho) (L : xLs) : Prop := ∀ p, p < 240 → (∀ x ∈ L.1 p, AKey q x.1) ∧ ∀ k ∈ L.2.1 p, AKey q k
def NN (q : xrho) (L : xLs) (n : Nat) : Prop := N1 q n ∧ N2 q ∧ N3 q ∧ N4 q ∧ N5 q ∧ N6 q ∧ N7 q ∧ N8 q ∧ N9 q L
def Inv (q : xrho) (L : xLs) (n : Nat) : Prop := PIv q (100 * (n : Int) + 100) ∧ NN q L n ∧ LX q L
/-! what the rows want follows -/
theorem N_bds {q : xrho} {n : Nat} (h : N1 q n) (hn : n ≤ 600) : bds q := ⟨h.1, h.2.1, h.2.2.1, h.2.2.2.1, ⟨h.2.2.2.2.1.1, by have := h.2.2.2.2.1.2; omega⟩, ⟨h.2.2.2.2.2.1, by have := h.2.2.2.2.2.2; omega⟩⟩
theorem N_last {q : xrho} (h : N6 q) : lastOK q := fun p hp a b => ((h p hp).2.2 a b).2.1
theorem N_gOK {q : xrho} {L : xLs} {n : Nat} (h : NN q L n) (hn : n ≤ 600) : gOK q := ⟨N_bds h.1 hn, N_last h.2.2.2.2.2.1, h.2.2.2.2.1.1⟩
theorem N_key {q : xrho} {n : Nat} (h1 : N1 q n) (h : N3 q) : keyOK q := fun c j hc hj => (h.1 c j (by have := h1.1.2; omega) hj).1
theorem N_cal {q : xrho} (h : N4 q) : calOK q := fun l hl e => by
  have := (h l hl).2.2.2.1 (nu_of e (by decide))
  exact this
theorem N_hlt {q : xrho} (h : bkOK q) : ∀ r, r < 40 → q.1 2 r = 1 → q.1 3 r < q.1 4 r := fun r hr e => by
  obtain ⟨a, b⟩ := h.2.2.1 r hr e
  obtain ⟨x, y, z, w⟩ := h.2.1 r a
  rw [x, y, nI_ltI (by omega) (by omega)]
  unfold nu at b
  exact b
theorem N_xb {q : xrho} (h : bkOK q) : ∀ r, r < 40 → xbool (q.1 2 r) = true := fun r hr => by
  rcases h.1 r hr with e | e <;> rw [e] <;> rfl
theorem N_okG {q : xrho} {L : xLs} {n : Nat} {B : Int} (h : NN q L n) (I : PIv q B) : okG q := by
  obtain ⟨h1, h2, h3, h4, h5, h6, h7, h8, h9⟩ := h
  refine ⟨h1.2.2.1, h5.2, fun p hp c => ?_⟩
  have key : (q.1 15 p = nI 2 ∨ q.1 15 p = nI 3) ∧ q.1 32 p = 0 := by
    rcases c with c | c
    · exact ⟨Or.inl c.1, c.2⟩
    · refine ⟨Or.inr c.1, ?_⟩
      have hr : p % 40 < nu q 12 0 := Classical.byContradiction fun hc => by
        have := ((I.2 (p % 40) (by omega) (by omega)).1 (p / 40)).1
        rw [show 40 * (p / 40) + p % 40 = p by omega, c.1] at this
        exact absurd this (by decide)
      have z := Pin_o (I.1 (p % 40) hr) (p / 40)
      have e3 : ti q 15 (40 * (p / 40) + p % 40) = 3 := by rw [show 40 * (p / 40) + p % 40 = p by omega]; unfold ti; rw [c.1]; decide
      have e0 : ti q 33 (40 * (p / 40) + p % 40) = 0 := by rw [show 40 * (p / 40) + p % 40 = p by omega]; unfold ti; rw [c.2]; decide
      have := (z (Or.inr e3)).2.2.2 e3 e0
      have t := this.1
      rw [show 40 * (p / 40) + p % 40 = p by omega] at t
      unfold ti at t
      exact Int32.toInt_inj.mp t
  have := (h6 p hp).2.2 key.1 key.2
  exact ⟨this.1, this.2.1⟩
theorem N_gv {q : xrho} {B : Int} {p : Nat} (I : PIv q B) (c : q.1 15 p = nI 2 ∨ q.1 15 p = nI 3) : (q.1 15 p = nI 2 → q.1 33 p = 0) ∧ (q.1 33 p ≠ 0 → q.1 32 p ≠ 0) ∧ (q.1 15 p = nI 3 → q.1 33 p = 0 → q.1 32 p = 0) := by
  have ep : 40 * (p / 40) + p % 40 = p := by omega
  have hr : p % 40 < nu q 12 0 := Classical.byContradiction fun hc => by
    have := ((I.2 (p % 40) (by omega) (by omega)).1 (p / 40)).1
    rw [ep] at this
    rw [this] at c
    revert c
    decide
  have z := Pin_o (I.1 (p % 40) hr) (p / 40)
  have cc : pgiv (fun h => ti q 15 (40 * h + p % 40)) (p / 40) := by
    show ti q 15 (40 * (p / 40) + p % 40) = 2 ∨ ti q 15 (40 * (p / 40) + p % 40) = 3
    rw [ep]
    exact c.imp (fun e => ti_k e (by decide)) (fun e => ti_k e (by decide))
  have z := z cc
  simp only [ep] at z
  have t : ∀ k, ti q k p = 0 ↔ q.1 k p = 0 := fun k => ⟨fun e => ti_e.mp (by unfold ti at e; rw [e]; decide), fun e => by unfold ti; rw [e]; decide⟩
  refine ⟨fun e => (t 33).mp (z.2.1 (ti_k e (by decide))), fun e f => z.2.2.1 (fun x => e ((t 33).mp x)) ((t 32).mpr f), fun e f => (t 32).mp (z.2.2.2 (ti_k e (by decide)) ((t 33).mpr f)).1⟩
theorem N_69 {q : xrho} {l : Nat} (h : ltr q l) (e : q.1 60 l = nI 4) : q.1 69 l = Int32.ofInt (-1) ∨ isN q 69 l 3 := (h.2.2.2.2.2.2.2.1 (nu_of e (by decide))).1
theorem N_gvI {q : xrho} {B : Int} (I : PIv q B) (h4 : N4 q) (h6 : N6 q) : gvI q := fun p hp => ⟨fun e => (N_gv I (Or.inl e)).1 e, fun e => (N_gv I (Or.inr e)).2.2 e, fun c e => by
  obtain ⟨a, b, d, f, g, h⟩ := (h6 p hp).2.2 c e
  refine ⟨fun hc => ?_, g, h⟩
  rcases N_69 (h4 _ b) d with x | x
  · rw [x] at hc; revert hc; decide
  · have := x.1
    rw [hc] at this
    have y := x.2
    revert this
    generalize nu q 69 (nu q 29 p) = m at *
    intro this
    have : m = 0 ∨ m = 1 ∨ m = 2 ∨ m = 3 := by omega
    rcases this with e | e | e | e <;> subst e <;> revert this <;> decide⟩
theorem N_gvJ {q : xrho} {B : Int} (I : PIv q B) (h4 : N4 q) (h6 : N6 q) : gvJ q := fun p hp c => ⟨(N_gv I c).2.1, fun e => by
  obtain ⟨a, b, d, f, g, h⟩ := (h6 p hp).2.2 c e
  refine ⟨f.symm, ?_⟩
  rw [← f]
  rcases N_69 (h4 _ b) d with x | x
  · exact Or.inl x
  · refine Or.inr ?_
    rw [x.1, ti_lt0, nI_toInt (by have := x.2; omega)]
    omega⟩
theorem N_owI {q : xrho} {B : Int} (n12 : nu q 12 0 ≤ 40) (I : PIv q B) : owI q := fun r hr => by
  by_cases hc : r < nu q 12 0
  · have g := Pin_g (I.1 r hc)
    refine ⟨⟨fun k hk e => ?_, fun e => ?_⟩, fun e => ?_⟩
    · have e' : ¬ ti q 9 (4 * r + k) < 0 := fun x => e (ti_lt0.mpr x)
      refine ti_e.mp (show ti q 9 (4 * r + k) = ti q 8 r from ?_)
      have : k = 0 ∨ k = 1 ∨ k = 2 ∨ k = 3 := by omega
      rcases this with h | h | h | h <;> subst h
      · exact g.1.resolve_left e'
      · exact g.2.1.resolve_left e'
      · exact g.2.2.1.resolve_left e'
      · exact g.2.2.2.resolve_left e'
    · have w := (Pin_c (I.1 r hc) (show 0 ≤ ti q 7 r by have : ¬ ti q 7 r < 0 := fun x => e (ti_lt0.mpr x); omega)).2.2.2.2
      rw [obits_0]
      intro k hk
      have : k = 0 ∨ k = 1 ∨ k = 2 ∨ k = 3 := by omega
      rcases this with h | h | h | h <;> subst h
      · exact ti_lt0.mpr w.1
      · exact ti_lt0.mpr w.2.1
      · exact ti_lt0.mpr w.2.2.1
      · exact ti_lt0.mpr w.2.2.2
    · have w := Pin_w (I.1 r hc) (fun x => by rw [e] at x; revert x; decide)
      rw [obits_0]
      intro k hk
      have : k = 0 ∨ k = 1 ∨ k = 2 ∨ k = 3 := by omega
      rcases this with h | h | h | h <;> subst h
      · exact ti_lt0.mpr w.1
      · exact ti_lt0.mpr w.2.1
      · exact ti_lt0.mpr w.2.2.1
      · exact ti_lt0.mpr w.2.2.2
  · have F := I.2 r (by omega) hr
    have o : obits q r = 0 := obits_0.mpr F.2.2.1
    exact ⟨⟨fun k hk e => absurd (F.2.2.1 k hk) e, fun _ => o⟩, fun _ => o⟩
theorem N_mv {q : xrho} {B : Int} (n12 : nu q 12 0 ≤ 40) (I : PIv q B) : mvOK q := fun r hr e f => by
  refine ⟨(N_owI n12 I r hr).1.2 f, fun hc => ?_⟩
  by_cases h : r < nu q 12 0
  · have := Pin_v0 (I.1 r h)
    have t := ti_lt0.mp hc
    have : 0 ≤ ti q 8 r := this
    unfold ti at this
    omega
  · exact (I.2 r (by omega) hr).2.2.2.2 e
theorem N_frP {q : xrho} {B : Int} (I : PIv q B) : frP q := fun r hr h => ⟨(I.2 r h hr).2.1, obits_0.mpr (I.2 r h hr).2.2.1⟩
theorem N_stz {q : xrho} {B : Int} (I : PIv q B) : stz q := fun h r _ hr hn => ((I.2 r hn hr).1 h).1
theorem N_own {q : xrho} {B : Int} {h r : Nat} (hr : r < 40) (I : PIv q B) (c : q.1 15 (40 * h + r) = nI 1 ∨ q.1 15 (40 * h + r) = nI 2 ∨ q.1 15 (40 * h + r) = nI 3) : r < nu q 12 0 ∧ q.1 2 r = 1 ∧ q.1 16 (40 * h + r) = q.1 3 r ∧ q.1 17 (40 * h + r) = q.1 4 r := by
  have hr : r < nu q 12 0 := Classical.byContradiction fun hc => by
    have := ((I.2 r (by omega) hr).1 h).1
    rw [this] at c
    revert c
    decide
  have z := Pin_a (I.1 r hr) h (by
    rcases c with e | e | e
    · exact Or.inl (ti_k e (by decide))
    · exact Or.inr (Or.inl (ti_k e (by decide)))
    · exact Or.inr (Or.inr (ti_k e (by decide))))
  exact ⟨hr, z.1, ti_e.mp z.2.1, ti_e.mp z.2.2⟩
theorem N_knU {q : xrho} {B : Int} (K : bkOK q) (I : PIv q B) : knU q := fun h s t key hh hs ht a b => Classical.byContradiction fun hne => by
  obtain ⟨s0, s1, s2, s3⟩ := N_own hs I (a.1.elim Or.inl (fun e => Or.inr (Or.inl e)))
  obtain ⟨t0, t1, t2, t3⟩ := N_own ht I (b.1.elim Or.inl (fun e => Or.inr (Or.inl e)))
  obtain ⟨x1, x2, x3, x4⟩ := K.2.1 s s0
  obtain ⟨y1, y2, y3, y4⟩ := K.2.1 t t0
  have a1 := a.2.1
  have a2 := a.2.2
  have b1 := b.2.1
  have b2 := b.2.2
  rw [s2, x1] at a1
  rw [s3, x2] at a2
  rw [t2, y1] at b1
  rw [t3, y2] at b2
  have z := K.2.2.2.1 s t hs ht hne s1 t1
  unfold nu at z
  rw [Int32.lt_iff_toInt_lt, nI_toInt (by omega)] at a1 b1
  rw [Int32.le_iff_toInt_le, nI_toInt (by omega)] at a2 b2
  omega
theorem sub_len {α : Type} [DecidableEq α] : ∀ (l U : List α), l.Nodup → (∀ x ∈ l, x ∈ U) → l.length ≤ U.length
  | [], _, _, _ => Nat.zero_le _
  | a :: l, U, hd, hs => by
    have hd' := List.nodup_cons.mp hd
    have ha := hs a (List.mem_cons_self ..)
    have z := sub_len l (U.erase a) hd'.2 (fun x hx => (List.mem_erase_of_ne (fun e => hd'.1 (by rw [← e]; exact hx))).mpr (hs x (List.mem_cons_of_mem _ hx)))
    rw [List.length_erase_of_mem ha] at z
    have := List.length_pos_of_mem ha
    rw [List.length_cons]
    omega
theorem AK_len {q : xrho} (h46 : ∀ c, c < 6 → isN q 46 c 60) {l : List Int32} (hs : srt id l) (hk : ∀ x ∈ l, AKey q x) : l.length ≤ 360 := by
  have z := sub_len l ((List.range 360).map (fun i => q.1 48 i)) (List.Pairwise.imp (fun {a b} (h : a < b) => fun e => by rw [e] at h; exact Int32.lt_irrefl h) hs) (fun x hx => by
    obtain ⟨c, j, hc, hj, e⟩ := hk x hx
    have := (h46 c hc).2
    exact List.mem_map.mpr ⟨60 * c + j, List.mem_range.mpr (by omega), e⟩)
  rw [List.length_map, List.length_range] at z
  exact z
theorem N_add {q : xrho} {L : xLs} {p : Nat} {key : Int32} (h46 : ∀ c, c < 6 → isN q 46 c 60) (h9 : N9 q L) (hX : LX q L) (hp : p < 240) : (addK (L.2.1 p) key).length < 500 := by
  have := AK_len h46 ((hX.1.2.1 p hp).2.2.2) (h9 p hp).2
  have := addK_len (l := L.2.1 p) (key := key)
  omega
theorem rg_of {q : xrho} {B : Int} {l r : Nat} (I : PIv q B) (hl : l < nu q 82 0) (h63 : q.1 63 l = nI r) (hr : r < 40) (hk : 3 ≤ ti q 60 l) : r < nu q 12 0 := rg_lt I hl h63 hr hk
theorem N_dlK {q : xrho} {L : xLs} {n l : Nat} {B : Int} (h : NN q L n) (I : PIv q B) (hX : LX q L) (hl : l < nu q 82 0) : dlK q L l := by
  obtain ⟨h1, h2, h3, h4, h5, h6, h7, h8, h9⟩ := h
  obtain ⟨a1, a2, a3, a4, a5, a6, a7, a8, a9, a10⟩ := h4 l hl
  have big : 3 ≤ nu q 60 l → ∃ r, r < nu q 12 0 ∧ pS q r (msg q l) ∧ 3 ≤ msg q l 0 := fun hk => by
    have := a3 (by omega) (by omega)
    have k : 3 ≤ ti q 60 l := by rw [ti_k a1.1 (by have := a1.2; omega)]; omega
    exact ⟨nu q 63 l, rg_lt I hl this.1 (by have := this.2; omega) k, ⟨l, hl, this.1, rfl⟩, k⟩
  refine ⟨a1, a2, a3, fun e => ?_, fun e => ?_, fun e => ?_, fun e => ?_, a9, a10, fun e => ?_⟩
  · obtain ⟨b1, b2, b3, b4⟩ := a4 e
    refine ⟨b1, b2, b3, b4, (h3.1 _ _ (by have := b1.2; omega) b4).2.1, ?_⟩
    have := (a3 (by omega) (by omega)).2
    have := a2.2
    exact N_add h1.2.1 h9 hX (by omega)
  · exact a5 e
  · exact ⟨(a6 e).1, fun x => ⟨((a6 e).2 x).2.2.1, ((a6 e).2 x).2.2.2.1, ((a6 e).2 x).2.2.2.2⟩⟩
  · obtain ⟨r, hr, hS, hk⟩ := big (by omega)
    refine ⟨(a8 e).1, fun hc => ?_⟩
    have z := (Pin_f (I.1 r hr) _ hS hk).2 (show ti q 60 l = 4 by rw [ti_k a1.1 (by have := a1.2; omega), e]; rfl)
    have z : 0 ≤ ti q 68 l := z
    have := ti_lt0.mp hc
    unfold ti at z
    omega
  · obtain ⟨r, hr, hS, hk⟩ := big (by omega)
    have z : 0 ≤ ti q 64 l := (Pin_q3 (I.1 r hr) _ hS hk).1
    intro hc
    have := ti_lt0.mp hc
    unfold ti at z
    omega
theorem N_okD {q : xrho} {L : xLs} {l : Nat} (D : dlK q L l) (C : ∀ c k, c < nu q 45 0 → k < 10000 → isN q 58 (10000 * c + k) 10000 ∧ nu q 58 (10000 * c + k) ≤ k ∧ isN q 59 (10000 * c + k) 10000 ∧ k < nu q 59 (10000 * c + k)) : okD q L l := by
  obtain ⟨a1, a2, a3, a4, a5, a6, a7, a8, a9, a10⟩ := D
  refine ⟨a1, a2, fun e => (a5 e).2.1, fun e f => ?_, a3, fun e => ?_, fun e => ?_⟩
  · obtain ⟨b0, b⟩ := a6 e
    obtain ⟨b1, b2, b3⟩ := b f
    have c1 := C (nu q 61 l) (nu q 70 l) b0 (by have := b1.2; omega)
    have c2 := C (nu q 61 l) (nu q 71 l - 1) b0 (by have := b2.2; omega)
    exact ⟨b1, b2, b3, c1.1, c1.2.1, c2.2.2.1, by have := c2.2.2.2; omega⟩
  · obtain ⟨b1, b2, b3, b4, b5, b6⟩ := a4 e
    exact ⟨b1, b3, b5, b6⟩
  · rcases (a7 e).1 with x | x
    · exact Or.inl (by rw [x]; decide)
    · exact Or.inr x
theorem R_copy {T0 X n : Nat} {q : xrho} {L : xLs} {M : xM} {ow : xOw} (H : RepE T0 X n q L M ow) : ∀ c k, c < nu q 45 0 → k < 10000 → isN q 58 (10000 * c + k) 10000 ∧ nu q 58 (10000 * c + k) ≤ k ∧ isN q 59 (10000 * c + k) 10000 ∧ k < nu q 59 (10000 * c + k) := fun c k hc hk => by
  obtain ⟨ad, fh, fp, cl, ll, dl, aa, pk, -, -, -, -, ⟨C1, C2⟩, -⟩ := H
  obtain ⟨cp, ak, cs, as, vs, -, -, ⟨v1, v2, v3⟩, -⟩ := C2 c (by rw [C1]; exact hc)
  obtain ⟨v, hv, hk'⟩ := v3 k hk
  obtain ⟨w1, w2, w3⟩ := v1 v hv
  obtain ⟨-, -, -, x1, x2⟩ := w3 k hk'
  refine ⟨isN_of x1 (by omega) (by omega), ?_, isN_of x2 (by omega) (by omega), ?_⟩
  · rw [nu_of x1 (by omega)]; exact hk'.1
  · rw [nu_of x2 (by omega)]; exact hk'.2
