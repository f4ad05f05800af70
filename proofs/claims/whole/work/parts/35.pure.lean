-- ===== reading and writing of the pure state =====
theorem sg_wg (σ : Sg) (a k a' k' : Nat) (v : Int32) : (sg_w σ a k v).1 a' k' = if a' = a ∧ k' = k then v else σ.1 a' k' := by
  unfold sg_w upd
  by_cases h : a' = a
  · by_cases h2 : k' = k
    · simp [h, h2]
    · simp [h, h2]
  · simp [h]
theorem sg_wgs {σ : Sg} {a k : Nat} {v : Int32} : (sg_w σ a k v).1 a k = v := by rw [sg_wg]; simp
theorem sg_wga {σ : Sg} {a k a' k' : Nat} {v : Int32} (h : a' ≠ a) : (sg_w σ a k v).1 a' k' = σ.1 a' k' := by rw [sg_wg, if_neg (fun q => h q.1)]
theorem sg_wgk {σ : Sg} {a k a' k' : Nat} {v : Int32} (h : k' ≠ k) : (sg_w σ a k v).1 a' k' = σ.1 a' k' := by rw [sg_wg, if_neg (fun q => h q.2)]
theorem sg_w2 {σ : Sg} {a k : Nat} {v : Int32} : (sg_w σ a k v).2 = σ.2 := rfl
theorem sg_xN {j : Nat} (h : j < 2 ^ 31) : sg_x (nI j) = j := nI_clamp h
theorem sg_ibN {j n : Nat} (h : j < n) (hn : n ≤ 2 ^ 31) : sg_ib (nI j) n := ⟨nI_pos (by omega), by rw [nI_clamp (by omega)]; exact h⟩
theorem sg_icN {j : Nat} (h : j < 65536) : sg_c (nI j) = nI j := by
  show ((nI j).toUInt32 % 65536).toInt32 = nI j
  rw [pk_char, pk_tn (by omega), Nat.mod_eq_of_lt h]
theorem sg_narN {j : Nat} (h : j < 65536) : vp_nar .char (nI j) = nI j := by
  have h1 := pk_vc (nI j)
  rw [show ((nI j).toUInt32 % 65536).toInt32 = nI j from sg_icN h] at h1
  exact h1
theorem nI_lit (n : Nat) : (OfNat.ofNat n : Int32) = nI n := rfl
/-- an int is below 0, not below n, or a number below n -/
theorem sg_ix3 (x : Int32) {n : Nat} (hn : n < 2 ^ 31) : x < 0 ∨ nI n ≤ x ∨ ∃ j : Nat, j < n ∧ x = nI j := pk_ix x hn
-- ===== what a shelf is: numbers by kind and place =====
/-- kinds: 0 length of the text, 1 its signs, 2 how many records, 3 letters (8 a record), 4 fields of a record, 5 tag, 6 and 7 indicators, 8 subfields (of field 8r+f), 9 code, 10 length (of subfield 4(8r+f)+s), 11 its letters (20 a subfield), 12 how many headings, 13 headings -/
abbrev Sh : Type := Nat → Nat → Nat
def ps_sub (S : Sh) (u : Nat) : Prop := S 9 u < 128 ∧ S 10 u ≤ 20 ∧ ∀ i, i < S 10 u → S 11 (20 * u + i) < 128
def ps_fld (S : Sh) (q : Nat) : Prop := 1 ≤ S 5 q ∧ S 5 q ≤ 999 ∧ S 6 q < 128 ∧ S 7 q < 128 ∧ 1 ≤ S 8 q ∧ S 8 q ≤ 4 ∧ (S 5 q < 10 → S 8 q = 1) ∧ ∀ s, s < S 8 q → ps_sub S (4 * q + s)
def ps_rec (S : Sh) (r : Nat) : Prop := S 4 r ≤ 8 ∧ (∀ i, i < 8 → S 3 (8 * r + i) < 128) ∧ ∀ f, f < S 4 r → ps_fld S (8 * r + f)
def ps_ok (S : Sh) : Prop := S 0 0 ≤ 600 ∧ (∀ i, i < S 0 0 → S 1 i < 128) ∧ S 2 0 ≤ 6 ∧ (∀ r, r < S 2 0 → ps_rec S r) ∧ S 12 0 ≤ 192 ∧ ∀ k, k < S 12 0 → S 13 k < 192
-- the reference's memory holds it
def rm_sub (m : Nat) (τ : Sg) (S : Sh) (u : Nat) : Prop := τ.1 (m + 8) u = nI (S 9 u) ∧ τ.1 (m + 9) u = nI (S 10 u) ∧ ∀ i, i < S 10 u → τ.1 (m + 10) (20 * u + i) = nI (S 11 (20 * u + i))
def rm_fld (m : Nat) (τ : Sg) (S : Sh) (q : Nat) : Prop := τ.1 (m + 4) q = nI (S 5 q) ∧ τ.1 (m + 5) q = nI (S 6 q) ∧ τ.1 (m + 6) q = nI (S 7 q) ∧ τ.1 (m + 7) q = nI (S 8 q) ∧ ∀ s, s < S 8 q → rm_sub m τ S (4 * q + s)
def rm_rec (m : Nat) (τ : Sg) (S : Sh) (r : Nat) : Prop := τ.1 (m + 3) r = nI (S 4 r) ∧ (∀ i, i < 8 → τ.1 (m + 2) (8 * r + i) = nI (S 3 (8 * r + i))) ∧ ∀ f, f < S 4 r → rm_fld m τ S (8 * r + f)
def rm_txt (m : Nat) (τ : Sg) (S : Sh) : Prop := τ.1 m 1 = nI (S 0 0) ∧ ∀ i, i < S 0 0 → τ.1 (m + 1) i = nI (S 1 i)
def rm_hds (m : Nat) (τ : Sg) (S : Sh) : Prop := τ.1 m 15 = nI (S 12 0) ∧ ∀ k, k < S 12 0 → τ.1 (m + 12) k = nI (S 13 k)
def rm_all (m : Nat) (τ : Sg) (S : Sh) (pl : Int32) : Prop := rm_txt m τ S ∧ τ.1 m 2 = nI (S 2 0) ∧ (∀ r, r < S 2 0 → rm_rec m τ S r) ∧ rm_hds m τ S ∧ τ.1 m 13 = pl
-- keys
def ky_al (c : Nat) : Bool := (97 ≤ c && c ≤ 122) || (48 ≤ c && c ≤ 57) || (65 ≤ c && c ≤ 90)
def ky_lo (c : Nat) : Nat := if 65 ≤ c ∧ c ≤ 90 then c + 32 else c
/-- the key so far, and whether a gap is pending -/
def ky_st (p : List Nat × Bool) (c : Nat) : List Nat × Bool := if ky_al c then ((if p.2 ∧ p.1 ≠ [] then p.1 ++ [32] else p.1) ++ [ky_lo c], false) else (p.1, true)
def ky_of (cs : List Nat) : List Nat × Bool := cs.foldl ky_st ([], false)
def ps_chars (S : Sh) (u : Nat) : List Nat := (List.range (S 10 u)).map (fun i => S 11 (20 * u + i))
def ps_text (S : Sh) : List Nat := (List.range (S 0 0)).map (fun i => S 1 i)
-- the class's memory holds it
def rc_key (σ : Sg) (ka : Nat) (p : List Nat × Bool) : Prop := σ.1 ka 1 = nI p.1.length ∧ (∀ i, i < p.1.length → σ.1 (ka + 1) i = nI (p.1.getD i 0)) ∧ σ.1 ka 2 = if p.2 then 1 else 0
def rc_sub (σ : Sg) (S : Sh) (u a : Nat) : Prop := σ.1 a 3 = nI (S 9 u) ∧ σ.1 a 2 = nI (S 10 u) ∧ (∀ i, i < S 10 u → σ.1 (a + 1) i = nI (S 11 (20 * u + i))) ∧ rc_key σ (a + 2) (ky_of (ps_chars S u))
def rc_fld (σ : Sg) (S : Sh) (q a : Nat) : Prop := σ.1 a 2 = nI (S 5 q) ∧ σ.1 a 3 = nI (S 6 q) ∧ σ.1 a 4 = nI (S 7 q) ∧ σ.1 a 1 = nI (S 8 q) ∧ ∀ s, s < S 8 q → rc_sub σ S (4 * q + s) (a + 2 + 4 * s)
abbrev ad_C (b r : Nat) : Nat := b + 10 + 147 * r
abbrev ad_F (b r p : Nat) : Nat := b + 10 + 147 * r + 3 + 18 * p
def rc_rec (b : Nat) (σ : Sg) (S : Sh) (r : Nat) : Prop := σ.1 (ad_C b r) 2 = nI (S 4 r) ∧ (∀ i, i < 8 → σ.1 (ad_C b r + 1) i = nI (S 3 (8 * r + i))) ∧ ∀ f, f < S 4 r → rc_fld σ S (8 * r + f) (σ.2 (ad_C b r + 2) f)
def rc_txt (b : Nat) (σ : Sg) (S : Sh) : Prop := σ.1 (b + 2) 1 = nI (S 0 0) ∧ ∀ i, i < S 0 0 → σ.1 (b + 3) i = nI (S 1 i)
def rc_hds (b : Nat) (σ : Sg) (S : Sh) : Prop := σ.1 (b + 6) 1 = nI (S 12 0) ∧ ∀ k, k < S 12 0 → σ.1 (b + 7) k = nI (S 13 k)
/-- the rows of fields: each record's own eight, each once -/
def rc_row (b : Nat) (σ : Sg) : Prop := ∀ r, r < 6 → (∀ i, i < 8 → ∃ p, p < 8 ∧ σ.2 (ad_C b r + 2) i = ad_F b r p) ∧ ∀ i j, i < 8 → j < 8 → σ.2 (ad_C b r + 2) i = σ.2 (ad_C b r + 2) j → i = j
def rc_all (b : Nat) (σ : Sg) (S : Sh) (pl : Int32) : Prop := rc_txt b σ S ∧ σ.1 b 5 = nI (S 2 0) ∧ (∀ r, r < S 2 0 → rc_rec b σ S r) ∧ rc_hds b σ S ∧ σ.1 (b + 1) 7 = pl ∧ rc_row b σ
/-- both hold the same -/
def JJ (b : Nat) (σ : Sg) (m : Nat) (τ : Sg) : Prop := ∃ (S : Sh) (pl : Int32), ps_ok S ∧ rc_all b σ S pl ∧ rm_all m τ S pl
