/-! ===== IMAGE: person, book, tables, world ===== -/
theorem ky_person {tg : Nat → Nat → Prop} {sr : Nat → Nat → Nat} {S0 S : ov_S} {p q d : Nat} {Q : ov_Q} (hd : 1 ≤ d) (h : kyc tg S0 S) (h35 : kyR tg sr 35 p q) (h36 : kyR tg sr 36 p q) (h37 : kyR tg sr 37 p q) (h38 : kyR tg sr 38 p q) (h39 : kyR tg sr 39 p q) (h40 : kyR tg sr 40 p q) (h7 : kyR tg sr 7 p q) (hQ : ∀ S', kyc tg S0 S' → kym sr S0 S S' → (∀ j, j < 10 → kyd sr S0 S' 35 p j) → (∀ j, j < 10 → kyd sr S0 S' 36 p j) → (∀ j, j < 10 → kyd sr S0 S' 37 p j) → (∀ j, j < 10 → kyd sr S0 S' 38 p j) → (∀ j, j < 10 → kyd sr S0 S' 39 p j) → (∀ j, j < 3 → kyd sr S0 S' 40 p j) → kyd sr S0 S' 7 p 6 → kyd sr S0 S' 7 p 7 → Q none S') : ov_V true true d 0 0 mq_Person_copyFrom 0 [some (.inr (.inr (true, 7, p))), some (.inr (.inr (true, 7, q)))] [] S Q := by
  refine r_Person_copyFrom_0 hd ?_
  show Q none (kyf (kyf (kyr (kyr (kyr (kyr (kyr (kyr S 35 p q 10) 36 p q 10) 37 p q 10) 38 p q 10) 39 p q 10) 40 p q 3) 7 p q 6) 7 p q 7)
  have n3 : ov_ix (3 : Int32) = 3 := zz_ix (n := 3) (by decide)
  have n10 : ov_ix (10 : Int32) = 10 := zz_ix (n := 10) (by decide)
  obtain ⟨a0, b0, c0⟩ := ky_r n10 h h35.1 h35.2.1 h35.2.2
  obtain ⟨a1, b1, c1⟩ := ky_r n10 a0 h36.1 h36.2.1 h36.2.2
  obtain ⟨a2, b2, c2⟩ := ky_r n10 a1 h37.1 h37.2.1 h37.2.2
  obtain ⟨a3, b3, c3⟩ := ky_r n10 a2 h38.1 h38.2.1 h38.2.2
  obtain ⟨a4, b4, c4⟩ := ky_r n10 a3 h39.1 h39.2.1 h39.2.2
  obtain ⟨a5, b5, c5⟩ := ky_r n3 a4 h40.1 h40.2.1 h40.2.2
  obtain ⟨a6, b6, c6⟩ := ky_f (j := 6) a5 h7.1 h7.2.1 h7.2.2
  obtain ⟨a7, b7, c7⟩ := ky_f (j := 7) a6 h7.1 h7.2.1 h7.2.2
  exact hQ _ a7 (kym_t c0 (kym_t c1 (kym_t c2 (kym_t c3 (kym_t c4 (kym_t c5 (kym_t c6 c7))))))) (fun j hj => c7 _ _ _ (c6 _ _ _ (c5 _ _ _ (c4 _ _ _ (c3 _ _ _ (c2 _ _ _ (c1 _ _ _ (b0 j hj)))))))) (fun j hj => c7 _ _ _ (c6 _ _ _ (c5 _ _ _ (c4 _ _ _ (c3 _ _ _ (c2 _ _ _ (b1 j hj))))))) (fun j hj => c7 _ _ _ (c6 _ _ _ (c5 _ _ _ (c4 _ _ _ (c3 _ _ _ (b2 j hj)))))) (fun j hj => c7 _ _ _ (c6 _ _ _ (c5 _ _ _ (c4 _ _ _ (b3 j hj))))) (fun j hj => c7 _ _ _ (c6 _ _ _ (c5 _ _ _ (b4 j hj)))) (fun j hj => c7 _ _ _ (c6 _ _ _ (b5 j hj))) (c7 _ _ _ b6) (b7)
theorem ky_book {tg : Nat → Nat → Prop} {sr : Nat → Nat → Nat} {S0 S : ov_S} {p q d : Nat} {Q : ov_Q} (hd : 1 ≤ d) (h : kyc tg S0 S) (h22 : kyR tg sr 22 p q) (h23 : kyR tg sr 23 p q) (h24 : kyR tg sr 24 p q) (h25 : kyR tg sr 25 p q) (h26 : kyR tg sr 26 p q) (h4 : kyR tg sr 4 p q) (hQ : ∀ S', kyc tg S0 S' → kym sr S0 S S' → (∀ j, j < 99 → kyd sr S0 S' 22 p j) → (∀ j, j < 99 → kyd sr S0 S' 23 p j) → (∀ j, j < 99 → kyd sr S0 S' 24 p j) → (∀ j, j < 99 → kyd sr S0 S' 25 p j) → (∀ j, j < 99 → kyd sr S0 S' 26 p j) → kyd sr S0 S' 4 p 5 → Q none S') : ov_V true true d 0 0 mq_Book_copyFrom 0 [some (.inr (.inr (true, 4, p))), some (.inr (.inr (true, 4, q)))] [] S Q := by
  refine r_Book_copyFrom_0 hd ?_
  show Q none (kyf (kyr (kyr (kyr (kyr (kyr S 22 p q 99) 23 p q 99) 24 p q 99) 25 p q 99) 26 p q 99) 4 p q 5)
  have n99 : ov_ix (99 : Int32) = 99 := zz_ix (n := 99) (by decide)
  obtain ⟨a0, b0, c0⟩ := ky_r n99 h h22.1 h22.2.1 h22.2.2
  obtain ⟨a1, b1, c1⟩ := ky_r n99 a0 h23.1 h23.2.1 h23.2.2
  obtain ⟨a2, b2, c2⟩ := ky_r n99 a1 h24.1 h24.2.1 h24.2.2
  obtain ⟨a3, b3, c3⟩ := ky_r n99 a2 h25.1 h25.2.1 h25.2.2
  obtain ⟨a4, b4, c4⟩ := ky_r n99 a3 h26.1 h26.2.1 h26.2.2
  obtain ⟨a5, b5, c5⟩ := ky_f (j := 5) a4 h4.1 h4.2.1 h4.2.2
  exact hQ _ a5 (kym_t c0 (kym_t c1 (kym_t c2 (kym_t c3 (kym_t c4 c5))))) (fun j hj => c5 _ _ _ (c4 _ _ _ (c3 _ _ _ (c2 _ _ _ (c1 _ _ _ (b0 j hj)))))) (fun j hj => c5 _ _ _ (c4 _ _ _ (c3 _ _ _ (c2 _ _ _ (b1 j hj))))) (fun j hj => c5 _ _ _ (c4 _ _ _ (c3 _ _ _ (b2 j hj)))) (fun j hj => c5 _ _ _ (c4 _ _ _ (b3 j hj))) (fun j hj => c5 _ _ _ (b4 j hj)) (b5)
theorem ky_tables {tg : Nat → Nat → Prop} {sr : Nat → Nat → Nat} {S0 S : ov_S} {p q d : Nat} {Q : ov_Q} (hd : 1 ≤ d) (h : kyc tg S0 S) (h29 : kyR tg sr 29 p q) (h30 : kyR tg sr 30 p q) (h31 : kyR tg sr 31 p q) (h32 : kyR tg sr 32 p q) (h33 : kyR tg sr 33 p q) (h5 : kyR tg sr 5 p q) (hQ : ∀ S', kyc tg S0 S' → kym sr S0 S S' → (∀ j, j < 108 → kyd sr S0 S' 29 p j) → (∀ j, j < 9 → kyd sr S0 S' 30 p j) → (∀ j, j < 9 → kyd sr S0 S' 31 p j) → (∀ j, j < 9 → kyd sr S0 S' 32 p j) → (∀ j, j < 4 → kyd sr S0 S' 33 p j) → kyd sr S0 S' 5 p 4 → Q none S') : ov_V true true d 0 0 mq_Tables_copyFrom 0 [some (.inr (.inr (true, 5, p))), some (.inr (.inr (true, 5, q)))] [] S Q := by
  refine r_Tables_copyFrom_0 hd ?_
  show Q none (kyf (kyr (kyr (kyr (kyr (kyr S 29 p q 108) 30 p q 9) 31 p q 9) 32 p q 9) 33 p q 4) 5 p q 4)
  have n4 : ov_ix (4 : Int32) = 4 := zz_ix (n := 4) (by decide)
  have n9 : ov_ix (9 : Int32) = 9 := zz_ix (n := 9) (by decide)
  have n108 : ov_ix (108 : Int32) = 108 := zz_ix (n := 108) (by decide)
  obtain ⟨a0, b0, c0⟩ := ky_r n108 h h29.1 h29.2.1 h29.2.2
  obtain ⟨a1, b1, c1⟩ := ky_r n9 a0 h30.1 h30.2.1 h30.2.2
  obtain ⟨a2, b2, c2⟩ := ky_r n9 a1 h31.1 h31.2.1 h31.2.2
  obtain ⟨a3, b3, c3⟩ := ky_r n9 a2 h32.1 h32.2.1 h32.2.2
  obtain ⟨a4, b4, c4⟩ := ky_r n4 a3 h33.1 h33.2.1 h33.2.2
  obtain ⟨a5, b5, c5⟩ := ky_f (j := 4) a4 h5.1 h5.2.1 h5.2.2
  exact hQ _ a5 (kym_t c0 (kym_t c1 (kym_t c2 (kym_t c3 (kym_t c4 c5))))) (fun j hj => c5 _ _ _ (c4 _ _ _ (c3 _ _ _ (c2 _ _ _ (c1 _ _ _ (b0 j hj)))))) (fun j hj => c5 _ _ _ (c4 _ _ _ (c3 _ _ _ (c2 _ _ _ (b1 j hj))))) (fun j hj => c5 _ _ _ (c4 _ _ _ (c3 _ _ _ (b2 j hj)))) (fun j hj => c5 _ _ _ (c4 _ _ _ (b3 j hj))) (fun j hj => c5 _ _ _ (b4 j hj)) (b5)
