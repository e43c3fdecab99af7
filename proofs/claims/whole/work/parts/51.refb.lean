/-- the reference's object and its arrays, which never change -/
def RB (h : AH) (m : Nat) (ra : Nat → Nat) : Prop := gK h m = (10, 0) ∧ (∀ i j, ra i = ra j ↔ i = j) ∧ (gR h 450 m = some (ra 0) ∧ gK h (ra 0) = (101, 2000)) ∧ (gR h 452 m = some (ra 2) ∧ gK h (ra 2) = (101, 2000)) ∧ (gR h 454 m = some (ra 4) ∧ gK h (ra 4) = (101, 8000)) ∧ (gR h 456 m = some (ra 6) ∧ gK h (ra 6) = (102, 120)) ∧ (gR h 457 m = some (ra 7) ∧ gK h (ra 7) = (100, 120)) ∧ (gR h 458 m = some (ra 8) ∧ gK h (ra 8) = (101, 960)) ∧ (gR h 459 m = some (ra 9) ∧ gK h (ra 9) = (100, 120)) ∧ (gR h 460 m = some (ra 10) ∧ gK h (ra 10) = (100, 120)) ∧ (gR h 461 m = some (ra 11) ∧ gK h (ra 11) = (100, 120)) ∧ (gR h 462 m = some (ra 12) ∧ gK h (ra 12) = (100, 120)) ∧ (gR h 463 m = some (ra 13) ∧ gK h (ra 13) = (100, 120)) ∧ (gR h 464 m = some (ra 14) ∧ gK h (ra 14) = (100, 120)) ∧ (gR h 465 m = some (ra 15) ∧ gK h (ra 15) = (100, 120)) ∧ (gR h 466 m = some (ra 16) ∧ gK h (ra 16) = (100, 120)) ∧ (gR h 467 m = some (ra 17) ∧ gK h (ra 17) = (101, 3840)) ∧ (gR h 468 m = some (ra 18) ∧ gK h (ra 18) = (100, 480)) ∧ (gR h 469 m = some (ra 19) ∧ gK h (ra 19) = (101, 28800)) ∧ (gR h 470 m = some (ra 20) ∧ gK h (ra 20) = (100, 480)) ∧ (gR h 471 m = some (ra 21) ∧ gK h (ra 21) = (101, 48000)) ∧ (gR h 472 m = some (ra 22) ∧ gK h (ra 22) = (100, 120)) ∧ (gR h 473 m = some (ra 23) ∧ gK h (ra 23) = (102, 120)) ∧ (gR h 474 m = some (ra 24) ∧ gK h (ra 24) = (100, 120)) ∧ (gR h 477 m = some (ra 27) ∧ gK h (ra 27) = (100, 40)) ∧ (gR h 478 m = some (ra 28) ∧ gK h (ra 28) = (100, 40)) ∧ (gR h 479 m = some (ra 29) ∧ gK h (ra 29) = (100, 22)) ∧ (gR h 481 m = some (ra 31) ∧ gK h (ra 31) = (101, 2000)) ∧ (gR h 484 m = some (ra 34) ∧ gK h (ra 34) = (101, 8)) ∧ (gR h 487 m = some (ra 37) ∧ gK h (ra 37) = (101, 32)) ∧ (gR h 488 m = some (ra 38) ∧ gK h (ra 38) = (100, 4)) ∧ (gR h 489 m = some (ra 39) ∧ gK h (ra 39) = (101, 240)) ∧ (gR h 490 m = some (ra 40) ∧ gK h (ra 40) = (100, 4)) ∧ (gR h 492 m = some (ra 42) ∧ gK h (ra 42) = (100, 2000)) ∧ (gR h 493 m = some (ra 43) ∧ gK h (ra 43) = (101, 8)) ∧ (gR h 494 m = some (ra 44) ∧ gK h (ra 44) = (101, 60))
theorem RB.o {h : AH} {m : Nat} {ra : Nat → Nat} (q : RB h m ra) : gK h m = (10, 0) := q.1
theorem RB.i {h : AH} {m : Nat} {ra : Nat → Nat} (q : RB h m ra) (i j : Nat) : (ra i = ra j) = (i = j) := propext (q.2.1 i j)
theorem RB.r0 {h : AH} {m : Nat} {ra : Nat → Nat} (q : RB h m ra) : gR h 450 m = some (ra 0) := q.2.2.1.1
theorem RB.k0 {h : AH} {m : Nat} {ra : Nat → Nat} (q : RB h m ra) : gK h (ra 0) = (101, 2000) := q.2.2.1.2
theorem RB.r2 {h : AH} {m : Nat} {ra : Nat → Nat} (q : RB h m ra) : gR h 452 m = some (ra 2) := q.2.2.2.1.1
theorem RB.k2 {h : AH} {m : Nat} {ra : Nat → Nat} (q : RB h m ra) : gK h (ra 2) = (101, 2000) := q.2.2.2.1.2
theorem RB.r4 {h : AH} {m : Nat} {ra : Nat → Nat} (q : RB h m ra) : gR h 454 m = some (ra 4) := q.2.2.2.2.1.1
theorem RB.k4 {h : AH} {m : Nat} {ra : Nat → Nat} (q : RB h m ra) : gK h (ra 4) = (101, 8000) := q.2.2.2.2.1.2
theorem RB.r6 {h : AH} {m : Nat} {ra : Nat → Nat} (q : RB h m ra) : gR h 456 m = some (ra 6) := q.2.2.2.2.2.1.1
theorem RB.k6 {h : AH} {m : Nat} {ra : Nat → Nat} (q : RB h m ra) : gK h (ra 6) = (102, 120) := q.2.2.2.2.2.1.2
theorem RB.r7 {h : AH} {m : Nat} {ra : Nat → Nat} (q : RB h m ra) : gR h 457 m = some (ra 7) := q.2.2.2.2.2.2.1.1
theorem RB.k7 {h : AH} {m : Nat} {ra : Nat → Nat} (q : RB h m ra) : gK h (ra 7) = (100, 120) := q.2.2.2.2.2.2.1.2
theorem RB.r8 {h : AH} {m : Nat} {ra : Nat → Nat} (q : RB h m ra) : gR h 458 m = some (ra 8) := q.2.2.2.2.2.2.2.1.1
theorem RB.k8 {h : AH} {m : Nat} {ra : Nat → Nat} (q : RB h m ra) : gK h (ra 8) = (101, 960) := q.2.2.2.2.2.2.2.1.2
theorem RB.r9 {h : AH} {m : Nat} {ra : Nat → Nat} (q : RB h m ra) : gR h 459 m = some (ra 9) := q.2.2.2.2.2.2.2.2.1.1
theorem RB.k9 {h : AH} {m : Nat} {ra : Nat → Nat} (q : RB h m ra) : gK h (ra 9) = (100, 120) := q.2.2.2.2.2.2.2.2.1.2
theorem RB.r10 {h : AH} {m : Nat} {ra : Nat → Nat} (q : RB h m ra) : gR h 460 m = some (ra 10) := q.2.2.2.2.2.2.2.2.2.1.1
theorem RB.k10 {h : AH} {m : Nat} {ra : Nat → Nat} (q : RB h m ra) : gK h (ra 10) = (100, 120) := q.2.2.2.2.2.2.2.2.2.1.2
theorem RB.r11 {h : AH} {m : Nat} {ra : Nat → Nat} (q : RB h m ra) : gR h 461 m = some (ra 11) := q.2.2.2.2.2.2.2.2.2.2.1.1
theorem RB.k11 {h : AH} {m : Nat} {ra : Nat → Nat} (q : RB h m ra) : gK h (ra 11) = (100, 120) := q.2.2.2.2.2.2.2.2.2.2.1.2
theorem RB.r12 {h : AH} {m : Nat} {ra : Nat → Nat} (q : RB h m ra) : gR h 462 m = some (ra 12) := q.2.2.2.2.2.2.2.2.2.2.2.1.1
theorem RB.k12 {h : AH} {m : Nat} {ra : Nat → Nat} (q : RB h m ra) : gK h (ra 12) = (100, 120) := q.2.2.2.2.2.2.2.2.2.2.2.1.2
theorem RB.r13 {h : AH} {m : Nat} {ra : Nat → Nat} (q : RB h m ra) : gR h 463 m = some (ra 13) := q.2.2.2.2.2.2.2.2.2.2.2.2.1.1
theorem RB.k13 {h : AH} {m : Nat} {ra : Nat → Nat} (q : RB h m ra) : gK h (ra 13) = (100, 120) := q.2.2.2.2.2.2.2.2.2.2.2.2.1.2
theorem RB.r14 {h : AH} {m : Nat} {ra : Nat → Nat} (q : RB h m ra) : gR h 464 m = some (ra 14) := q.2.2.2.2.2.2.2.2.2.2.2.2.2.1.1
theorem RB.k14 {h : AH} {m : Nat} {ra : Nat → Nat} (q : RB h m ra) : gK h (ra 14) = (100, 120) := q.2.2.2.2.2.2.2.2.2.2.2.2.2.1.2
theorem RB.r15 {h : AH} {m : Nat} {ra : Nat → Nat} (q : RB h m ra) : gR h 465 m = some (ra 15) := q.2.2.2.2.2.2.2.2.2.2.2.2.2.2.1.1
theorem RB.k15 {h : AH} {m : Nat} {ra : Nat → Nat} (q : RB h m ra) : gK h (ra 15) = (100, 120) := q.2.2.2.2.2.2.2.2.2.2.2.2.2.2.1.2
theorem RB.r16 {h : AH} {m : Nat} {ra : Nat → Nat} (q : RB h m ra) : gR h 466 m = some (ra 16) := q.2.2.2.2.2.2.2.2.2.2.2.2.2.2.2.1.1
theorem RB.k16 {h : AH} {m : Nat} {ra : Nat → Nat} (q : RB h m ra) : gK h (ra 16) = (100, 120) := q.2.2.2.2.2.2.2.2.2.2.2.2.2.2.2.1.2
theorem RB.r17 {h : AH} {m : Nat} {ra : Nat → Nat} (q : RB h m ra) : gR h 467 m = some (ra 17) := q.2.2.2.2.2.2.2.2.2.2.2.2.2.2.2.2.1.1
theorem RB.k17 {h : AH} {m : Nat} {ra : Nat → Nat} (q : RB h m ra) : gK h (ra 17) = (101, 3840) := q.2.2.2.2.2.2.2.2.2.2.2.2.2.2.2.2.1.2
theorem RB.r18 {h : AH} {m : Nat} {ra : Nat → Nat} (q : RB h m ra) : gR h 468 m = some (ra 18) := q.2.2.2.2.2.2.2.2.2.2.2.2.2.2.2.2.2.1.1
theorem RB.k18 {h : AH} {m : Nat} {ra : Nat → Nat} (q : RB h m ra) : gK h (ra 18) = (100, 480) := q.2.2.2.2.2.2.2.2.2.2.2.2.2.2.2.2.2.1.2
theorem RB.r19 {h : AH} {m : Nat} {ra : Nat → Nat} (q : RB h m ra) : gR h 469 m = some (ra 19) := q.2.2.2.2.2.2.2.2.2.2.2.2.2.2.2.2.2.2.1.1
theorem RB.k19 {h : AH} {m : Nat} {ra : Nat → Nat} (q : RB h m ra) : gK h (ra 19) = (101, 28800) := q.2.2.2.2.2.2.2.2.2.2.2.2.2.2.2.2.2.2.1.2
theorem RB.r20 {h : AH} {m : Nat} {ra : Nat → Nat} (q : RB h m ra) : gR h 470 m = some (ra 20) := q.2.2.2.2.2.2.2.2.2.2.2.2.2.2.2.2.2.2.2.1.1
theorem RB.k20 {h : AH} {m : Nat} {ra : Nat → Nat} (q : RB h m ra) : gK h (ra 20) = (100, 480) := q.2.2.2.2.2.2.2.2.2.2.2.2.2.2.2.2.2.2.2.1.2
theorem RB.r21 {h : AH} {m : Nat} {ra : Nat → Nat} (q : RB h m ra) : gR h 471 m = some (ra 21) := q.2.2.2.2.2.2.2.2.2.2.2.2.2.2.2.2.2.2.2.2.1.1
theorem RB.k21 {h : AH} {m : Nat} {ra : Nat → Nat} (q : RB h m ra) : gK h (ra 21) = (101, 48000) := q.2.2.2.2.2.2.2.2.2.2.2.2.2.2.2.2.2.2.2.2.1.2
theorem RB.r22 {h : AH} {m : Nat} {ra : Nat → Nat} (q : RB h m ra) : gR h 472 m = some (ra 22) := q.2.2.2.2.2.2.2.2.2.2.2.2.2.2.2.2.2.2.2.2.2.1.1
theorem RB.k22 {h : AH} {m : Nat} {ra : Nat → Nat} (q : RB h m ra) : gK h (ra 22) = (100, 120) := q.2.2.2.2.2.2.2.2.2.2.2.2.2.2.2.2.2.2.2.2.2.1.2
theorem RB.r23 {h : AH} {m : Nat} {ra : Nat → Nat} (q : RB h m ra) : gR h 473 m = some (ra 23) := q.2.2.2.2.2.2.2.2.2.2.2.2.2.2.2.2.2.2.2.2.2.2.1.1
theorem RB.k23 {h : AH} {m : Nat} {ra : Nat → Nat} (q : RB h m ra) : gK h (ra 23) = (102, 120) := q.2.2.2.2.2.2.2.2.2.2.2.2.2.2.2.2.2.2.2.2.2.2.1.2
theorem RB.r24 {h : AH} {m : Nat} {ra : Nat → Nat} (q : RB h m ra) : gR h 474 m = some (ra 24) := q.2.2.2.2.2.2.2.2.2.2.2.2.2.2.2.2.2.2.2.2.2.2.2.1.1
theorem RB.k24 {h : AH} {m : Nat} {ra : Nat → Nat} (q : RB h m ra) : gK h (ra 24) = (100, 120) := q.2.2.2.2.2.2.2.2.2.2.2.2.2.2.2.2.2.2.2.2.2.2.2.1.2
theorem RB.r27 {h : AH} {m : Nat} {ra : Nat → Nat} (q : RB h m ra) : gR h 477 m = some (ra 27) := q.2.2.2.2.2.2.2.2.2.2.2.2.2.2.2.2.2.2.2.2.2.2.2.2.1.1
theorem RB.k27 {h : AH} {m : Nat} {ra : Nat → Nat} (q : RB h m ra) : gK h (ra 27) = (100, 40) := q.2.2.2.2.2.2.2.2.2.2.2.2.2.2.2.2.2.2.2.2.2.2.2.2.1.2
theorem RB.r28 {h : AH} {m : Nat} {ra : Nat → Nat} (q : RB h m ra) : gR h 478 m = some (ra 28) := q.2.2.2.2.2.2.2.2.2.2.2.2.2.2.2.2.2.2.2.2.2.2.2.2.2.1.1
theorem RB.k28 {h : AH} {m : Nat} {ra : Nat → Nat} (q : RB h m ra) : gK h (ra 28) = (100, 40) := q.2.2.2.2.2.2.2.2.2.2.2.2.2.2.2.2.2.2.2.2.2.2.2.2.2.1.2
theorem RB.r29 {h : AH} {m : Nat} {ra : Nat → Nat} (q : RB h m ra) : gR h 479 m = some (ra 29) := q.2.2.2.2.2.2.2.2.2.2.2.2.2.2.2.2.2.2.2.2.2.2.2.2.2.2.1.1
theorem RB.k29 {h : AH} {m : Nat} {ra : Nat → Nat} (q : RB h m ra) : gK h (ra 29) = (100, 22) := q.2.2.2.2.2.2.2.2.2.2.2.2.2.2.2.2.2.2.2.2.2.2.2.2.2.2.1.2
theorem RB.r31 {h : AH} {m : Nat} {ra : Nat → Nat} (q : RB h m ra) : gR h 481 m = some (ra 31) := q.2.2.2.2.2.2.2.2.2.2.2.2.2.2.2.2.2.2.2.2.2.2.2.2.2.2.2.1.1
theorem RB.k31 {h : AH} {m : Nat} {ra : Nat → Nat} (q : RB h m ra) : gK h (ra 31) = (101, 2000) := q.2.2.2.2.2.2.2.2.2.2.2.2.2.2.2.2.2.2.2.2.2.2.2.2.2.2.2.1.2
theorem RB.r34 {h : AH} {m : Nat} {ra : Nat → Nat} (q : RB h m ra) : gR h 484 m = some (ra 34) := q.2.2.2.2.2.2.2.2.2.2.2.2.2.2.2.2.2.2.2.2.2.2.2.2.2.2.2.2.1.1
theorem RB.k34 {h : AH} {m : Nat} {ra : Nat → Nat} (q : RB h m ra) : gK h (ra 34) = (101, 8) := q.2.2.2.2.2.2.2.2.2.2.2.2.2.2.2.2.2.2.2.2.2.2.2.2.2.2.2.2.1.2
theorem RB.r37 {h : AH} {m : Nat} {ra : Nat → Nat} (q : RB h m ra) : gR h 487 m = some (ra 37) := q.2.2.2.2.2.2.2.2.2.2.2.2.2.2.2.2.2.2.2.2.2.2.2.2.2.2.2.2.2.1.1
theorem RB.k37 {h : AH} {m : Nat} {ra : Nat → Nat} (q : RB h m ra) : gK h (ra 37) = (101, 32) := q.2.2.2.2.2.2.2.2.2.2.2.2.2.2.2.2.2.2.2.2.2.2.2.2.2.2.2.2.2.1.2
theorem RB.r38 {h : AH} {m : Nat} {ra : Nat → Nat} (q : RB h m ra) : gR h 488 m = some (ra 38) := q.2.2.2.2.2.2.2.2.2.2.2.2.2.2.2.2.2.2.2.2.2.2.2.2.2.2.2.2.2.2.1.1
theorem RB.k38 {h : AH} {m : Nat} {ra : Nat → Nat} (q : RB h m ra) : gK h (ra 38) = (100, 4) := q.2.2.2.2.2.2.2.2.2.2.2.2.2.2.2.2.2.2.2.2.2.2.2.2.2.2.2.2.2.2.1.2
theorem RB.r39 {h : AH} {m : Nat} {ra : Nat → Nat} (q : RB h m ra) : gR h 489 m = some (ra 39) := q.2.2.2.2.2.2.2.2.2.2.2.2.2.2.2.2.2.2.2.2.2.2.2.2.2.2.2.2.2.2.2.1.1
theorem RB.k39 {h : AH} {m : Nat} {ra : Nat → Nat} (q : RB h m ra) : gK h (ra 39) = (101, 240) := q.2.2.2.2.2.2.2.2.2.2.2.2.2.2.2.2.2.2.2.2.2.2.2.2.2.2.2.2.2.2.2.1.2
theorem RB.r40 {h : AH} {m : Nat} {ra : Nat → Nat} (q : RB h m ra) : gR h 490 m = some (ra 40) := q.2.2.2.2.2.2.2.2.2.2.2.2.2.2.2.2.2.2.2.2.2.2.2.2.2.2.2.2.2.2.2.2.1.1
theorem RB.k40 {h : AH} {m : Nat} {ra : Nat → Nat} (q : RB h m ra) : gK h (ra 40) = (100, 4) := q.2.2.2.2.2.2.2.2.2.2.2.2.2.2.2.2.2.2.2.2.2.2.2.2.2.2.2.2.2.2.2.2.1.2
theorem RB.r42 {h : AH} {m : Nat} {ra : Nat → Nat} (q : RB h m ra) : gR h 492 m = some (ra 42) := q.2.2.2.2.2.2.2.2.2.2.2.2.2.2.2.2.2.2.2.2.2.2.2.2.2.2.2.2.2.2.2.2.2.1.1
theorem RB.k42 {h : AH} {m : Nat} {ra : Nat → Nat} (q : RB h m ra) : gK h (ra 42) = (100, 2000) := q.2.2.2.2.2.2.2.2.2.2.2.2.2.2.2.2.2.2.2.2.2.2.2.2.2.2.2.2.2.2.2.2.2.1.2
theorem RB.r43 {h : AH} {m : Nat} {ra : Nat → Nat} (q : RB h m ra) : gR h 493 m = some (ra 43) := q.2.2.2.2.2.2.2.2.2.2.2.2.2.2.2.2.2.2.2.2.2.2.2.2.2.2.2.2.2.2.2.2.2.2.1.1
theorem RB.k43 {h : AH} {m : Nat} {ra : Nat → Nat} (q : RB h m ra) : gK h (ra 43) = (101, 8) := q.2.2.2.2.2.2.2.2.2.2.2.2.2.2.2.2.2.2.2.2.2.2.2.2.2.2.2.2.2.2.2.2.2.2.1.2
theorem RB.r44 {h : AH} {m : Nat} {ra : Nat → Nat} (q : RB h m ra) : gR h 494 m = some (ra 44) := q.2.2.2.2.2.2.2.2.2.2.2.2.2.2.2.2.2.2.2.2.2.2.2.2.2.2.2.2.2.2.2.2.2.2.2.1
theorem RB.k44 {h : AH} {m : Nat} {ra : Nat → Nat} (q : RB h m ra) : gK h (ra 44) = (101, 60) := q.2.2.2.2.2.2.2.2.2.2.2.2.2.2.2.2.2.2.2.2.2.2.2.2.2.2.2.2.2.2.2.2.2.2.2.2
theorem RB.eq {h h1 : AH} {m : Nat} {ra : Nat → Nat} (q : RB h m ra) (e1 : gR h1 = gR h) (e2 : gK h1 = gK h) : RB h1 m ra := by unfold RB; rw [e1, e2]; exact q
