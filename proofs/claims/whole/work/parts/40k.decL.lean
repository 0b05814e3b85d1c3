theorem dL_law_3525 : decode cL_law 3525 = .ok (.iconst 0, 1) := by decide +kernel
theorem dL_law_3526 : decode cL_law 3526 = .ok (.laload, 1) := by decide +kernel
theorem dL_law_3527 : decode cL_law 3527 = .ok (.iload 7, 2) := by decide +kernel
theorem dL_law_3529 : decode cL_law 3529 = .ok (.i2l, 1) := by decide +kernel
theorem dL_law_3530 : decode cL_law 3530 = .ok (.lcmp, 1) := by decide +kernel
theorem dL_law_3531 : decode cL_law 3531 = .ok (.ifCond .eq 5, 3) := by decide +kernel
theorem dL_law_3534 : decode cL_law 3534 = .ok (.iconst 0, 1) := by decide +kernel
theorem dL_law_3535 : decode cL_law 3535 = .ok (.ireturn, 1) := by decide +kernel
theorem dL_law_3536 : decode cL_law 3536 = .ok (.goto 192, 3) := by decide +kernel
theorem dL_law_3539 : decode cL_law 3539 = .ok (.aload_n 1, 1) := by decide +kernel
theorem dL_law_3540 : decode cL_law 3540 = .ok (.aload_n 3, 1) := by decide +kernel
theorem dL_law_3541 : decode cL_law 3541 = .ok (.invokestatic 379, 3) := by decide +kernel
theorem dL_law_3544 : decode cL_law 3544 = .ok (.istore 6, 2) := by decide +kernel
theorem dL_law_3546 : decode cL_law 3546 = .ok (.aload_n 2, 1) := by decide +kernel
theorem dL_law_3547 : decode cL_law 3547 = .ok (.invokevirtual 381, 3) := by decide +kernel
theorem dL_law_3550 : decode cL_law 3550 = .ok (.istore 7, 2) := by decide +kernel
theorem dL_law_3552 : decode cL_law 3552 = .ok (.aload_n 2, 1) := by decide +kernel
theorem dL_law_3553 : decode cL_law 3553 = .ok (.invokevirtual 192, 3) := by decide +kernel
theorem dL_law_3556 : decode cL_law 3556 = .ok (.iload 6, 2) := by decide +kernel
theorem dL_law_3558 : decode cL_law 3558 = .ok (.if_icmp .eq 5, 3) := by decide +kernel
theorem dL_law_3561 : decode cL_law 3561 = .ok (.iconst 0, 1) := by decide +kernel
theorem dL_law_3562 : decode cL_law 3562 = .ok (.ireturn, 1) := by decide +kernel
theorem dL_law_3563 : decode cL_law 3563 = .ok (.iload 6, 2) := by decide +kernel
theorem dL_law_3565 : decode cL_law 3565 = .ok (.ifCond .ne 15, 3) := by decide +kernel
theorem dL_law_3568 : decode cL_law 3568 = .ok (.aload_n 3, 1) := by decide +kernel
theorem dL_law_3569 : decode cL_law 3569 = .ok (.iconst 0, 1) := by decide +kernel
theorem dL_law_3570 : decode cL_law 3570 = .ok (.laload, 1) := by decide +kernel
theorem dL_law_3571 : decode cL_law 3571 = .ok (.iload 7, 2) := by decide +kernel
theorem dL_law_3573 : decode cL_law 3573 = .ok (.i2l, 1) := by decide +kernel
theorem dL_law_3574 : decode cL_law 3574 = .ok (.lcmp, 1) := by decide +kernel
theorem dL_law_3575 : decode cL_law 3575 = .ok (.ifCond .eq 5, 3) := by decide +kernel
theorem dL_law_3578 : decode cL_law 3578 = .ok (.iconst 0, 1) := by decide +kernel
theorem dL_law_3579 : decode cL_law 3579 = .ok (.ireturn, 1) := by decide +kernel
theorem dL_law_3580 : decode cL_law 3580 = .ok (.goto 148, 3) := by decide +kernel
theorem dL_law_3583 : decode cL_law 3583 = .ok (.aload_n 1, 1) := by decide +kernel
theorem dL_law_3584 : decode cL_law 3584 = .ok (.aload_n 3, 1) := by decide +kernel
theorem dL_law_3585 : decode cL_law 3585 = .ok (.invokestatic 382, 3) := by decide +kernel
theorem dL_law_3588 : decode cL_law 3588 = .ok (.istore 6, 2) := by decide +kernel
theorem dL_law_3590 : decode cL_law 3590 = .ok (.aload_n 2, 1) := by decide +kernel
theorem dL_law_3591 : decode cL_law 3591 = .ok (.invokevirtual 384, 3) := by decide +kernel
theorem dL_law_3594 : decode cL_law 3594 = .ok (.istore 7, 2) := by decide +kernel
theorem dL_law_3596 : decode cL_law 3596 = .ok (.aload_n 2, 1) := by decide +kernel
theorem dL_law_3597 : decode cL_law 3597 = .ok (.invokevirtual 192, 3) := by decide +kernel
theorem dL_law_3600 : decode cL_law 3600 = .ok (.iload 6, 2) := by decide +kernel
theorem dL_law_3602 : decode cL_law 3602 = .ok (.if_icmp .eq 5, 3) := by decide +kernel
theorem dL_law_3605 : decode cL_law 3605 = .ok (.iconst 0, 1) := by decide +kernel
theorem dL_law_3606 : decode cL_law 3606 = .ok (.ireturn, 1) := by decide +kernel
theorem dL_law_3607 : decode cL_law 3607 = .ok (.iload 6, 2) := by decide +kernel
theorem dL_law_3609 : decode cL_law 3609 = .ok (.ifCond .ne 15, 3) := by decide +kernel
theorem dL_law_3612 : decode cL_law 3612 = .ok (.aload_n 3, 1) := by decide +kernel
theorem dL_law_3613 : decode cL_law 3613 = .ok (.iconst 0, 1) := by decide +kernel
theorem dL_law_3614 : decode cL_law 3614 = .ok (.laload, 1) := by decide +kernel
theorem dL_law_3615 : decode cL_law 3615 = .ok (.iload 7, 2) := by decide +kernel
theorem dL_law_3617 : decode cL_law 3617 = .ok (.i2l, 1) := by decide +kernel
theorem dL_law_3618 : decode cL_law 3618 = .ok (.lcmp, 1) := by decide +kernel
theorem dL_law_3619 : decode cL_law 3619 = .ok (.ifCond .eq 5, 3) := by decide +kernel
theorem dL_law_3622 : decode cL_law 3622 = .ok (.iconst 0, 1) := by decide +kernel
theorem dL_law_3623 : decode cL_law 3623 = .ok (.ireturn, 1) := by decide +kernel
theorem dL_law_3624 : decode cL_law 3624 = .ok (.goto 104, 3) := by decide +kernel
theorem dL_law_3627 : decode cL_law 3627 = .ok (.aload_n 1, 1) := by decide +kernel
theorem dL_law_3628 : decode cL_law 3628 = .ok (.aload_n 3, 1) := by decide +kernel
theorem dL_law_3629 : decode cL_law 3629 = .ok (.invokestatic 385, 3) := by decide +kernel
theorem dL_law_3632 : decode cL_law 3632 = .ok (.istore 6, 2) := by decide +kernel
theorem dL_law_3634 : decode cL_law 3634 = .ok (.aload_n 2, 1) := by decide +kernel
theorem dL_law_3635 : decode cL_law 3635 = .ok (.invokevirtual 387, 3) := by decide +kernel
theorem dL_law_3638 : decode cL_law 3638 = .ok (.istore 7, 2) := by decide +kernel
theorem dL_law_3640 : decode cL_law 3640 = .ok (.aload_n 2, 1) := by decide +kernel
theorem dL_law_3641 : decode cL_law 3641 = .ok (.invokevirtual 192, 3) := by decide +kernel
theorem dL_law_3644 : decode cL_law 3644 = .ok (.iload 6, 2) := by decide +kernel
theorem dL_law_3646 : decode cL_law 3646 = .ok (.if_icmp .eq 5, 3) := by decide +kernel
theorem dL_law_3649 : decode cL_law 3649 = .ok (.iconst 0, 1) := by decide +kernel
theorem dL_law_3650 : decode cL_law 3650 = .ok (.ireturn, 1) := by decide +kernel
theorem dL_law_3651 : decode cL_law 3651 = .ok (.iload 6, 2) := by decide +kernel
theorem dL_law_3653 : decode cL_law 3653 = .ok (.ifCond .ne 15, 3) := by decide +kernel
theorem dL_law_3656 : decode cL_law 3656 = .ok (.aload_n 3, 1) := by decide +kernel
theorem dL_law_3657 : decode cL_law 3657 = .ok (.iconst 0, 1) := by decide +kernel
theorem dL_law_3658 : decode cL_law 3658 = .ok (.laload, 1) := by decide +kernel
theorem dL_law_3659 : decode cL_law 3659 = .ok (.iload 7, 2) := by decide +kernel
theorem dL_law_3661 : decode cL_law 3661 = .ok (.i2l, 1) := by decide +kernel
theorem dL_law_3662 : decode cL_law 3662 = .ok (.lcmp, 1) := by decide +kernel
theorem dL_law_3663 : decode cL_law 3663 = .ok (.ifCond .eq 5, 3) := by decide +kernel
theorem dL_law_3666 : decode cL_law 3666 = .ok (.iconst 0, 1) := by decide +kernel
theorem dL_law_3667 : decode cL_law 3667 = .ok (.ireturn, 1) := by decide +kernel
theorem dL_law_3668 : decode cL_law 3668 = .ok (.goto 60, 3) := by decide +kernel
theorem dL_law_3671 : decode cL_law 3671 = .ok (.aload_n 1, 1) := by decide +kernel
theorem dL_law_3672 : decode cL_law 3672 = .ok (.invokevirtual 388, 3) := by decide +kernel
theorem dL_law_3675 : decode cL_law 3675 = .ok (.aload_n 2, 1) := by decide +kernel
theorem dL_law_3676 : decode cL_law 3676 = .ok (.invokevirtual 391, 3) := by decide +kernel
theorem dL_law_3679 : decode cL_law 3679 = .ok (.if_icmp .eq 49, 3) := by decide +kernel
theorem dL_law_3682 : decode cL_law 3682 = .ok (.iconst 0, 1) := by decide +kernel
theorem dL_law_3683 : decode cL_law 3683 = .ok (.ireturn, 1) := by decide +kernel
theorem dL_law_3684 : decode cL_law 3684 = .ok (.aload_n 1, 1) := by decide +kernel
theorem dL_law_3685 : decode cL_law 3685 = .ok (.aload_n 3, 1) := by decide +kernel
theorem dL_law_3686 : decode cL_law 3686 = .ok (.invokestatic 392, 3) := by decide +kernel
theorem dL_law_3689 : decode cL_law 3689 = .ok (.istore 6, 2) := by decide +kernel
theorem dL_law_3691 : decode cL_law 3691 = .ok (.aload_n 2, 1) := by decide +kernel
theorem dL_law_3692 : decode cL_law 3692 = .ok (.invokevirtual 394, 3) := by decide +kernel
theorem dL_law_3695 : decode cL_law 3695 = .ok (.istore 7, 2) := by decide +kernel
theorem dL_law_3697 : decode cL_law 3697 = .ok (.aload_n 2, 1) := by decide +kernel
theorem dL_law_3698 : decode cL_law 3698 = .ok (.invokevirtual 192, 3) := by decide +kernel
theorem dL_law_3701 : decode cL_law 3701 = .ok (.iload 6, 2) := by decide +kernel
theorem dL_law_3703 : decode cL_law 3703 = .ok (.if_icmp .eq 5, 3) := by decide +kernel
theorem dL_law_3706 : decode cL_law 3706 = .ok (.iconst 0, 1) := by decide +kernel
theorem dL_law_3707 : decode cL_law 3707 = .ok (.ireturn, 1) := by decide +kernel
theorem dL_law_3708 : decode cL_law 3708 = .ok (.iload 6, 2) := by decide +kernel
theorem dL_law_3710 : decode cL_law 3710 = .ok (.ifCond .ne 15, 3) := by decide +kernel
theorem dL_law_3713 : decode cL_law 3713 = .ok (.aload_n 3, 1) := by decide +kernel
theorem dL_law_3714 : decode cL_law 3714 = .ok (.iconst 0, 1) := by decide +kernel
theorem dL_law_3715 : decode cL_law 3715 = .ok (.laload, 1) := by decide +kernel
theorem dL_law_3716 : decode cL_law 3716 = .ok (.iload 7, 2) := by decide +kernel
theorem dL_law_3718 : decode cL_law 3718 = .ok (.i2l, 1) := by decide +kernel
theorem dL_law_3719 : decode cL_law 3719 = .ok (.lcmp, 1) := by decide +kernel
theorem dL_law_3720 : decode cL_law 3720 = .ok (.ifCond .eq 5, 3) := by decide +kernel
theorem dL_law_3723 : decode cL_law 3723 = .ok (.iconst 0, 1) := by decide +kernel
theorem dL_law_3724 : decode cL_law 3724 = .ok (.ireturn, 1) := by decide +kernel
theorem dL_law_3725 : decode cL_law 3725 = .ok (.goto 3, 3) := by decide +kernel
theorem dL_law_3728 : decode cL_law 3728 = .ok (.iinc 5 5, 3) := by decide +kernel
theorem dL_law_3731 : decode cL_law 3731 = .ok (.goto (-3703), 3) := by decide +kernel
theorem dL_law_3734 : decode cL_law 3734 = .ok (.iconst 1, 1) := by decide +kernel
theorem dL_law_3735 : decode cL_law 3735 = .ok (.ireturn, 1) := by decide +kernel
