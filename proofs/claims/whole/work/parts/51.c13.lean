theorem d_X11_init_797 : decode M_X11_init.2.1 797 = .ok (.bipush 117, 2) := by decide +kernel
theorem d_X11_init_799 : decode M_X11_init.2.1 799 = .ok (.bipush 114, 2) := by decide +kernel
theorem d_X11_init_801 : decode M_X11_init.2.1 801 = .ok (.iconst 0, 1) := by decide +kernel
theorem d_X11_init_802 : decode M_X11_init.2.1 802 = .ok (.invokestatic 173, 3) := by decide +kernel
theorem d_X11_init_805 : decode M_X11_init.2.1 805 = .ok (.lastore, 1) := by decide +kernel
theorem d_X11_init_806 : decode M_X11_init.2.1 806 = .ok (.return_, 1) := by decide +kernel
