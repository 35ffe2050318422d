def hStart : HP := gX6 (va_up hk41 43 (.inl (5, [.null, .null, .null, .null, .null, .int 0, .null, .null, .int 0, .null, .null, .int 0, .null, .null]))) 43
