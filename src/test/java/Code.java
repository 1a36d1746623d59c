/** Puts instructions together, so that the tests can say what their programs do. */
final class Code {
    private Code() {
    }

    static long of(int code, long k) {
        return of(code, 0, 0, k);
    }

    static long of(int code, int jt, int jf, long k) {
        return k << 32 | (long) jf << 24 | (long) jt << 16 | code;
    }

    static CallFilter filter(long... program) {
        CallFilter x = new CallFilter(0);
        replace(x, program);
        return x;
    }

    static void replace(CallFilter x, long... program) {
        x.cut(x.length());
        for (long instruction : program) {
            x.put(instruction);
        }
    }

    /** What a program sees as word i of the record; the program of x is lost. */
    static long wordOf(CallFilter x, int i) {
        replace(x, of(0x20, 4L * i), of(0x16, 0));
        return x.run();
    }
}
