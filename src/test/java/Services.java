/** The services of section 4 by their numbers. */
final class Services {
    static final int MANY = 18;

    private Services() {
    }

    /** What the service with a number answers; it takes as many of the three as it needs. */
    static long serve(StaticKernel kernel, int number, int x, int y, int z) {
        switch (number) {
            case 1:
                return kernel.activate(x);
            case 2:
                return kernel.terminate();
            case 3:
                return kernel.chain(x);
            case 4:
                return kernel.schedule();
            case 5:
                return kernel.take(x);
            case 6:
                return kernel.give(x);
            case 7:
                return kernel.signal(x, y);
            case 8:
                return kernel.clear(x);
            case 9:
                return kernel.await(x);
            case 10:
                return kernel.given(x);
            case 11:
                return kernel.after(x, y, z);
            case 12:
                return kernel.at(x, y, z);
            case 13:
                return kernel.cancel(x);
            case 14:
                return kernel.left(x);
            case 15:
                return kernel.shut();
            case 16:
                return kernel.open();
            case 17:
                return kernel.leave();
            default:
                return kernel.halt(x);
        }
    }
}
