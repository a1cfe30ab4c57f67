/** Counts the calls whose answers aren't the ones that are due, and says which. */
final class Due {
    private final String name;
    private int looked;
    private int wrong;
    private String promise = "";

    Due(String name) {
        this.name = name;
    }

    void promise(int number, String what) {
        promise = "promise " + number + " (" + what + ")";
    }

    void is(String call, long got, long want) {
        looked++;
        if (got != want) {
            wrong++;
            System.out.println(promise + ": " + call + " answered " + got + ", due is " + want);
        }
    }

    void end() {
        System.out.println(name + ": " + looked + " answers looked at, " + wrong + " not as due");
        if (wrong > 0) {
            System.exit(1);
        }
    }

    /** Feeds a text; its signs must be 0 to 127, and there must be room. */
    static void feed(SafeClears x, String text) {
        for (int i = 0; i < text.length(); i++) {
            x.feed(text.charAt(i));
        }
    }

    /** Two signals over a1, of these kinds, each with a phase of its own (clear of cars to cars: 5). */
    static SafeClears twoThatMeet(int kind, int other) {
        SafeClears x = new SafeClears();
        x.signal(kind, 0);
        x.signal(other, 0);
        x.phase(1, 0);
        x.phase(2, 0);
        return x;
    }
}
