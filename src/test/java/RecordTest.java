/** Promises 24 to 29: the record, proofs. */
public final class RecordTest {
    private static final int NONE = -1, BAD = -2, FULL = -4;
    private static final Due due = new Due("RecordTest");

    public static void main(String[] args) {
        recorded();
        greens();
        could();
        crowded();
        green();
        proved();
        due.end();
    }

    /** Bikes by turns: the k-th green is of signal k modulo 2, from second 5 k to 5 k and 1. */
    private static SafeClears byTurns(int greens) {
        SafeClears x = Due.twoThatMeet(3, 3);
        for (int s = 0; s < 2; s++) {
            x.tell(s, 0, 1);
            x.tell(s, 1, 1);
            x.tell(s, 3, 60);
        }
        x.start();
        for (int k = 0; k < greens; k++) {
            x.pass(k == 0 ? 2 : 5);
        }
        return x;
    }

    private static void recorded() {
        due.promise(24, "recorded");
        SafeClears x = byTurns(0);
        due.is("none", x.recorded(0, 0), BAD);
        due.is("NONE ahead of BAD", x.recorded(0, 3), NONE);
        due.is("what -1", x.recorded(0, -1), NONE);
        x = byTurns(31);
        due.is("24 are kept", x.count(6), 24);
        int[] latest = {0, 150, 151};
        int[] oldest = {1, 35, 36};
        for (int what = 0; what < 3; what++) {
            due.is("recorded(0, " + what + ")", x.recorded(0, what), latest[what]);
            due.is("recorded(23, " + what + ")", x.recorded(23, what), oldest[what]);
        }
        due.is("recorded(24, 0)", x.recorded(24, 0), BAD);
        due.is("recorded(-1, 0)", x.recorded(-1, 0), BAD);
        due.is("greens begun, those of the record and those before", x.of(0, 13), 16);
        x = byTurns(24);
        due.is("the first one of 24", x.recorded(23, 1), 0);
        x = byTurns(25);
        due.is("the first one of 25 is dropped", x.recorded(23, 1), 5);
    }

    private static void greens() {
        due.promise(25, "greens");
        SafeClears x = byTurns(0);
        int[] none = {0, 0, -5, -5, NONE};
        for (int how = 0; how < 5; how++) {
            due.is("without any greens(0, " + how + ")", x.greens(0, how), none[how]);
        }
        due.is("how -1", x.greens(0, -1), NONE);
        due.is("signal 2", x.greens(2, 0), NONE);
        due.is("signal -1", x.greens(-1, 0), NONE);
        x = byTurns(31);
        due.is("how many of 0", x.greens(0, 0), 12);
        due.is("how long", x.greens(0, 1), 12);
        x.tell(0, 1, 9);
        x.tell(0, 0, 9);
        x.pass(30);
        due.is("one of 9 among them", x.greens(0, 3), 9);
        due.is("the shortest", x.greens(0, 2), 1);
        due.is("11 of 1, and that one", x.greens(0, 0), 12);
        due.is("together", x.greens(0, 1), 20);
        due.is("what is green now is not of it", byTurns(1).greens(1, 0), 0);
    }

    private static void could() {
        due.promise(26, "could");
        SafeClears x = byTurns(31);
        int[] seconds = {33, 34, 35, 38, 39, 40, 43, 44, 45};
        int[] takers = {0, 0, 2, 2, 0, 1, 1, 0, 2};
        for (int k = 0; k < seconds.length; k++) {
            due.is("could(0, " + seconds[k] + ", 0)", x.could(0, seconds[k], 0), takers[k]);
        }
        due.is("another cell", x.could(1, 35, 0), 0);
        x.pass(4);
        due.is("by a green that goes on", x.could(0, 155, 0), 2);
        due.is("for ever", x.could(0, 9999, 0), 2);
        due.is("not ahead of it", x.could(0, 154, 0), 0);
        due.is("none told", x.could(0, 155, 1), 0);
        due.is("by 2", x.could(0, 0, 2), NONE);
        due.is("by -1, NONE ahead of BAD", x.could(-1, 0, -1), NONE);
        due.is("cell 64", x.could(64, 0, 0), BAD);
        due.is("cell -1", x.could(-1, 0, 0), BAD);
        due.is("second -1", x.could(0, -1, 0), BAD);
        due.is("second 10000", x.could(0, 10000, 1), BAD);
        SafeClears y = new SafeClears();
        Due.feed(y, "wa1b1c1;tc1;ba1b1c1d1");
        y.read();
        y.green(0, 10, 20);
        y.green(1, 30, 31);
        y.green(2, 24, 25);
        due.is("the third cell of a walk from 10 and 6 on", y.could(2, 15, 1), 0);
        due.is("the third cell of a walk from 10 and 6 on", y.could(2, 16, 1), 1);
        due.is("up to 20 and 2 and 9; the bikes up to 25 and 2 and 3", y.could(2, 29, 1), 5);
        due.is("in 30 the tram takes it, the bikes don't", y.could(2, 30, 1), 1 + 2);
        due.is("in 31 the tram alone", y.could(2, 31, 1), 2);
        due.is("the tram's last: 31 and 4 and 2, less 1", y.could(2, 36, 1), 2);
        due.is("behind that", y.could(2, 37, 1), 0);
        due.is("by the record", y.could(2, 31, 0), 0);
    }

    private static void crowded() {
        due.promise(27, "crowded");
        SafeClears x = new SafeClears();
        Due.feed(x, "wa1b1;tb1a1");
        x.read();
        x.green(0, 10, 20);
        due.is("one alone", x.crowded(15, 1), -5);
        x.green(1, 24, 30);
        due.is("b1, ahead of a1, which none takes in 25", x.crowded(25, 1), 1);
        due.is("a1 is taken from 26 on by the tram only; b1 by both up to 27", x.crowded(27, 1), 1);
        due.is("in 28 none is crowded", x.crowded(28, 1), -5);
        due.is("in 23 none is crowded", x.crowded(23, 1), -5);
        x.green(0, 26, 27);
        due.is("a1 in 26", x.crowded(26, 1), 0);
        due.is("by the record", x.crowded(26, 0), -5);
        due.is("by 2", x.crowded(26, 2), NONE);
        due.is("by -1, NONE ahead of BAD", x.crowded(-1, -1), NONE);
        due.is("second -1", x.crowded(-1, 0), BAD);
        due.is("second 10000", x.crowded(10000, 0), BAD);
        due.is("second 9999", x.crowded(9999, 0), -5);
        SafeClears y = new SafeClears();
        y.signal(0, 5);
        y.signal(1, 5);
        y.green(0, 0, 5);
        y.green(0, 3, 7);
        due.is("twice the same one is no crowd", y.crowded(4, 1), -5);
    }

    private static void green() {
        due.promise(28, "green");
        SafeClears x = new SafeClears();
        due.is("no signal", x.green(0, 0, 1), NONE);
        x.signal(0, 0);
        due.is("green(0, 9998, 9999)", x.green(0, 9998, 9999), 1);
        due.is("green(0, 9999, 10000)", x.green(0, 9999, 10000), BAD);
        due.is("from -1", x.green(0, -1, 5), BAD);
        due.is("to is from", x.green(0, 5, 5), BAD);
        due.is("to 10000", x.green(0, 5, 10000), BAD);
        due.is("signal 1, NONE ahead of BAD", x.green(1, -1, 5), NONE);
        due.is("signal -2", x.green(-2, 0, 1), NONE);
        for (int k = 2; k <= 8; k++) {
            due.is("green(0, 0, 1)", x.green(0, 0, 1), k);
        }
        due.is("a ninth", x.green(0, 0, 1), FULL);
        due.is("BAD ahead of FULL", x.green(0, 1, 1), BAD);
        due.is("none then", x.green(-1, -9, -9), 0);
        due.is("count(3)", x.count(3), 0);
        due.is("again", x.green(0, 0, 1), 1);
    }

    /** Of cars over a1 and walk over a1: clear of 0 to 1 is 5, of 1 to 0 is 6. */
    private static int proved(int from, int to, int otherFrom, int otherTo) {
        SafeClears x = new SafeClears();
        x.signal(0, 0);
        x.signal(1, 0);
        x.signal(1, 9);
        x.green(2, 0, 9999);
        x.green(0, from, to);
        x.green(0, from, to);
        x.green(1, otherFrom, otherTo);
        return x.proved();
    }

    private static void proved() {
        due.promise(29, "proved");
        due.is("none told", new SafeClears().proved(), -5);
        due.is("5 behind the end", proved(10, 20, 25, 30), -5);
        due.is("4 behind the end", proved(10, 20, 24, 30), 3);
        due.is("told later, but 6 ahead", proved(36, 40, 25, 30), -5);
        due.is("told later, but 5 ahead", proved(35, 40, 25, 30), 3);
        due.is("at the same time", proved(10, 20, 10, 20), 3);
        SafeClears x = new SafeClears();
        x.signal(0, 0);
        x.signal(0, 0);
        x.green(0, 50, 60);
        x.green(1, 10, 20);
        x.green(1, 62, 70);
        x.green(0, 20, 22);
        due.is("the first row of two", x.proved(), 2);
    }
}
