/** Promises 36 to 43: what would be. It is compared with the same object in which it is done. */
public final class WouldBeTest {
    private static final int NONE = -1, BAD = -2, STATE = -3, FULL = -4;
    private static final long NO = SafeClears.NO;
    private static final Due due = new Due("WouldBeTest");

    public static void main(String[] args) {
        would();
        turns();
        best();
        note();
        fits();
        day();
        chance();
        mean();
        budget();
        due.end();
    }

    /** Four signals, three phases, people coming, 25 seconds gone. */
    private static SafeClears busy() {
        SafeClears x = new SafeClears();
        Due.feed(x, "ca1b1*3/20~4@20;wb1c1*4/9~1@5;tc1d1*2/8@9;ba1c1~5@30");
        x.read();
        x.phase(5, 10);
        x.phase(2, 20);
        x.phase(8, 15);
        x.start();
        x.pass(25);
        return x;
    }

    private static SafeClears setUp() {
        return Due.twoThatMeet(0, 0);
    }

    private static SafeClears busyWithGap(int gap) {
        SafeClears x = busy();
        for (int s = 0; s < 4; s++) {
            x.tell(s, 2, gap);
        }
        return x;
    }

    private static void would() {
        due.promise(36, "would");
        SafeClears x = busy();
        SafeClears done = busy();
        done.pass(40);
        for (int what = 0; what < 19; what++) {
            int was = x.told(what);
            due.is("would(40, " + what + ")", x.would(40, what), done.told(what));
            due.is("would(0, " + what + ")", x.would(0, what), was);
            due.is("nothing changes " + what, x.told(what), was);
        }
        due.is("seconds counted", x.count(5), 25 + 19 * 40);
        due.is("what 19, NONE ahead of BAD", x.would(-1, 19), NONE);
        due.is("what -1", x.would(0, -1), NONE);
        due.is("n -1", x.would(-1, 0), BAD);
        due.is("n 100", x.would(100, 0), BAD);
        due.is("not started", setUp().would(1, 0), STATE);
        due.is("BAD ahead of STATE", setUp().would(100, 0), BAD);
        due.is("NONE ahead of STATE", setUp().would(1, 19), NONE);
    }

    private static void turns() {
        due.promise(37, "turns");
        SafeClears x = setUp();
        x.start();
        due.is("in the first second", x.turns(0, 1), 0);
        due.is("within none", x.turns(0, 0), -5);
        due.is("never called", x.turns(1, 99), -5);
        x.pass(3);
        due.is("green already: the second that passes now", x.turns(0, 5), 3);
        x.come(1, 1);
        due.is("change in 5, green in 10", x.turns(1, 99), 10);
        due.is("8 seconds are 3 to 10", x.turns(1, 8), 10);
        due.is("7 seconds are 3 to 9", x.turns(1, 7), -5);
        due.is("all n are counted", x.count(5), 1 + 99 + 3 + 5 + 99 + 8 + 7);
        due.is("nothing changes", x.told(0), 3);
        due.is("signal 2, NONE ahead of BAD", x.turns(2, -1), NONE);
        due.is("n 100", x.turns(0, 100), BAD);
        due.is("n -1", x.turns(0, -1), BAD);
        due.is("not started", setUp().turns(0, 1), STATE);
        due.is("BAD ahead of STATE", setUp().turns(0, 100), BAD);
    }

    private static void best() {
        due.promise(38, "best");
        SafeClears x = busy();
        for (int n : new int[] {0, 7, 33, 60}) {
            int best = 0;
            int least = Integer.MAX_VALUE;
            for (int gap = 1; gap <= 9; gap++) {
                SafeClears done = busyWithGap(gap);
                done.pass(n);
                if (done.told(4) < least) {
                    least = done.told(4);
                    best = gap;
                }
            }
            due.is("best(" + n + ", 0)", x.best(n, 0), best);
            due.is("best(" + n + ", 1)", x.best(n, 1), least);
        }
        due.is("the gaps stay", x.of(0, 3), 4);
        due.is("seconds counted", x.count(5), 25 + 18 * 100);
        due.is("the greatest gap is the best", greatestGapIsBest().best(60, 0), 9);
        due.is("waited by it", greatestGapIsBest().best(60, 1), 36);
        due.is("what 2, NONE ahead of BAD", x.best(61, 2), NONE);
        due.is("what -1", x.best(0, -1), NONE);
        due.is("n 61", x.best(61, 0), BAD);
        due.is("n -1", x.best(-1, 0), BAD);
        due.is("not started", setUp().best(1, 0), STATE);
        due.is("BAD ahead of STATE", setUp().best(61, 0), BAD);
    }

    /** Found by trying seeds: by each lesser gap more is waited. */
    private static SafeClears greatestGapIsBest() {
        SafeClears x = Due.twoThatMeet(0, 2);
        x.tell(0, 0, 1);
        x.tell(0, 3, 2);
        x.tell(1, 0, 20);
        x.start();
        x.come(1, 1);
        x.seed(562);
        return x;
    }

    private static void note() {
        due.promise(39, "note");
        SafeClears x = new SafeClears();
        due.is("note(0, 0)", x.note(0, 0), 1);
        due.is("note(99999, 255)", x.note(99999, 255), 2);
        due.is("second 100000", x.note(100000, 0), BAD);
        due.is("second -2", x.note(-2, 0), BAD);
        due.is("set 256", x.note(0, 256), BAD);
        due.is("set -1", x.note(0, -1), BAD);
        for (int k = 3; k <= 5; k++) {
            due.is("note(5, 1)", x.note(5, 1), k);
        }
        due.is("a sixth", x.note(5, 1), FULL);
        due.is("BAD ahead of FULL", x.note(5, 256), BAD);
        due.is("count(1)", x.count(1), 5);
        due.is("none then", x.note(-1, 999), 0);
        due.is("count(1)", x.count(1), 0);
    }

    /** The gaps by which it is so (bits 1 to 9). */
    private static int gapsThatFit(int[][] notes) {
        int gaps = 0;
        for (int gap = 1; gap <= 9; gap++) {
            SafeClears done = busyWithGap(gap);
            int held = 0;
            for (int k = 0; k < 60; k++) {
                int second = done.told(0);
                done.pass(1);
                for (int[] note : notes) {
                    held += note[0] == second && note[1] == done.told(7) ? 1 : 0;
                }
            }
            gaps |= held == notes.length ? 1 << gap : 0;
        }
        return gaps;
    }

    private static void fits() {
        due.promise(40, "fits");
        int some = 0;
        for (int gap = 1; gap <= 9; gap += 2) {
            int[] seconds = {25, 33, 52, 84};
            int[][] notes = new int[4][];
            SafeClears x = busy();
            SafeClears done = busyWithGap(gap);
            for (int k = 0; k < 4; k++) {
                done.pass(seconds[k] + 1 - done.told(0));
                notes[k] = new int[] {seconds[k], done.told(7)};
                x.note(notes[k][0], notes[k][1]);
            }
            int gaps = gapsThatFit(notes);
            due.is("this gap fits", gaps >> gap & 1, 1);
            due.is("fits(0)", x.fits(0), Integer.bitCount(gaps));
            due.is("fits(1)", x.fits(1), Integer.numberOfTrailingZeros(gaps));
            some += Integer.bitCount(gaps) < 9 ? 1 : 0;
            due.is("seconds counted", x.count(5), 25 + 1080);
            due.is("the gaps stay", x.of(3, 3), 5);
            x.note(25, 255);
            due.is("by one that isn't so none fits", x.fits(0), 0);
            due.is("none", x.fits(1), -5);
        }
        due.is("some fits are told apart", some > 0 ? 1 : 0, 1);
        SafeClears x = setUp();
        x.start();
        x.pass(10);
        due.is("without notes all fit", x.fits(0), 9);
        due.is("the least", x.fits(1), 1);
        x.note(69, 1);
        due.is("the last of 60 seconds", x.fits(0), 9);
        x.note(69, 1);
        due.is("the same twice", x.fits(0), 9);
        x.note(70, 1);
        due.is("beyond", x.fits(0), 0);
        x.note(-1, 0);
        x.note(9, 1);
        due.is("past", x.fits(0), 0);
        due.is("fits(2)", x.fits(2), NONE);
        due.is("fits(-1)", x.fits(-1), NONE);
        due.is("not started", setUp().fits(0), STATE);
        due.is("NONE ahead of STATE", setUp().fits(2), NONE);
    }

    private static int dayDone(int seed, int n) {
        SafeClears done = busy();
        int was = done.told(4);
        done.seed(seed);
        done.pass(n);
        return done.told(4) - was;
    }

    private static void day() {
        due.promise(41, "day");
        SafeClears x = busy();
        int seed = x.told(10);
        due.is("day(77, 60)", x.day(77, 60), dayDone(77, 60));
        due.is("day(-3, 99)", x.day(-3, 99), dayDone(-3, 99));
        due.is("day(5, 0)", x.day(5, 0), 0);
        due.is("the seed stays", x.told(10), seed);
        due.is("seconds counted", x.count(5), 25 + 159);
        due.is("n 100", x.day(0, 100), BAD);
        due.is("n -1", x.day(0, -1), BAD);
        due.is("not started", setUp().day(0, 1), STATE);
        due.is("BAD ahead of STATE", setUp().day(0, 100), BAD);
    }

    private static void chance() {
        due.promise(42, "chance");
        SafeClears x = busy();
        int[] days = new int[4];
        for (int j = 0; j < 4; j++) {
            days[j] = dayDone(Integer.MAX_VALUE - 1 + j, 30);
        }
        int counted = x.count(5);
        int asked = 0;
        for (int m = 1; m <= 4; m++) {
            for (int day : days) {
                for (int k = day - 1; k <= day; k++) {
                    int good = 0;
                    for (int j = 0; j < m; j++) {
                        good += days[j] <= k ? 1 : 0;
                    }
                    int divisor = good == 0 ? m : good == 2 && m == 4 ? 2 : good == m ? m : 1;
                    String call = "chance(.., 30, " + m + ", " + k + ", ";
                    due.is(call + "0)", x.chance(Integer.MAX_VALUE - 1, 30, m, k, 0), good / divisor);
                    due.is(call + "1)", x.chance(Integer.MAX_VALUE - 1, 30, m, k, 1), m / divisor);
                    asked += 60 * m;
                }
            }
        }
        due.is("seconds counted", x.count(5), counted + asked);
        due.is("n 100", x.chance(0, 100, 1, 0, 0), NO);
        due.is("n -1", x.chance(0, -1, 1, 0, 0), NO);
        due.is("m 0", x.chance(0, 1, 0, 0, 0), NO);
        due.is("m 5", x.chance(0, 1, 5, 0, 0), NO);
        due.is("k -1", x.chance(0, 1, 1, -1, 0), NO);
        due.is("k 100000", x.chance(0, 1, 1, 100000, 0), NO);
        due.is("k 99999", x.chance(0, 0, 1, 99999, 0), 1);
        due.is("part 2", x.chance(0, 1, 1, 0, 2), NO);
        due.is("part -1", x.chance(0, 1, 1, 0, -1), NO);
        due.is("what is refused isn't counted", x.count(5), counted + asked);
        due.is("not started", setUp().chance(0, 1, 1, 0, 0), NO);
    }

    private static void mean() {
        due.promise(43, "mean");
        SafeClears x = setUp();
        due.is("not started", x.mean(0), NO);
        x.start();
        due.is("nobody is served", x.mean(0), NO);
        x.come(0, 3);
        x.pass(1);
        due.is("2 by 1, above", x.mean(0), 2);
        due.is("2 by 1, below", x.mean(1), 1);
        x.pass(3);
        due.is("2 2 1 1 by 2 is 3 by 1, above", x.mean(0), 3);
        due.is("2 2 1 1 by 2 is 3 by 1, below", x.mean(1), 1);
        x.pass(1);
        x.come(0, 2);
        x.pass(1);
        due.is("8 by 3, above", x.mean(0), 8);
        due.is("8 by 3, below", x.mean(1), 3);
        due.is("part 2", x.mean(2), NO);
        due.is("part -1", x.mean(-1), NO);
        SafeClears y = Due.twoThatMeet(1, 1);
        y.start();
        y.come(0, 6);
        y.pass(1);
        due.is("nobody waited: 0 by 1, above", y.mean(0), 0);
        due.is("nobody waited: 0 by 1, below", y.mean(1), 1);
    }

    private static void budget() {
        due.promise(15, "seconds counted in thought");
        SafeClears x = setUp();
        x.start();
        for (int k = 0; k < 22; k++) {
            x.fits(0);
        }
        x.pass(99);
        due.is("11979 counted", x.count(5), 11979);
        due.is("fits", x.fits(0), FULL);
        due.is("best of 3 seconds: 27", x.best(3, 0), FULL);
        due.is("would of 22", x.would(22, 0), FULL);
        due.is("turns of 22", x.turns(0, 22), FULL);
        due.is("turns of 22, though it is green now", x.turns(0, 22), FULL);
        due.is("day of 22", x.day(1, 22), FULL);
        due.is("chance of 2 by 11", x.chance(1, 11, 2, 0, 0), NO);
        x.plan(0, 11);
        x.plan(3, 0);
        x.plan(0, 11);
        due.is("a plan of 22", x.ends(0), FULL);
        due.is("tune", x.tune(), FULL);
        due.is("none of these is counted", x.count(5), 11979);
        due.is("best of 2 seconds: 18", x.best(2, 0), 1);
        due.is("would of 3", x.would(3, 0), 102);
        due.is("12000 counted", x.count(5), 12000);
        due.is("would of none", x.would(0, 0), 99);
        due.is("chance of none", x.chance(0, 0, 4, 0, 1), 1);
        due.is("mean needs none", x.mean(0), NO);
    }
}
