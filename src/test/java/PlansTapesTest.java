/** Promises 44 to 53: plans, judging, the image, tapes. */
public final class PlansTapesTest {
    private static final int NONE = -1, BAD = -2, STATE = -3, FULL = -4;
    private static final int NOTHING = -11, CAST = -12, PLACE = -13, SIZE = -14;
    private static final long NO = SafeClears.NO;
    private static final Due due = new Due("PlansTapesTest");

    public static void main(String[] args) {
        plan();
        ends();
        endsWithEmergencies();
        judge();
        image();
        undo();
        count();
        tape();
        item();
        peek();
        shift();
        due.end();
    }

    private static void plan() {
        due.promise(44, "plan");
        SafeClears x = new SafeClears();
        due.is("plan(0, 99)", x.plan(0, 99), 1);
        due.is("plan(1, 7)", x.plan(1, 7), 2);
        due.is("plan(2, -99)", x.plan(2, -99), 3);
        due.is("plan(3, 0)", x.plan(3, 0), 4);
        int[][] bad = {{0, 100}, {0, -1}, {1, 8}, {1, -1}, {3, 8}, {3, -1}};
        for (int[] v : bad) {
            due.is("plan(" + v[0] + ", " + v[1] + ")", x.plan(v[0], v[1]), BAD);
        }
        due.is("what 4, NONE ahead of BAD", x.plan(4, -1), NONE);
        due.is("what -2", x.plan(-2, 0), NONE);
        for (int k = 5; k <= 8; k++) {
            due.is("plan(0, 0)", x.plan(0, 0), k);
        }
        due.is("a ninth", x.plan(2, 0), FULL);
        due.is("BAD ahead of FULL", x.plan(0, 100), BAD);
        due.is("count(2)", x.count(2), 8);
        due.is("empty then", x.plan(-1, 77), 0);
        due.is("count(2)", x.count(2), 0);
    }

    private static SafeClears busy() {
        SafeClears x = new SafeClears();
        Due.feed(x, "ca1*3/9@20;wa1@5;ta1@9;ba1@30");
        x.read();
        x.phase(1, 0);
        x.phase(2, 0);
        x.phase(4, 0);
        x.start();
        x.pass(10);
        return x;
    }

    private static void ends() {
        due.promise(45, "ends");
        SafeClears x = busy();
        due.is("an empty plan", x.ends(0), x.told(4));
        due.is("an empty plan", x.ends(1), x.told(5));
        x.plan(0, 30);
        SafeClears done = busy();
        done.pass(30);
        due.is("30 seconds, waited", x.ends(0), done.told(4));
        due.is("30 seconds, served", x.ends(1), done.told(5));
        due.is("seconds counted", x.count(5), 70);
        due.is("nothing changes", x.told(0), 10);
        due.is("ends(2)", x.ends(2), NONE);
        due.is("ends(-1)", x.ends(-1), NONE);
        SafeClears y = Due.twoThatMeet(0, 0);
        due.is("not started", y.ends(0), STATE);
        due.is("NONE ahead of STATE", y.ends(2), NONE);
        SafeClears longest = Due.twoThatMeet(0, 0);
        longest.come(1, 1);
        longest.start();
        for (int k = 0; k < 8; k++) {
            longest.plan(0, 99);
        }
        due.is("one waits for 10 of 792 seconds", longest.ends(0), 10);
        due.is("seconds counted", longest.count(5), 792);
        SafeClears z = Due.twoThatMeet(0, 0);
        z.come(1, 5);
        z.start();
        z.plan(3, 1);
        z.plan(0, 9);
        z.plan(3, 7);
        due.is("who has no queue any more does not wait", z.ends(0), 0);
        due.is("it is there yet", z.of(1, 5), 5);
    }

    private static void endsWithEmergencies() {
        SafeClears x = busy();
        int[][] rows = {{1, 3}, {2, 0}, {1, 2}, {0, 20}, {1, 0}, {0, 9}, {2, 5}, {0, 30}};
        for (int[] row : rows) {
            x.plan(row[0], row[1]);
        }
        SafeClears done = busy();
        due.is("no phase has it", done.emergency(3), STATE);
        done.emergency(2);
        done.pass(20);
        due.is("there is one", done.emergency(0), STATE);
        done.pass(9);
        done.over();
        done.pass(30);
        due.is("waited", x.ends(0), done.told(4));
        due.is("served", x.ends(1), done.told(5));
        due.is("no emergency is declared by it", x.told(3), -5);
        x.emergency(1);
        done = busy();
        done.emergency(1);
        done.over();
        done.emergency(2);
        done.pass(29);
        done.over();
        done.pass(30);
        due.is("over, though it was not the plan's", x.ends(0), done.told(4));
        due.is("it is there yet", x.told(3), 1);
    }

    private static void judge() {
        due.promise(46, "judge");
        SafeClears x = new SafeClears();
        due.is("tape -1", x.judge(-1, 0), NONE);
        due.is("tape 6", x.judge(6, 0), NONE);
        due.is("no signals", x.judge(0, 0), -5);
        x.tape(1, 2, 9);
        due.is("CAST, though there are no signals", x.judge(1, 0), CAST);
        SafeClears y = new SafeClears();
        Due.feed(y, "ca1;ca1;cb1");
        y.read();
        y.phase(1, 0);
        y.phase(2, 0);
        y.start();
        y.come(1, 1);
        y.pass(6);
        due.is("holds nothing", y.judge(0, 0), 100);
        y.tape(0, 0, 5);
        y.item(0, 2, 1);
        due.is("amber, red, red", y.judge(0, 2), -5);
        due.is("the first one is otherwise", y.judge(0, 0), 0);
        due.is("and so from 1 on", y.judge(0, 1), 0);
        y.item(0, 4, 2);
        due.is("the third one is otherwise", y.judge(0, 2), 2);
        y.item(0, 3, 1);
        due.is("the second one is otherwise", y.judge(0, 2), 1);
        y.item(0, 3, 1);
        y.item(0, 4, 0);
        due.is("one looked at from 3 on, the row ends behind the second", y.judge(0, 3), 102);
        y.item(0, 4, 1);
        due.is("one looked at", y.judge(0, 4), 101);
        due.is("none looked at", y.judge(0, 5), 100);
        due.is("place -1", y.judge(0, -1), 100);
        due.is("a place far off", y.judge(0, Integer.MAX_VALUE), 100);
        for (int sort = 1; sort < 5; sort++) {
            y.tape(2, sort, 5);
            due.is("sort " + sort, y.judge(2, 0), CAST);
        }
        y.pass(5);
        y.tape(0, 0, 3);
        y.item(0, 1, 2);
        due.is("red, green, red", y.judge(0, 0), -5);
    }

    private static void image() {
        due.promise(47, "image");
        SafeClears x = new SafeClears();
        due.is("set up", x.image(), 0);
        x.signal(0, 0);
        x.phase(1, 0);
        x.start();
        x.pass(7);
        due.is("image()", x.image(), 7);
        due.is("nothing changes", x.told(0), 7);
    }

    private static void undo() {
        due.promise(48, "undo");
        SafeClears x = new SafeClears();
        due.is("there is none", x.undo(), STATE);
        x = busy();
        x.cycle(40, 3, 9);
        x.emergency(2);
        x.green(0, 0, 4);
        x.note(3, 1);
        x.plan(0, 5);
        x.wave(40);
        x.node(1, 2, 3);
        due.is("image()", x.image(), 10);
        int[] facts = facts(x);
        x.pass(50);
        x.over();
        x.cycle(0, 0, 0);
        x.seed(8);
        x.come(0, 20);
        x.tell(0, 0, 1);
        x.tell(1, 1, 99);
        x.tell(2, 2, 9);
        x.tell(3, 3, 60);
        x.pass(50);
        x.green(0, 5, 9);
        x.note(-1, 0);
        x.plan(0, 7);
        x.wave(20);
        x.feed(65);
        x.tape(3, 2, 2);
        x.item(3, 1, 44);
        int counted = x.count(5);
        due.is("undo()", x.undo(), 10);
        due.is("the text stays", x.count(0), 1);
        due.is("the tapes stay", x.peek(3, 1), 44);
        due.is("the seconds counted stay", x.count(5), counted);
        int[] again = facts(x);
        for (int k = 0; k < facts.length; k++) {
            due.is("fact " + k, again[k], facts[k]);
        }
        SafeClears same = busy();
        same.cycle(40, 3, 9);
        same.emergency(2);
        same.pass(60);
        x.pass(60);
        due.is("it goes on as it would have", x.told(4), same.told(4));
        due.is("and once more", x.undo(), 10);
        SafeClears y = new SafeClears();
        y.signal(0, 0);
        y.image();
        y.safety(5);
        y.signal(0, 0);
        y.goes(0, 1);
        y.phase(1, 0);
        y.start();
        y.undo();
        due.is("set up again", y.goes(0, 2), 2);
        due.is("how many signals", y.told(16), 1);
        due.is("how many phases", y.told(17), 0);
        due.is("safety", y.told(11), 1);
        due.is("a new one", y.signal(0, 2), 1);
        due.is("clear by the new ways", y.clear(0, 1), 6);
    }

    private static int[] facts(SafeClears x) {
        int[] facts = new int[19 + 4 * 14 + 3 * 4 + 12];
        int n = 0;
        for (int what = 0; what < 19; what++) {
            facts[n++] = x.told(what);
        }
        for (int s = 0; s < 4; s++) {
            for (int what = 0; what < 14; what++) {
                facts[n++] = x.of(s, what);
            }
        }
        for (int p = 0; p < 3; p++) {
            for (int what = 0; what < 4; what++) {
                facts[n++] = x.phaseOf(p, what);
            }
        }
        for (int what : new int[] {1, 2, 3, 4, 6, 7}) {
            facts[n++] = x.count(what);
        }
        facts[n++] = x.recorded(0, 2);
        facts[n++] = x.could(0, 3, 1);
        facts[n++] = x.band(2);
        facts[n++] = x.change(0, 0, 1);
        facts[n++] = x.change(0, 2, 3);
        facts[n++] = x.table(2);
        return facts;
    }

    private static void count() {
        due.promise(49, "count");
        SafeClears x = busy();
        Due.feed(x, "abc");
        x.note(1, 1);
        x.note(1, 1);
        x.plan(2, 0);
        x.green(0, 0, 1);
        x.node(0, 1, 0);
        int[] counts = {3, 2, 1, 1, 1, 10, x.recorded(0, 0) >= 0 ? 1 : 0, 30};
        for (int what = 0; what < counts.length; what++) {
            due.is("count(" + what + ")", x.count(what), counts[what]);
        }
        due.is("count(-1)", x.count(-1), BAD);
        due.is("count(8)", x.count(8), BAD);
    }

    private static void tape() {
        due.promise(50, "tape");
        SafeClears x = new SafeClears();
        due.is("tape(0, 0, 60)", x.tape(0, 0, 60), 1);
        due.is("the last place", x.peek(0, 59), 0);
        due.is("tape(0, 0, 61)", x.tape(0, 0, 61), BAD);
        due.is("sort 5", x.tape(0, 5, 1), BAD);
        due.is("sort -2, BAD ahead of SIZE", x.tape(0, -2, -1), BAD);
        due.is("n -1", x.tape(0, 4, -1), SIZE);
        due.is("tape 6, NONE ahead of BAD", x.tape(6, 9, 1), NONE);
        due.is("tape -1", x.tape(-1, 0, 1), NONE);
        x.item(0, 5, 9);
        due.is("a row of 0 items", x.tape(5, 4, 0), 1);
        due.is("no place in it", x.item(5, 0, 1), PLACE);
        due.is("anew", x.tape(0, 3, 10), 1);
        due.is("all 0", x.peek(0, 5), 0);
        due.is("nothing", x.tape(0, -1, -99), 1);
        due.is("nothing there", x.item(0, 0, 1), NOTHING);
        due.is("nothing, n above 60", x.tape(1, -1, 99), 1);
    }

    private static void item() {
        due.promise(51, "item");
        SafeClears x = new SafeClears();
        long[] values = {0x123456789ABCDEF0L, -1, 128, 32768, 1L << 31, 2, Long.MIN_VALUE};
        long[][] items = {{(byte) 0xF0, (short) 0xDEF0, 0x9ABCDEF0, 0x123456789ABCDEF0L, 1}, {-1, -1, -1, -1, 1},
            {-128, 128, 128, 128, 1}, {0, -32768, 32768, 32768, 1}, {0, 0, Integer.MIN_VALUE, 1L << 31, 1},
            {2, 2, 2, 2, 1}, {0, 0, 0, Long.MIN_VALUE, 1}};
        for (int sort = 0; sort < 5; sort++) {
            x.tape(sort, sort, 3);
            for (int k = 0; k < values.length; k++) {
                due.is("item(" + sort + ", 2, " + values[k] + ")", x.item(sort, 2, values[k]), 1);
                due.is("peek(" + sort + ", 2)", x.peek(sort, 2), items[k][sort]);
            }
            x.item(sort, 2, 0);
            due.is("0 of sort " + sort, x.peek(sort, 2), 0);
        }
        due.is("place 3", x.item(0, 3, 1), PLACE);
        due.is("place -1", x.item(0, -1, 1), PLACE);
        due.is("nothing, ahead of PLACE", x.item(5, -1, 1), NOTHING);
        due.is("tape 6", x.item(6, 0, 1), NONE);
        due.is("tape -1", x.item(-1, 0, 1), NONE);
    }

    private static void peek() {
        due.promise(52, "peek");
        SafeClears x = new SafeClears();
        due.is("nothing there", x.peek(0, 0), NO);
        due.is("tape 6", x.peek(6, 0), NO);
        due.is("tape -1", x.peek(-1, 0), NO);
        x.tape(0, 3, 2);
        x.item(0, 1, -77);
        due.is("peek(0, 1)", x.peek(0, 1), -77);
        due.is("place 2", x.peek(0, 2), NO);
        due.is("place -1", x.peek(0, -1), NO);
        x.tape(0, -1, 0);
        due.is("nothing there any more", x.peek(0, 1), NO);
        due.is("nothing there any more", x.peek(0, 0), NO);
    }

    private static SafeClears tapes() {
        SafeClears x = new SafeClears();
        x.tape(0, 2, 6);
        x.tape(1, 2, 4);
        x.tape(2, 3, 4);
        x.tape(4, 4, 0);
        for (int i = 0; i < 6; i++) {
            x.item(0, i, i + 1);
        }
        return x;
    }

    private static void row(SafeClears x, int tape, int... items) {
        for (int i = 0; i < items.length; i++) {
            due.is("peek(" + tape + ", " + i + ")", x.peek(tape, i), items[i]);
        }
    }

    private static void shift() {
        due.promise(53, "shift");
        SafeClears x = tapes();
        due.is("to another one", x.shift(0, 3, 1, 1, 3), 3);
        row(x, 1, 0, 4, 5, 6);
        row(x, 0, 1, 2, 3, 4, 5, 6);
        due.is("to the same, up", x.shift(0, 0, 0, 1, 5), 5);
        row(x, 0, 1, 1, 2, 3, 4, 5);
        due.is("to the same, down", x.shift(0, 2, 0, 0, 4), 4);
        row(x, 0, 2, 3, 4, 5, 4, 5);
        due.is("none, at the ends", x.shift(0, 6, 1, 4, 0), 0);
        int[][] places = {{0, -1, 1, 0, 1}, {0, 0, 1, -1, 1}, {0, 0, 1, 0, -1}, {0, 6, 1, 0, 1}, {0, 7, 1, 0, 0},
            {0, 0, 1, 5, 0}, {0, 0, 1, 0, 5}, {0, 2, 0, 0, 5}, {0, Integer.MAX_VALUE, 1, 0, 1},
            {0, 1, 1, 0, Integer.MAX_VALUE}, {0, Integer.MIN_VALUE, 1, 0, Integer.MAX_VALUE}};
        for (int[] v : places) {
            due.is("shift from " + v[1] + " to " + v[3] + " of " + v[4], x.shift(v[0], v[1], v[2], v[3], v[4]), PLACE);
        }
        row(x, 0, 2, 3, 4, 5, 4, 5);
        due.is("unlike sorts, ahead of PLACE", x.shift(0, -1, 2, 0, 1), CAST);
        due.is("unlike sorts, none of them", x.shift(0, 0, 4, 0, 0), CAST);
        due.is("to nothing, ahead of PLACE", x.shift(0, -1, 3, 0, 1), NOTHING);
        due.is("from nothing", x.shift(3, 0, 0, 0, 1), NOTHING);
        due.is("from a tape 6, ahead of NOTHING", x.shift(6, 0, 3, 0, 1), NONE);
        due.is("to a tape 6, ahead of NOTHING", x.shift(3, 0, 6, 0, 1), NONE);
        due.is("to a tape -1", x.shift(3, 0, -1, 0, 1), NONE);
    }
}
