import java.util.ArrayList;
import java.util.List;

/**
 * "Methods throw what their comments name, the one named first when several would do; a call that throws, or answers
 * NONE, changes nothing": in each scene, with THE DRAFT at each of its edges, every kind of call that is to be refused.
 */
public final class RefusedCallsTest {
    private static final Check CHECK = new Check("RefusedCallsTest");
    private static final int[] DRAFTED = {0, 1, 60, 61, 150, 151, 493, 500};
    private static final int LOW = Integer.MIN_VALUE;
    private static final int HIGH = Integer.MAX_VALUE;
    private static final Class<IndexOutOfBoundsException> RANGE = IndexOutOfBoundsException.class;
    private static final Class<IllegalStateException> STATE = IllegalStateException.class;
    private static final Class<IllegalArgumentException> ARGUMENT = IllegalArgumentException.class;

    private interface Call {
        int on(LossyPair x);
    }

    /** A call, and what it throws; it answers NONE where it throws nothing. */
    private record Refused(String what, Class<? extends RuntimeException> thrown, Call call) {
    }

    private final List<Refused> calls = new ArrayList<>();

    private RefusedCallsTest() {
    }

    public static void main(String[] args) {
        for (int scene = 0; scene < Scenes.NAMES.length; scene++) {
            for (int drafted : DRAFTED) {
                tryIn(scene, drafted);
            }
        }
        CHECK.end();
    }

    private static LossyPair make(int scene, int drafted) {
        LossyPair x = Scenes.make(scene);
        byte[] octets = new byte[drafted];
        for (int i = 0; i < drafted; i++) {
            octets[i] = (byte) (i + 1);
        }
        Pairs.draft(x, octets);
        return x;
    }

    private static void tryIn(int scene, int drafted) {
        String where = Scenes.NAMES[scene] + ", DRAFT of " + drafted + ": ";
        LossyPair x = make(scene, drafted);
        LossyPair untouched = make(scene, drafted);
        int[] before = Snapshot.of(x);
        for (Refused refused : all(x, drafted)) {
            if (refused.thrown == null) {
                CHECK.due(where + refused.what, refused.call.on(x), LossyPair.NONE);
            } else {
                CHECK.thrown(where + refused.what, refused.thrown, () -> refused.call.on(x));
            }
        }
        CHECK.same(where + "nothing that can be asked changed", Snapshot.of(x), before);
        CHECK.same(where + "nor what comes of it", afterwards(x), afterwards(untouched));
    }

    /** THE DRAFT, NOW, KEYS, NAMES, SEEDS and the GREETING can't be asked: they show in what comes later. */
    private static int[] afterwards(LossyPair x) {
        List<Integer> row = new ArrayList<>();
        row.add(x.net(0) == 60 ? x.lose(0, 0) : -9);
        row.add(x.inject(0));
        row.add(x.draft(1, 9));
        for (int i = 0; i < x.net(0); i++) {
            row.add(x.octet(0, i, x.size(0, i) - 1));
        }
        row.add(x.tick());
        row.add(x.state(0) == 0 ? x.begin() : -9);
        row.add(x.run(5));
        for (int side = 0; side < 2; side++) {
            Pairs.draft(x, new byte[4]);
            row.add(x.state(side) == 2 ? x.write(side) : -9);
        }
        for (int value : Snapshot.of(x)) {
            row.add(value);
        }
        return row.stream().mapToInt(Integer::intValue).toArray();
    }

    private static List<Refused> all(LossyPair x, int drafted) {
        RefusedCallsTest test = new RefusedCallsTest();
        test.arguments(drafted);
        test.sides();
        test.states(x, drafted);
        for (int side = 0; side < 2; side++) {
            test.datagrams(x, side, drafted);
            test.asked(x, side);
        }
        return test.calls;
    }

    private void add(String what, Class<? extends RuntimeException> thrown, Call call) {
        calls.add(new Refused(what, thrown, call));
    }

    private void arguments(int drafted) {
        int[][] made = {{-1, 200}, {8, 200}, {LOW, 200}, {HIGH, 200}, {0, 99}, {7, 501}, {3, 0}, {3, -1}, {3, LOW},
            {3, HIGH}, {-1, 99}, {8, 501}};
        for (int[] m : made) {
            add("make(" + m[0] + ", " + m[1] + ")", ARGUMENT, x -> {
                x.make(m[0], m[1]);
                return 0;
            });
        }
        for (int n : new int[] {LOW, -8, -1, 0, 1, 2, 7, 8, 9, 16, HIGH}) {
            if (n < 1 || n > 8 || drafted + n > 500) {
                add("draft(" + n + ", ..)", ARGUMENT, x -> x.draft(n, -1));
            }
        }
        for (int times : new int[] {LOW, -1, 101, HIGH}) {
            add("run(" + times + ")", ARGUMENT, x -> x.run(times));
        }
    }

    private void sides() {
        for (int side : new int[] {LOW, -2, -1, 2, 3, HIGH}) {
            add("key(" + side + ", ..)", RANGE, x -> {
                x.key(side, 5, 5);
                return 0;
            });
            add("name(" + side + ", ..)", RANGE, x -> {
                x.name(side, 5, 5);
                return 0;
            });
            add("close(" + side + ")", RANGE, x -> {
                x.close(side);
                return 0;
            });
            add("write(" + side + ")", RANGE, x -> x.write(side));
            add("net(" + side + ")", RANGE, x -> x.net(side));
            add("size(" + side + ", 0)", RANGE, x -> x.size(side, 0));
            add("octet(" + side + ", 0, 0)", RANGE, x -> x.octet(side, 0, 0));
            add("deliver(" + side + ", 0)", RANGE, x -> x.deliver(side, 0));
            add("lose(" + side + ", 0)", RANGE, x -> x.lose(side, 0));
            add("twice(" + side + ", 0)", RANGE, x -> x.twice(side, 0));
            add("forge(" + side + ", 0, 0, 1)", RANGE, x -> x.forge(side, 0, 0, 1));
            add("inject(" + side + ")", RANGE, x -> x.inject(side));
            add("state(" + side + ")", RANGE, x -> x.state(side));
            add("got(" + side + ")", RANGE, x -> x.got(side));
            add("gotOctet(" + side + ", 0, -1)", RANGE, x -> x.gotOctet(side, 0, -1));
            add("secret(" + side + ", 0, 0)", RANGE, x -> x.secret(side, 0, 0));
            add("told(" + side + ", 0)", RANGE, x -> x.told(side, 0));
        }
    }

    /** What hangs on states; IllegalStateException goes before IllegalArgumentException. */
    private void states(LossyPair now, int drafted) {
        boolean begun = now.state(0) != 0;
        if (begun) {
            add("begin()", STATE, x -> x.begin());
        }
        if (begun || drafted > 150) {
            add("greet()", begun ? STATE : ARGUMENT, x -> x.greet());
        }
        for (int s = 0; s < 2; s++) {
            int side = s;
            boolean open = now.state(side) == 2;
            if (begun) {
                add("key(" + side + ", 5, 5)", STATE, x -> {
                    x.key(side, 5, 5);
                    return 0;
                });
                add("name(" + side + ", 5, 5)", STATE, x -> {
                    x.name(side, 5, 5);
                    return 0;
                });
            }
            if (!open) {
                add("close(" + side + ")", STATE, x -> {
                    x.close(side);
                    return 0;
                });
            }
            if (!open || drafted < 1 || drafted > 60) {
                add("write(" + side + ")", open ? ARGUMENT : STATE, x -> x.write(side));
            }
        }
    }

    private void datagrams(LossyPair now, int side, int drafted) {
        int many = now.net(side);
        for (int i : new int[] {LOW, -1, many, many + 1, HIGH}) {
            String at = "(" + side + ", " + i;
            add("size" + at + ")", RANGE, x -> x.size(side, i));
            add("octet" + at + ", 0)", RANGE, x -> x.octet(side, i, 0));
            add("deliver" + at + ")", RANGE, x -> x.deliver(side, i));
            add("lose" + at + ")", RANGE, x -> x.lose(side, i));
            add("twice" + at + ")", RANGE, x -> x.twice(side, i));
            add("forge" + at + ", 0, 1)", RANGE, x -> x.forge(side, i, 0, 1));
        }
        for (int i : many == 0 ? new int[0] : new int[] {0, many - 1}) {
            int size = now.size(side, i);
            for (int k : new int[] {LOW, -1, size, size + 1, 500, HIGH}) {
                add("octet(" + side + ", " + i + ", " + k + ")", RANGE, x -> x.octet(side, i, k));
                add("forge(" + side + ", " + i + ", " + k + ", 1)", RANGE, x -> x.forge(side, i, k, 1));
            }
        }
        if (many == 60) {
            add("twice(" + side + ", 0), full", null, x -> x.twice(side, 0));
            add("twice(" + side + ", 59), full", null, x -> x.twice(side, 59));
        }
        if (many == 60 || drafted == 0) {
            add("inject(" + side + ")", null, x -> x.inject(side));
        }
    }

    private void asked(LossyPair now, int side) {
        int got = now.got(side);
        int first = Math.max(0, got - 100);
        for (int k : new int[] {LOW, -1, first - 1, got, got + 1, HIGH}) {
            add("gotOctet(" + side + ", " + k + ", 0)", RANGE, x -> x.gotOctet(side, k, 0));
            add("gotOctet(" + side + ", " + k + ", -1)", RANGE, x -> x.gotOctet(side, k, -1));
        }
        for (int k : got == 0 ? new int[0] : new int[] {first, got - 1}) {
            int many = now.gotOctet(side, k, -1);
            for (int i : new int[] {LOW, -2, many, many + 1, HIGH}) {
                add("gotOctet(" + side + ", " + k + ", " + i + ")", RANGE, x -> x.gotOctet(side, k, i));
            }
        }
        for (int which : new int[] {LOW, -1, 6, HIGH}) {
            add("secret(" + side + ", " + which + ", 0)", RANGE, x -> x.secret(side, which, 0));
        }
        for (int i : new int[] {LOW, -1, 32, HIGH}) {
            add("secret(" + side + ", 5, " + i + ")", RANGE, x -> x.secret(side, 5, i));
        }
        for (int what : new int[] {LOW, -1, 13, HIGH}) {
            add("told(" + side + ", " + what + ")", RANGE, x -> x.told(side, what));
        }
    }
}
