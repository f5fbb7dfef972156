import java.util.ArrayList;
import java.util.List;
import java.util.Random;

/** Runs of calls drawn from a fixed seed, on the class and on the model, with all answers compared. */
public final class RandomRunsTest {
    private static final int RUNS = 600;
    private static final int[] EPOCHS = {0, 2, 3};
    private static final int[] KINDS = {1, 2, 6, 8, 20};
    private static final int[] LENGTHS = {61, 77, 20, 16, 2, 32, 152, 153, 0, 60};
    private static final int[] TYPES = {21, 22, 23, 26};
    private static final long[] SHARES = {0, 1, 7, 2147483646L, 2147483647L, 2147483648L, 4294967295L};

    private final Random dice;
    private final Twin twin;
    /** Datagrams that were seen in the net, with the side to which they went. */
    private final List<byte[]> seen = new ArrayList<>();

    private RandomRunsTest(LossyPair x, Check check, int run) {
        dice = new Random(1000L + run);
        twin = new Twin(x, check, "run " + run);
    }

    public static void main(String[] args) {
        Check check = new Check("RandomRunsTest");
        int runs = args.length > 0 ? Integer.parseInt(args[0]) : RUNS;
        int first = args.length > 1 ? Integer.parseInt(args[1]) : 0;
        int[] ends = new int[5];
        LossyPair x = new LossyPair();
        for (int run = first; run < first + runs; run++) {
            // Most runs make an object anew that was used before: nothing of that may be left.
            boolean fresh = run % 8 == 0;
            x = fresh ? new LossyPair() : x;
            RandomRunsTest test = new RandomRunsTest(x, check, run);
            test.play(run, fresh);
            ends[test.twin.state(0)]++;
        }
        for (int state = 1; state < 5; state++) {
            check.due("some run ends with the client in state " + state, ends[state] > 0 ? 1 : 0, 1);
        }
        check.end();
    }

    private void play(int run, boolean fresh) {
        int calls = 60 + dice.nextInt(200);
        int meddling = dice.nextInt(4);
        if (!fresh || dice.nextInt(3) != 0) {
            int mtu = dice.nextInt(3) == 0 ? 100 + dice.nextInt(401) : 100 + dice.nextInt(60);
            twin.make(dice.nextInt(8), mtu);
        }
        prepare();
        for (int call = 0; call < calls; call++) {
            twin.where = "run " + run + " call " + call;
            remember();
            if (dice.nextInt(8) < 2 * meddling) {
                meddle();
            } else {
                goOn();
            }
            twin.compare();
            if (call % 16 == 0) {
                twin.compareSecretsAndWritings();
            }
        }
        twin.compareSecretsAndWritings();
        if (dice.nextInt(2) == 0) {
            // What is drafted when the object is made anew is gone then.
            twin.draft(octets(1 + dice.nextInt(20)));
        }
    }

    private void prepare() {
        long high = dice.nextLong();
        long low = dice.nextLong();
        long name = dice.nextLong();
        if (dice.nextInt(10) != 0) {
            twin.key(0, high, low);
            twin.key(1, high, dice.nextInt(20) == 0 ? low ^ 1 : low);
            twin.name(0, name, dice.nextLong());
            twin.name(1, dice.nextInt(20) == 0 ? name ^ 1 : name, dice.nextLong());
        }
        if (dice.nextInt(4) != 0) {
            twin.draft(octets(dice.nextInt(151)));
            twin.greet();
        }
        if (dice.nextInt(20) == 0) {
            meddle();
        }
        if (twin.state(0) == 0) {
            twin.begin();
        }
    }

    private byte[] octets(int many) {
        byte[] row = new byte[many];
        dice.nextBytes(row);
        return row;
    }

    private void remember() {
        for (List<byte[]> net : twin.m.nets) {
            if (!net.isEmpty() && dice.nextInt(3) == 0) {
                seen.add(net.get(dice.nextInt(net.size())).clone());
            }
        }
    }

    private void goOn() {
        int side = dice.nextInt(2);
        switch (dice.nextInt(9)) {
            case 0:
            case 1:
            case 2:
                if (twin.net(side) > 0) {
                    twin.deliver(side, dice.nextInt(3) == 0 ? dice.nextInt(twin.net(side)) : 0);
                }
                break;
            case 3:
            case 4:
                twin.tick();
                break;
            case 5:
                twin.run(dice.nextInt(12) == 0 ? dice.nextInt(40) : dice.nextInt(3));
                break;
            case 6:
            case 7:
                writeSome(side);
                break;
            default:
                if (twin.state(side) == 2 && dice.nextInt(12) == 0) {
                    twin.close(side);
                }
                break;
        }
    }

    private void writeSome(int side) {
        if (twin.state(side) == 2 && twin.m.draft.length == 0) {
            twin.draft(octets(1 + dice.nextInt(60)));
            twin.write(side);
        }
    }

    private void meddle() {
        int side = dice.nextInt(2);
        int many = twin.net(side);
        int i = many == 0 ? 0 : dice.nextInt(many);
        switch (dice.nextInt(8)) {
            case 0:
            case 1:
                if (many > 0) {
                    twin.lose(side, i);
                }
                break;
            case 2:
            case 3:
                if (many > 0) {
                    twin.twice(side, i);
                }
                break;
            case 4:
                if (many > 0 && dice.nextInt(3) == 0) {
                    int size = twin.m.nets.get(side).get(i).length;
                    int k = dice.nextInt(dice.nextInt(2) == 0 ? Math.min(size, 15) : size);
                    twin.forge(side, i, k, dice.nextInt(2) == 0 ? dice.nextInt() : 1 << dice.nextInt(8));
                }
                break;
            default:
                injectSome(side);
                break;
        }
    }

    private void injectSome(int side) {
        byte[] datagram;
        if (!seen.isEmpty() && dice.nextInt(2) == 0) {
            datagram = seen.get(dice.nextInt(seen.size()));
        } else {
            datagram = record(side);
            while (datagram.length < 300 && dice.nextInt(3) == 0) {
                datagram = Octets.join(datagram, record(side));
            }
            if (dice.nextInt(30) == 0) {
                datagram = octets(1 + dice.nextInt(20));
            }
        }
        twin.inject(side, datagram);
        if (twin.m.draft.length > 0) {
            // The net was full: THE DRAFT has to go before another one is drafted.
            twin.lose(side, 0);
            twin.inject(side);
        }
    }

    /** A record as the other side could send it, of the EPOCHS of which there are SECRETS. */
    private byte[] record(int side) {
        Model.ModelSide from = twin.m.sides[1 - side];
        Model.ModelSide to = twin.m.sides[side];
        int epoch = EPOCHS[dice.nextInt(3)];
        Model.ModelSide knows = dice.nextInt(2) == 0 ? from : to;
        int which = (epoch - 2) * 2 + 1 - side;
        int number = dice.nextInt(8) == 0 ? dice.nextInt(65536) : from.numbers[epoch] + dice.nextInt(40) - 3;
        number = Math.max(0, Math.min(65535, number));
        int type = dice.nextInt(40) == 0 ? dice.nextInt(256) : TYPES[dice.nextInt(TYPES.length)];
        if (epoch == 0 || knows.secrets[which] == null) {
            type = type == 23 ? 22 : type;
            return Octets.openRecord(type, number, content(type, to));
        }
        return Octets.sealedRecord(knows.secrets[which], epoch, number, type, content(type, to));
    }

    private byte[] content(int type, Model.ModelSide to) {
        if (dice.nextInt(25) == 0) {
            return octets(dice.nextInt(5));
        }
        switch (type) {
            case 21:
                return Octets.of(dice.nextInt(12) == 0 ? dice.nextInt(256) : 0);
            case 22:
                return handshake(to);
            case 26:
                return acks(to);
            default:
                return octets(dice.nextInt(64));
        }
    }

    private byte[] handshake(Model.ModelSide to) {
        switch (dice.nextInt(6)) {
            case 0:
            case 1:
                return fragmentOfFlight(to);
            case 2:
                return to.me == 1 && to.state == 0 ? madeUpHello(to) : madeUpFinished(to);
            default:
                return fragment(to);
        }
    }

    /** A HELLO that the client did not send; the server has no fault to find with many of them. */
    private byte[] madeUpHello(Model.ModelSide to) {
        byte[] random = octets(16);
        byte[] cookie = dice.nextInt(2) == 0 ? new byte[0] : Octets.part(Octets.mac(to.seed, random), 0, 16);
        byte[] share = Octets.u4(SHARES[dice.nextInt(SHARES.length)]);
        byte[] name = dice.nextInt(12) == 0 ? octets(8) : to.name;
        int told = dice.nextInt(12) == 0 ? 16 - cookie.length : cookie.length;
        byte[] front = Octets.join(random, Octets.of(told), cookie, share, name);
        byte[] head = Octets.join(Octets.of(1), Octets.u2(front.length + 32));
        byte[] binder = dice.nextInt(12) == 0 ? octets(32) : to.binder(Octets.join(head, front));
        byte[] body = Octets.join(front, binder);
        return Octets.fragment(1, body.length, dice.nextInt(2), 0, body);
    }

    /** FINISHED as it is right for the MESSAGES that this side has by now, in one FRAGMENT. */
    private byte[] madeUpFinished(Model.ModelSide to) {
        if (to.secrets[0] == null) {
            return fragment(to);
        }
        return Octets.fragment(20, 32, to.next, 0, to.finished(1 - to.me));
    }

    private byte[] acks(Model.ModelSide to) {
        byte[] content = new byte[0];
        for (int n = dice.nextInt(4); n > 0; n--) {
            int epoch = EPOCHS[dice.nextInt(3)];
            int number = Math.max(0, to.numbers[epoch] - dice.nextInt(6));
            content = Octets.join(content, Octets.of(epoch), Octets.u2(number));
        }
        return content;
    }

    /** A part of a MESSAGE that the other side truly sends now. */
    private byte[] fragmentOfFlight(Model.ModelSide to) {
        Model.ModelSide from = twin.m.sides[1 - to.me];
        if (from.flight == null) {
            return fragment(to);
        }
        Model.Sent m = from.flight.get(dice.nextInt(from.flight.size()));
        int at = dice.nextInt(m.body.length);
        int end = at + 1 + dice.nextInt(m.body.length - at);
        return Octets.fragment(m.kind, m.body.length, m.number, at, Octets.part(m.body, at, end));
    }

    private byte[] fragment(Model.ModelSide to) {
        int kind = KINDS[dice.nextInt(KINDS.length)];
        int length = dice.nextInt(4) == 0 ? LENGTHS[dice.nextInt(LENGTHS.length)] : usualLength(kind);
        int number = Math.max(0, to.next + dice.nextInt(8) - 2);
        number = kind == 1 && dice.nextInt(3) != 0 ? dice.nextInt(2) : number;
        int from = dice.nextInt(2) == 0 ? 0 : dice.nextInt(length + 1);
        int many = dice.nextInt(2) == 0 ? Math.max(0, length - from) : dice.nextInt(length + 2);
        return Octets.fragment(kind, length, number, from, octets(many));
    }

    private int usualLength(int kind) {
        switch (kind) {
            case 1:
                return dice.nextInt(2) == 0 ? 61 : 77;
            case 2:
                return 20;
            case 6:
                return 16;
            case 8:
                return 2 + dice.nextInt(151);
            default:
                return 32;
        }
    }
}
