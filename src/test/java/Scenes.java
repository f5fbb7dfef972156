/** Pairs in all the states that edges and refused calls are tried in; each call makes the same pair anew. */
final class Scenes {
    static final String[] NAMES = {"new", "ready", "begun", "HELLO answered", "ANSWER taken", "client OPEN", "both OPEN",
        "more than 100 writings", "client CLOSED", "server CLOSED", "client DEAD, not begun", "server DEAD, not begun",
        "both DEAD", "full net, not begun", "full net, OPEN", "OPEN with COOKIE and SHARE",
        "all of it counted"};

    private Scenes() {
    }

    static LossyPair make(int scene) {
        switch (scene) {
            case 0:
                return new LossyPair();
            case 1:
                return greeted(7, 100, 150);
            case 2:
                return Pairs.begun(7, 500);
            case 3:
                return answered();
            case 4:
                return answerTaken();
            case 5:
                return Pairs.clientOpen();
            case 6:
                return Pairs.open();
            case 7:
                return written();
            case 8:
            case 9:
                return closed(scene - 8);
            case 10:
            case 11:
                return dead(Pairs.ready(0, 500), scene - 10);
            case 12:
                return bothDead();
            case 13:
                return full(Pairs.ready(0, 500));
            case 14:
                return full(Pairs.open());
            case 15:
                return cookieAndShare();
            default:
                return allCounted();
        }
    }

    static LossyPair greeted(int wants, int mtu, int many) {
        LossyPair x = Pairs.ready(wants, mtu);
        Pairs.draft(x, new byte[many]);
        x.greet();
        return x;
    }

    /** The server waits for the client's FINISHED; its FLIGHT has four datagrams. */
    static LossyPair answered() {
        LossyPair x = greeted(0, 100, 150);
        x.begin();
        x.deliver(1, 0);
        return x;
    }

    /** The client has SECRETS of EPOCH 2 and waits for the rest of SETTINGS. */
    static LossyPair answerTaken() {
        LossyPair x = answered();
        x.deliver(0, 0);
        return x;
    }

    /** 101 writings were delivered to the server, and one to the client. */
    static LossyPair written() {
        LossyPair x = Pairs.open();
        Pairs.write(x, 1, "one");
        for (int n = 0; n < 101; n++) {
            Pairs.draft(x, Octets.part(Octets.hash(Octets.of(n)), 0, 1 + n % 32));
            x.write(0);
            if (n % 50 == 0) {
                x.run(1);
            }
        }
        x.run(1);
        return x;
    }

    static LossyPair closed(int side) {
        LossyPair x = Pairs.open();
        x.close(side);
        x.run(1);
        return x;
    }

    static LossyPair dead(LossyPair x, int side) {
        Pairs.hit(x, side, Octets.openRecord(21, 60, Octets.of(40)));
        return x;
    }

    private static LossyPair bothDead() {
        LossyPair x = Pairs.open();
        for (int side = 0; side < 2; side++) {
            Pairs.hit(x, side, Pairs.sealed(x, side, 3, 60, 21, Octets.of(99)));
        }
        return x;
    }

    /** KEYS, NAMES, SEEDS and the GREETING are without an octet 0. */
    private static LossyPair cookieAndShare() {
        LossyPair x = new LossyPair();
        x.make(7, 100);
        for (int side = 0; side < 2; side++) {
            x.key(side, -1, -2);
            x.name(side, -3, -4);
        }
        byte[] greeting = new byte[150];
        java.util.Arrays.fill(greeting, (byte) 7);
        Pairs.draft(x, greeting);
        x.greet();
        x.begin();
        x.run(4);
        return x;
    }

    /** Each thing that is told of a side is above 0, of the client, and of the server but for its TIMER. */
    private static LossyPair allCounted() {
        LossyPair x = Pairs.begun(0, 500);
        byte[] finished = Octets.fragment(20, 32, 2, 0, new byte[1]);
        Pairs.hit(x, 0, Octets.of(35, 0, 0, 0, 0));
        Pairs.hit(x, 1, Octets.of(35, 0, 0, 0, 0));
        Pairs.ticks(x, 4);
        x.lose(1, 0);
        x.deliver(1, 0);
        Pairs.ticks(x, 4);
        x.deliver(0, 0);
        for (int side = 0; side < 2; side++) {
            Pairs.hit(x, side, Pairs.sealed(x, side, 3, 50, 21, Octets.of(0)), Octets.of(0));
            Pairs.hit(x, side, Pairs.sealed(x, side, 3, 50, 21, Octets.of(0)), Octets.of(35, 0, 0, 0, 0));
            Pairs.hit(x, side, Pairs.sealed(x, side, 2, 50, 22, finished));
        }
        Pairs.ticks(x, 4);
        return x;
    }

    /** 60 datagrams are on their way to each side, of 1 to 60 octets, all MALFORMED. */
    static LossyPair full(LossyPair x) {
        for (int side = 0; side < 2; side++) {
            for (int i = 1; i <= 60; i++) {
                Pairs.inject(x, side, new byte[i]);
            }
        }
        return x;
    }
}
