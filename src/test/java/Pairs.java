/** Pairs of sides in states that tests begin with, and octets into and out of the net. */
final class Pairs {
    private Pairs() {
    }

    /** Both sides have the same KEY and NAME, and other SEEDS. */
    static LossyPair ready(int wants, int mtu) {
        LossyPair x = new LossyPair();
        x.make(wants, mtu);
        x.key(0, 1, 2);
        x.key(1, 1, 2);
        x.name(0, 77, 5);
        x.name(1, 77, 6);
        return x;
    }

    static LossyPair begun(int wants, int mtu) {
        LossyPair x = ready(wants, mtu);
        x.begin();
        return x;
    }

    /** Both are OPEN, no FLIGHT runs, the net is empty. */
    static LossyPair open() {
        LossyPair x = begun(0, 500);
        x.run(2);
        return x;
    }

    /** The client is OPEN; its FINISHED is on its way to the server, which waits for it. */
    static LossyPair clientOpen() {
        LossyPair x = begun(0, 500);
        x.deliver(1, 0);
        x.deliver(0, 0);
        return x;
    }

    /** Eight octets a call, for an object has 512 calls alone. */
    static void draft(LossyPair x, byte[] octets) {
        for (int at = 0; at < octets.length; at += 8) {
            int n = Math.min(8, octets.length - at);
            long value = 0;
            for (int i = 0; i < n; i++) {
                value |= (octets[at + i] & 255L) << 8 * i;
            }
            x.draft(n, value);
        }
    }

    static int inject(LossyPair x, int side, byte[]... records) {
        draft(x, Octets.join(records));
        return x.inject(side);
    }

    /** Injects a datagram and lets it come: how many of its records CAME. */
    static int hit(LossyPair x, int side, byte[]... records) {
        return x.deliver(side, inject(x, side, records) - 1);
    }

    static byte[] datagram(LossyPair x, int side, int i) {
        byte[] row = new byte[x.size(side, i)];
        for (int k = 0; k < row.length; k++) {
            row[k] = (byte) x.octet(side, i, k);
        }
        return row;
    }

    static byte[] secret(LossyPair x, int side, int which) {
        byte[] row = new byte[32];
        for (int i = 0; i < 32; i++) {
            row[i] = (byte) x.secret(side, which, i);
        }
        return row;
    }

    /** A sealed record to a side, with the KEYS that this side has for it. */
    static byte[] sealed(LossyPair x, int to, int epoch, int number, int type, byte... content) {
        return Octets.sealedRecord(secret(x, to, (epoch - 2) * 2 + 1 - to), epoch, number, type, content);
    }

    static void write(LossyPair x, int side, String text) {
        draft(x, text.getBytes(java.nio.charset.StandardCharsets.ISO_8859_1));
        x.write(side);
    }

    static void ticks(LossyPair x, int many) {
        for (int i = 0; i < many; i++) {
            x.tick();
        }
    }

    static void loseAll(LossyPair x) {
        for (int side = 0; side < 2; side++) {
            while (x.net(side) > 0) {
                x.lose(side, 0);
            }
        }
    }
}
