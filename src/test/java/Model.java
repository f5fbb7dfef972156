import java.util.ArrayDeque;
import java.util.ArrayList;
import java.util.Arrays;
import java.util.List;
import java.util.TreeMap;
import java.util.TreeSet;

/**
 * The document once more, with the Java library and without regard to room or speed, to hold the class
 * against it call by call. It is used only with arguments for which the document wants no exception.
 */
final class Model {
    static final int NONE = -1;

    final List<List<byte[]>> nets = new ArrayList<>();
    final ModelSide[] sides = new ModelSide[2];
    byte[] draft = new byte[0];
    int now;

    Model(int wants, int mtu) {
        for (int side = 0; side < 2; side++) {
            nets.add(new ArrayList<>());
        }
        for (int side = 0; side < 2; side++) {
            sides[side] = new ModelSide(this, side, mtu);
        }
        sides[0].wantsShare = (wants & 2) != 0;
        sides[1].wantsShare = (wants & 4) != 0;
        sides[1].wantsCookies = (wants & 1) != 0;
    }

    void key(int side, long high, long low) {
        sides[side].key = Octets.join(Octets.u8(high), Octets.u8(low));
    }

    void name(int side, long name, long seed) {
        sides[side].name = Octets.u8(name);
        sides[side].seed = Octets.u8(seed);
    }

    void greet() {
        sides[1].greeting = draft;
        draft = new byte[0];
    }

    int begin() {
        int before = sides[0].sent;
        sides[0].begin();
        return sides[0].sent - before;
    }

    int write(int side) {
        byte[] octets = draft;
        draft = new byte[0];
        return sides[side].single(3, 23, octets);
    }

    void close(int side) {
        sides[side].single(3, 21, new byte[1]);
        sides[side].state = 3;
    }

    int tick() {
        now++;
        sides[0].tick();
        sides[1].tick();
        return now;
    }

    int deliver(int side, int i) {
        return sides[side].come(nets.get(side).remove(i));
    }

    int run(int times) {
        int came = 0;
        for (int t = 0; t < times; t++) {
            for (int side = 1; side >= 0; side--) {
                List<byte[]> there = new ArrayList<>(nets.get(side));
                nets.get(side).clear();
                for (byte[] datagram : there) {
                    sides[side].come(datagram);
                    came++;
                }
            }
            tick();
        }
        return came;
    }

    int twice(int side, int i) {
        return put(side, nets.get(side).get(i).clone()) ? nets.get(side).size() : NONE;
    }

    int inject(int side) {
        if (draft.length == 0 || !put(side, draft)) {
            return NONE;
        }
        draft = new byte[0];
        return nets.get(side).size();
    }

    boolean put(int side, byte[] datagram) {
        return nets.get(side).size() < 60 && nets.get(side).add(datagram);
    }

    /** What is kept of a MESSAGE that did not come as a whole. */
    static final class Partial {
        int kind;
        byte[] body;
        TreeSet<Integer> came = new TreeSet<>();
    }

    /** A MESSAGE of a FLIGHT. */
    static final class Sent {
        int kind;
        int number;
        byte[] body;
        boolean[] acked;
        /** EPOCH and number of a record, and which octets it has. */
        List<int[]> records = new ArrayList<>();
    }

    static final class ModelSide {
        final Model pair;
        final int me;
        final int mtu;
        boolean wantsShare;
        boolean wantsCookies;
        byte[] key = new byte[16];
        byte[] name = new byte[8];
        byte[] seed = new byte[8];
        byte[] greeting = new byte[0];
        int state;
        int chances;
        final int[] told = new int[5];
        int sent;
        int again;
        int alert = NONE;
        boolean heardClose;
        int next;
        final List<byte[]> got = new ArrayList<>();
        final byte[][] secrets = new byte[6][];
        final int[] numbers = new int[4];
        final List<TreeSet<Integer>> came = new ArrayList<>();
        final TreeMap<Integer, Partial> kept = new TreeMap<>();
        ArrayDeque<int[]> list = new ArrayDeque<>();
        int listedAt;
        List<Sent> flight;
        int flightAgain;
        int timer;
        int sentAt;
        byte[] random;
        byte[] cookie = new byte[0];
        long own;
        byte[] transcript = new byte[0];
        int helloNumber;
        int awaited;
        byte[] begun = new byte[0];

        ModelSide(Model pair, int me, int mtu) {
            this.pair = pair;
            this.me = me;
            this.mtu = mtu;
            this.awaited = me == 0 ? 2 : 20;
            for (int e = 0; e < 4; e++) {
                came.add(new TreeSet<>());
            }
        }

        int epoch() {
            return secrets[2] != null ? 3 : secrets[0] != null ? 2 : 0;
        }

        int count(int what) {
            switch (what) {
                case 5:
                    return sent;
                case 6:
                    return again;
                case 7:
                    return flight == null ? 0 : timer;
                case 8:
                    return alert;
                case 9:
                    return heardClose ? 1 : 0;
                case 10:
                    return list.size();
                case 11:
                    return next;
                case 12:
                    return notAcked();
                default:
                    return told[what];
            }
        }

        int notAcked() {
            int n = 0;
            if (flight != null) {
                for (Sent m : flight) {
                    for (boolean a : m.acked) {
                        n += a ? 0 : 1;
                    }
                }
            }
            return n;
        }

        byte[] chance() {
            return Octets.mac(seed, Octets.of(me), Octets.u2(chances++));
        }

        long drawNumber() {
            return Octets.u4At(chance(), 0) % 2147483646L + 1;
        }

        static long power(long base, long exponent) {
            return java.math.BigInteger.valueOf(base)
                    .modPow(java.math.BigInteger.valueOf(exponent), java.math.BigInteger.valueOf(2147483647L))
                    .longValue();
        }

        // ---- sending

        void flush() {
            if (begun.length > 0) {
                sent++;
                pair.put(1 - me, begun);
                begun = new byte[0];
            }
        }

        int record(int epoch, int type, byte[] content) {
            int number = numbers[epoch];
            if (number > 65535) {
                return NONE;
            }
            numbers[epoch]++;
            byte[] record = epoch == 0
                    ? Octets.openRecord(type, number, content)
                    : Octets.sealedRecord(secrets[(epoch - 2) * 2 + me], epoch, number, type, content);
            begun = Octets.join(begun, record);
            return number;
        }

        int single(int epoch, int type, byte[] content) {
            int number = record(epoch, type, content);
            flush();
            return number;
        }

        void sendAlert(int code) {
            if (alert == NONE) {
                alert = code;
            }
            single(epoch(), 21, Octets.of(code));
        }

        void die() {
            state = 4;
            flight = null;
        }

        void raise(int code) {
            sendAlert(code);
            die();
        }

        void acks() {
            if (!list.isEmpty()) {
                byte[] content = new byte[0];
                for (int[] entry : list) {
                    content = Octets.join(content, Octets.of(entry[0]), Octets.u2(entry[1]));
                }
                single(epoch(), 26, content);
            }
        }

        void newFlight(Object... kindNumberBody) {
            flight = new ArrayList<>();
            for (int i = 0; i < kindNumberBody.length; i += 3) {
                Sent m = new Sent();
                m.kind = (Integer) kindNumberBody[i];
                m.number = (Integer) kindNumberBody[i + 1];
                m.body = (byte[]) kindNumberBody[i + 2];
                m.acked = new boolean[m.body.length];
                flight.add(m);
            }
            flightAgain = 0;
            timer = 4;
            list.clear();
            sendFlight();
        }

        void sendFlight() {
            sentAt = pair.now;
            for (Sent m : flight) {
                int epoch = m.kind == 8 || m.kind == 20 ? 2 : 0;
                int around = (epoch == 0 ? 6 : 14) + 8;
                for (int at = 0; at < m.body.length; at++) {
                    if (m.acked[at]) {
                        continue;
                    }
                    int end = at;
                    while (end < m.body.length && !m.acked[end]) {
                        end++;
                    }
                    if (mtu - begun.length - around < 1) {
                        flush();
                    }
                    end = Math.min(end, at + mtu - begun.length - around);
                    byte[] octets = Octets.part(m.body, at, end);
                    int number = record(epoch, 22, Octets.fragment(m.kind, m.body.length, m.number, at, octets));
                    m.records.add(new int[] {epoch, number, at, end});
                    at = end - 1;
                }
            }
            flush();
        }

        void sendAgain() {
            flightAgain++;
            again++;
            sendFlight();
        }

        void tick() {
            if (state == 1 && !list.isEmpty() && pair.now == listedAt + 2) {
                acks();
            }
            if (flight != null && pair.now - sentAt == timer) {
                if (flightAgain == 8) {
                    die();
                    return;
                }
                timer = Math.min(32, timer * 2);
                sendAgain();
            }
        }

        // ---- the client's and the server's MESSAGES

        byte[] early() {
            return Octets.mac(new byte[32], key);
        }

        byte[] binder(byte[] helloBut32) {
            return Octets.mac(Octets.expand(early(), "binder"), Octets.hash(helloBut32));
        }

        void begin() {
            state = 1;
            random = Octets.part(chance(), 0, 16);
            if (wantsShare) {
                own = drawNumber();
            }
            hello(0);
        }

        void hello(int number) {
            long share = own == 0 ? 0 : power(7, own);
            byte[] front = Octets.join(random, Octets.of(cookie.length), cookie, Octets.u4(share), name);
            byte[] head = Octets.join(Octets.of(1), Octets.u2(front.length + 32));
            byte[] body = Octets.join(front, binder(Octets.join(head, front)));
            transcript = Octets.message(1, body);
            helloNumber = number;
            newFlight(1, number, body);
        }

        void hand(long both) {
            secrets[4] = Octets.mac(Octets.expand(early(), "derived"), Octets.u4(both));
            secrets[5] = Octets.mac(Octets.expand(secrets[4], "derived"), new byte[32]);
            secrets[0] = Octets.expand(secrets[4], "chs", Octets.hash(transcript));
            secrets[1] = Octets.expand(secrets[4], "shs", Octets.hash(transcript));
        }

        void main() {
            secrets[2] = Octets.expand(secrets[5], "cap", Octets.hash(transcript));
            secrets[3] = Octets.expand(secrets[5], "sap", Octets.hash(transcript));
        }

        byte[] finished(int sender) {
            return Octets.mac(Octets.expand(secrets[sender], "finished"), Octets.hash(transcript));
        }

        void note(int kind, byte[] body) {
            transcript = Octets.join(transcript, Octets.message(kind, body));
        }

        void serve(int number, byte[] body) {
            int many = body[16] & 255;
            if (many != body.length - 61) {
                sendAlert(10);
                return;
            }
            byte[] wanted = Octets.part(Octets.mac(seed, Octets.part(body, 0, 16)), 0, 16);
            if (wantsCookies && !Arrays.equals(wanted, Octets.part(body, 17, 17 + many))) {
                single(0, 22, Octets.fragment(6, 16, number, 0, wanted));
                return;
            }
            if (!Arrays.equals(name, Octets.part(body, 21 + many, 29 + many))) {
                sendAlert(40);
                return;
            }
            byte[] hello = Octets.message(1, body);
            byte[] right = binder(Octets.part(hello, 0, hello.length - 32));
            if (!Arrays.equals(right, Octets.part(body, 29 + many, 61 + many))) {
                sendAlert(51);
                return;
            }
            long other = Octets.u4At(body, 17 + many);
            random = Octets.part(chance(), 0, 16);
            boolean shares = other != 0 && wantsShare;
            own = shares ? drawNumber() : 0;
            byte[] answer = Octets.join(random, Octets.u4(shares ? power(7, own) : 0));
            transcript = hello;
            note(2, answer);
            hand(shares ? power(other, own) : 0);
            byte[] settings = Octets.join(Octets.u2(mtu), greeting);
            note(8, settings);
            byte[] finished = finished(1);
            note(20, finished);
            main();
            state = 1;
            next = number + 1;
            newFlight(2, number, answer, 8, number + 1, settings, 20, number + 2, finished);
        }

        void take(int kind, byte[] body) {
            if (me == 0 && kind == 6 && awaited == 2 && cookie.length == 0) {
                cookie = body;
                hello(helloNumber + 1);
            } else if (kind != awaited) {
                raise(10);
            } else if (kind == 2) {
                long other = Octets.u4At(body, 16);
                if (other != 0 && !wantsShare) {
                    raise(47);
                    return;
                }
                note(2, body);
                hand(other == 0 ? 0 : power(other, own));
                flight = null;
                awaited = 8;
            } else if (kind == 8) {
                note(8, body);
                awaited = 20;
            } else if (!Arrays.equals(body, finished(1 - me))) {
                raise(51);
            } else {
                state = 2;
                if (me == 0) {
                    note(20, body);
                    main();
                    newFlight(20, helloNumber + 1, finished(0));
                } else {
                    flight = null;
                    acks();
                }
            }
        }

        // ---- what comes

        int come(byte[] d) {
            int many = 0;
            int at = 0;
            while (at < d.length && state != 4) {
                int first = d[at] & 255;
                boolean sealed = first == 34 || first == 35;
                int head = sealed ? 5 : 6;
                boolean whole = at + head <= d.length
                        && at + head + Octets.u2At(d, at + head - 2) <= d.length;
                boolean known = sealed || first == 21 || first == 22 || first == 26;
                if (!known || !whole || !sealed && d[at + 1] != 0) {
                    told[0]++;
                    return many;
                }
                int end = at + head + Octets.u2At(d, at + head - 2);
                many += sealed ? comeSealed(first - 32, Octets.part(d, at, end)) : comeOpen(first, Octets.part(d, at, end));
                at = end;
            }
            return many;
        }

        boolean stale(int epoch, int number) {
            TreeSet<Integer> set = came.get(epoch);
            return set.contains(number) || !set.isEmpty() && number <= set.last() - 64;
        }

        int comeOpen(int type, byte[] r) {
            int number = Octets.u2At(r, 2);
            if (stale(0, number)) {
                told[2]++;
                return 0;
            }
            return came(0, number, type, Octets.part(r, 6, r.length));
        }

        int comeSealed(int epoch, byte[] r) {
            if (epoch() < epoch) {
                told[1]++;
                return 0;
            }
            if (r.length - 5 < 9) {
                told[3]++;
                return 0;
            }
            byte[] secret = secrets[(epoch - 2) * 2 + 1 - me];
            byte[] key = Octets.expand(secret, "key");
            byte[] tag = Octets.part(r, r.length - 8, r.length);
            byte[] sealed = Octets.part(r, 5, r.length - 8);
            int number = Octets.u2At(r, 1) ^ Octets.mask(secret, tag);
            if (stale(epoch, number)) {
                told[2]++;
                return 0;
            }
            if (!Arrays.equals(tag, Octets.tag(key, epoch, number, Octets.head(epoch, number, r.length - 5), sealed))) {
                told[3]++;
                return 0;
            }
            byte[] plain = Octets.veil(key, epoch, number, sealed);
            int type = plain[plain.length - 1] & 255;
            if (type == 23 && state != 2 && state != 3) {
                told[1]++;
                return 0;
            }
            return came(epoch, number, type, Octets.part(plain, 0, plain.length - 1));
        }

        int came(int epoch, int number, int type, byte[] content) {
            came.get(epoch).add(number);
            told[4]++;
            boolean good = type == 22 ? fragment(epoch, number, content)
                    : type == 21 ? alert(epoch, content)
                    : type == 26 ? ack(epoch, content)
                    : type == 23 && epoch == 3 && data(content);
            if (!good) {
                told[0]++;
            }
            return 1;
        }

        boolean data(byte[] content) {
            if (content.length < 1 || content.length > 60) {
                return false;
            }
            got.add(content);
            flight = null;
            return true;
        }

        boolean alert(int epoch, byte[] content) {
            if (content.length != 1) {
                return false;
            }
            if (epoch != 0 || secrets[0] == null) {
                if (content[0] == 0) {
                    heardClose = true;
                } else {
                    if (alert == NONE) {
                        alert = content[0] & 255;
                    }
                    die();
                }
            }
            return true;
        }

        boolean ack(int epoch, byte[] content) {
            if (content.length % 3 != 0) {
                return false;
            }
            for (int i = 0; flight != null && i < content.length; i += 3) {
                for (Sent m : flight) {
                    for (int[] r : m.records) {
                        if ((content[i] & 255) <= epoch && r[0] == (content[i] & 255)
                                && r[1] == Octets.u2At(content, i + 1)) {
                            Arrays.fill(m.acked, r[2], r[3], true);
                        }
                    }
                }
            }
            if (flight != null && notAcked() == 0) {
                flight = null;
            }
            return true;
        }

        boolean fits(int kind, int epoch, int length) {
            switch (kind) {
                case 1:
                    return me == 1 && epoch == 0 && (length == 61 || length == 77);
                case 2:
                    return me == 0 && epoch == 0 && length == 20;
                case 6:
                    return me == 0 && epoch == 0 && length == 16;
                case 8:
                    return me == 0 && epoch == 2 && length >= 2 && length <= 152;
                default:
                    return kind == 20 && epoch == 2 && length == 32;
            }
        }

        boolean fragment(int epoch, int recordNumber, byte[] c) {
            if (c.length < 8 || c.length != 8 + Octets.u2At(c, 6)) {
                return false;
            }
            int kind = c[0] & 255;
            int length = Octets.u2At(c, 1);
            int number = c[3] & 255;
            int from = Octets.u2At(c, 4);
            byte[] octets = Octets.part(c, 8, c.length);
            if (octets.length == 0 || from + octets.length > length || !fits(kind, epoch, length)) {
                return false;
            }
            if (kind == 1 && (octets.length != length || number > 1)) {
                return false;
            }
            boolean near = state == 1 && number >= next && number <= next + 4;
            Partial p = near ? kept.get(number) : null;
            if (p != null && (p.kind != kind || p.body.length != length)) {
                return false;
            }
            if (state == 0) {
                if (me == 1) {
                    serve(number, octets);
                }
                return true;
            }
            list.addLast(new int[] {epoch, recordNumber});
            if (list.size() > 8) {
                list.removeFirst();
            }
            listedAt = pair.now;
            if (number < next) {
                repeated(kind);
            } else if (near) {
                keep(number, kind, length, from, octets);
            }
            return true;
        }

        void repeated(int kind) {
            if (me == 1 && state >= 2) {
                acks();
                return;
            }
            boolean settled = me == 1 ? kind == 1 : state >= 2;
            if (settled && flight != null && pair.now > sentAt && flightAgain < 8) {
                sendAgain();
            }
        }

        void keep(int number, int kind, int length, int from, byte[] octets) {
            Partial p = kept.computeIfAbsent(number, n -> new Partial());
            if (p.body == null) {
                p.kind = kind;
                p.body = new byte[length];
            }
            for (int i = 0; i < octets.length; i++) {
                p.body[from + i] = octets[i];
                p.came.add(from + i);
            }
            while (state == 1 && kept.containsKey(next) && kept.get(next).came.size() == kept.get(next).body.length) {
                Partial whole = kept.remove(next);
                next++;
                take(whole.kind, whole.body);
            }
        }
    }
}
