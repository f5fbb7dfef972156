/** The class and the model side by side: each call goes to both, and all that can be asked is compared. */
final class Twin {
    final LossyPair x;
    final Check check;
    String where;
    Model m = new Model(0, 200);

    /** The object may have been used before; then make is to be the first call. */
    Twin(LossyPair x, Check check, String where) {
        this.x = x;
        this.check = check;
        this.where = where;
    }

    void make(int wants, int mtu) {
        x.make(wants, mtu);
        m = new Model(wants, mtu);
    }

    void key(int side, long high, long low) {
        x.key(side, high, low);
        m.key(side, high, low);
    }

    void name(int side, long name, long seed) {
        x.name(side, name, seed);
        m.name(side, name, seed);
    }

    /** THE DRAFT gets these octets, which must be few enough. */
    void draft(byte[] octets) {
        for (byte octet : octets) {
            x.draft(1, octet);
        }
        m.draft = Octets.join(m.draft, octets);
    }

    void greet() {
        check.due(where + " greet()", x.greet(), m.draft.length);
        m.greet();
    }

    void begin() {
        check.due(where + " begin()", x.begin(), m.begin());
    }

    void write(int side) {
        check.due(where + " write(" + side + ")", x.write(side), m.write(side));
    }

    void close(int side) {
        x.close(side);
        m.close(side);
    }

    void tick() {
        check.due(where + " tick()", x.tick(), m.tick());
    }

    void deliver(int side, int i) {
        check.due(where + " deliver(" + side + ", " + i + ")", x.deliver(side, i), m.deliver(side, i));
    }

    void lose(int side, int i) {
        m.nets.get(side).remove(i);
        check.due(where + " lose(" + side + ", " + i + ")", x.lose(side, i), m.nets.get(side).size());
    }

    void twice(int side, int i) {
        check.due(where + " twice(" + side + ", " + i + ")", x.twice(side, i), m.twice(side, i));
    }

    void forge(int side, int i, int k, int mask) {
        byte[] datagram = m.nets.get(side).get(i);
        datagram[k] ^= (byte) mask;
        check.due(where + " forge(..)", x.forge(side, i, k, mask), datagram[k] & 255);
    }

    void inject(int side) {
        check.due(where + " inject(" + side + ")", x.inject(side), m.inject(side));
    }

    void inject(int side, byte[] datagram) {
        draft(datagram);
        inject(side);
    }

    void run(int times) {
        check.due(where + " run(" + times + ")", x.run(times), m.run(times));
    }

    int state(int side) {
        return m.sides[side].state;
    }

    int net(int side) {
        return m.nets.get(side).size();
    }

    void compare() {
        for (int side = 0; side < 2; side++) {
            Model.ModelSide s = m.sides[side];
            check.due(where + " state(" + side + ")", x.state(side), s.state);
            for (int what = 0; what < 13; what++) {
                check.due(where + " told(" + side + ", " + what + ")", x.told(side, what), s.count(what));
            }
            check.due(where + " got(" + side + ")", x.got(side), s.got.size());
            compareNet(side);
        }
    }

    private void compareNet(int side) {
        check.due(where + " net(" + side + ")", x.net(side), m.nets.get(side).size());
        for (int i = 0; i < m.nets.get(side).size() && i < x.net(side); i++) {
            byte[] datagram = m.nets.get(side).get(i);
            check.due(where + " size(" + side + ", " + i + ")", x.size(side, i), datagram.length);
            for (int k = 0; k < datagram.length && k < x.size(side, i); k++) {
                if (x.octet(side, i, k) != (datagram[k] & 255)) {
                    check.due(where + " octet(" + side + ", " + i + ", " + k + ")", x.octet(side, i, k), datagram[k] & 255);
                }
            }
        }
    }

    void compareSecretsAndWritings() {
        for (int side = 0; side < 2; side++) {
            Model.ModelSide s = m.sides[side];
            for (int which = 0; which < 6; which++) {
                for (int i = 0; i < 32; i++) {
                    int want = s.secrets[which] == null ? -1 : s.secrets[which][i] & 255;
                    check.due(where + " secret(" + side + ", " + which + ", " + i + ")", x.secret(side, which, i), want);
                }
            }
            for (int k = Math.max(0, s.got.size() - 100); k < s.got.size(); k++) {
                byte[] writing = s.got.get(k);
                check.due(where + " gotOctet(" + side + ", " + k + ", -1)", x.gotOctet(side, k, -1), writing.length);
                for (int i = 0; i < writing.length; i++) {
                    check.due(where + " gotOctet(" + side + ", " + k + ", " + i + ")", x.gotOctet(side, k, i), writing[i] & 255);
                }
            }
        }
    }
}
