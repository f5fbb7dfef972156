import java.util.ArrayList;
import java.util.List;

/** All that can be asked of a pair, one behind the other. */
final class Snapshot {
    private Snapshot() {
    }

    static int[] of(LossyPair x) {
        List<Integer> row = new ArrayList<>();
        for (int side = 0; side < 2; side++) {
            row.add(x.state(side));
            for (int what = 0; what < 13; what++) {
                row.add(x.told(side, what));
            }
            addNet(row, x, side);
            addSecrets(row, x, side);
            addWritings(row, x, side);
        }
        return row.stream().mapToInt(Integer::intValue).toArray();
    }

    private static void addNet(List<Integer> row, LossyPair x, int side) {
        row.add(x.net(side));
        for (int i = 0; i < x.net(side); i++) {
            row.add(x.size(side, i));
            for (int k = 0; k < x.size(side, i); k++) {
                row.add(x.octet(side, i, k));
            }
        }
    }

    private static void addSecrets(List<Integer> row, LossyPair x, int side) {
        for (int which = 0; which < 6; which++) {
            for (int i = 0; i < 32; i++) {
                row.add(x.secret(side, which, i));
            }
        }
    }

    private static void addWritings(List<Integer> row, LossyPair x, int side) {
        row.add(x.got(side));
        for (int k = Math.max(0, x.got(side) - 100); k < x.got(side); k++) {
            int many = x.gotOctet(side, k, LossyPair.NONE);
            row.add(many);
            for (int i = 0; i < many; i++) {
                row.add(x.gotOctet(side, k, i));
            }
        }
    }
}
