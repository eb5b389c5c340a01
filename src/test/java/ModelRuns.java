import java.math.BigInteger;
import java.util.ArrayList;
import java.util.List;
import java.util.Map;
import java.util.Random;
import java.util.TreeMap;

/**
 * Runs of calls, the same each time, on a desk and on a slow model beside it. The model does each
 * change on a copy, looks at every floor and sum of the copy as the document words them, and keeps
 * the copy only if there is no fault.
 */
public final class ModelRuns {
    private static final int RUNS = 3_000;
    private static final int MOST_CALLS = 512;
    private static final long MOST = 999_999_999_999_999L;
    private static final BigInteger TOP = BigInteger.valueOf(4_000_000_000_000_000_000L);

    private record Asset(boolean isSecurity, long price, int haircut) {}

    private record Pair(int p, int q) implements Comparable<Pair> {
        @Override
        public int compareTo(Pair other) {
            return p != other.p ? Integer.compare(p, other.p) : Integer.compare(q, other.q);
        }
    }

    private record Leg(int from, int to, int a, long v) {}

    private static final class State {
        final List<Asset> assets = new ArrayList<>();
        final Map<Pair, BigInteger> held = new TreeMap<>();
        final Map<Pair, BigInteger> pledged = new TreeMap<>();
        final Map<Pair, Long> limits = new TreeMap<>();
        final List<Leg> payments = new ArrayList<>();
        final List<Leg> legs = new ArrayList<>();

        State copy() {
            State s = new State();
            s.assets.addAll(assets);
            s.held.putAll(held);
            s.pledged.putAll(pledged);
            s.limits.putAll(limits);
            s.payments.addAll(payments);
            s.legs.addAll(legs);
            return s;
        }

        int money() {
            for (int a = 0; a < assets.size(); a++) {
                if (!assets.get(a).isSecurity()) {
                    return a;
                }
            }
            return -1;
        }

        void move(int from, int to, int a, long v) {
            held.merge(new Pair(from, a), BigInteger.valueOf(-v), BigInteger::add);
            held.merge(new Pair(to, a), BigInteger.valueOf(v), BigInteger::add);
        }

        BigInteger heldBy(int p, int a) {
            return held.getOrDefault(new Pair(p, a), BigInteger.ZERO);
        }

        BigInteger pledgedBy(int p, int a) {
            return pledged.getOrDefault(new Pair(p, a), BigInteger.ZERO);
        }

        BigInteger credit(int p) {
            BigInteger sum = BigInteger.ZERO;
            for (int a = 0; a < assets.size(); a++) {
                Asset asset = assets.get(a);
                BigInteger product = pledgedBy(p, a).multiply(BigInteger.valueOf(asset.price()))
                        .multiply(BigInteger.valueOf(100 - asset.haircut()));
                sum = sum.add(product.divide(BigInteger.valueOf(100)));
            }
            return sum;
        }

        BigInteger floor(int p, int a) {
            if (assets.get(a).isSecurity()) {
                return pledgedBy(p, a);
            }
            return a == money() ? credit(p).negate() : BigInteger.ZERO;
        }

        BigInteger room(Pair pair) {
            BigInteger value = BigInteger.valueOf(limits.get(pair));
            for (Leg paid : payments) {
                value = value.add(BigInteger.valueOf(effectOnRoom(paid, pair)));
            }
            return value;
        }

        static long effectOnRoom(Leg paid, Pair pair) {
            if (paid.from() == pair.p() && paid.to() == pair.q()) {
                return -paid.v();
            }
            return paid.from() == pair.q() && paid.to() == pair.p() ? paid.v() : 0;
        }
    }

    private static final class Model {
        final int participants;
        final int places;
        State now = new State();

        Model(int participants, int assets) {
            this.participants = participants >= 2 && participants <= 256 ? participants : 8;
            this.places = assets >= 1 && assets <= 64 ? assets : 6;
        }

        boolean client(int p) {
            return 1 <= p && p < participants;
        }

        boolean asset(int a) {
            return 0 <= a && a < now.assets.size();
        }

        boolean security(int a) {
            return asset(a) && now.assets.get(a).isSecurity();
        }

        static boolean amount(long v) {
            return 1 <= v && v <= MOST;
        }

        static boolean priced(long price, int haircut) {
            return 0 <= price && price <= MOST && 0 <= haircut && haircut <= 99;
        }

        /** Keeps the next state unless it has a fault. */
        int keep(State next) {
            for (int p = 1; p < participants; p++) {
                for (int a = 0; a < next.assets.size(); a++) {
                    if (next.heldBy(p, a).compareTo(next.floor(p, a)) < 0) {
                        return 9;
                    }
                }
            }
            for (Pair pair : next.limits.keySet()) {
                if (next.room(pair).signum() < 0) {
                    return 9;
                }
            }
            BigInteger credits = BigInteger.ZERO;
            for (int p = 1; p < participants; p++) {
                credits = credits.add(next.credit(p));
            }
            for (int a = 0; a < next.assets.size(); a++) {
                if (next.heldBy(0, a).compareTo(TOP.negate()) < 0) {
                    return 10;
                }
            }
            if (credits.compareTo(TOP) > 0) {
                return 10;
            }
            if (next.limits.size() > 40 || next.legs.size() > 4) {
                return 12;
            }
            now = next;
            return 0;
        }

        int addAsset(Asset asset) {
            if (now.assets.size() == places) {
                return -1;
            }
            now.assets.add(asset);
            return now.assets.size() - 1;
        }

        int security(long price, int haircut) {
            return priced(price, haircut) ? addAsset(new Asset(true, price, haircut)) : -1;
        }

        int price(int a, long price, int haircut) {
            if (!security(a) || !priced(price, haircut)) {
                return 8;
            }
            State next = now.copy();
            next.assets.set(a, new Asset(true, price, haircut));
            return keep(next);
        }

        int move(int p, int a, long v, boolean give) {
            if (!client(p) || !asset(a) || !amount(v)) {
                return 8;
            }
            State next = now.copy();
            next.move(give ? 0 : p, give ? p : 0, a, v);
            return keep(next);
        }

        int pledge(int p, int a, long v, boolean more) {
            if (!client(p) || !security(a) || !amount(v)) {
                return 8;
            }
            if (!more && BigInteger.valueOf(v).compareTo(now.pledgedBy(p, a)) > 0) {
                return 8;
            }
            State next = now.copy();
            next.pledged.merge(new Pair(p, a), BigInteger.valueOf(more ? v : -v), BigInteger::add);
            return keep(next);
        }

        int limit(int p, int q, long v) {
            if (!client(p) || !client(q) || p == q || v < 0 || v > MOST) {
                return 8;
            }
            State next = now.copy();
            next.limits.put(new Pair(p, q), v);
            return keep(next);
        }

        int open(int p, int q) {
            return now.limits.remove(new Pair(p, q)) == null ? 8 : 0;
        }

        int leg(int from, int to, int a, long v) {
            if (!client(from) || !client(to) || from == to || !asset(a) || !amount(v)) {
                return 8;
            }
            State next = now.copy();
            next.legs.add(new Leg(from, to, a, v));
            return keep(next);
        }

        boolean holds() {
            for (int n = 0; n < participants * (places + participants); n++) {
                long net = net(n);
                if (net < 0 && value(n) + net < floor(n)) {
                    return false;
                }
            }
            return true;
        }

        boolean post() {
            if (!holds()) {
                return false;
            }
            for (Leg leg : now.legs) {
                now.move(leg.from(), leg.to(), leg.a(), leg.v());
                if (leg.a() == now.money()) {
                    now.payments.add(leg);
                }
            }
            now.legs.clear();
            return true;
        }

        int drop() {
            int count = now.legs.size();
            now.legs.clear();
            return count;
        }

        Pair pairOf(int n) {
            int k = n - participants * places;
            return new Pair(k / participants, k % participants);
        }

        boolean isPosition(int n) {
            return 0 <= n && n < participants * places;
        }

        boolean isThere(int n) {
            if (isPosition(n)) {
                return asset(n % places);
            }
            return n >= 0 && now.limits.containsKey(pairOf(n));
        }

        long net(int n) {
            long sum = 0;
            if (!isThere(n)) {
                return 0;
            }
            for (Leg leg : now.legs) {
                if (!isPosition(n)) {
                    sum += leg.a() == now.money() ? State.effectOnRoom(leg, pairOf(n)) : 0;
                } else if (leg.a() == n % places) {
                    sum += leg.to() == n / places ? leg.v() : 0;
                    sum -= leg.from() == n / places ? leg.v() : 0;
                }
            }
            return sum;
        }

        long value(int n) {
            if (!isThere(n)) {
                return 0;
            }
            BigInteger value = isPosition(n) ? now.heldBy(n / places, n % places) : now.room(pairOf(n));
            return value.longValueExact();
        }

        long floor(int n) {
            if (!isThere(n) || !isPosition(n)) {
                return 0;
            }
            return n < places ? Long.MIN_VALUE : now.floor(n / places, n % places).longValueExact();
        }

        long credit(int p) {
            return client(p) ? now.credit(p).longValueExact() : 0;
        }
    }

    private final Random random;
    private final boolean great;
    private final Model model;
    private final PositionDesk desk;
    private final StringBuilder told = new StringBuilder();
    private int calls = 0;
    private boolean right = true;

    private ModelRuns(long seed) {
        random = new Random(seed);
        great = random.nextBoolean();
        int participants = random.nextInt(8) == 0 ? random.nextInt(14) - 2 : 3 + random.nextInt(5);
        int assets = random.nextInt(8) == 0 ? random.nextInt(8) - 1 : 2 + random.nextInt(3);
        model = new Model(participants, assets);
        desk = new PositionDesk(participants, assets);
        told.append("new PositionDesk(").append(participants).append(", ").append(assets).append(")\n");
    }

    private void due(String call, long got, long want) {
        calls++;
        told.append(call).append(": ").append(got).append('\n');
        if (got != want) {
            told.append("  due is ").append(want).append('\n');
            right = false;
        }
    }

    private void due(String call, boolean got, boolean want) {
        due(call, got ? 1 : 0, want ? 1 : 0);
    }

    private int participant() {
        if (random.nextInt(25) == 0) {
            int[] odd = {0, -1, model.participants, Integer.MIN_VALUE, Integer.MAX_VALUE};
            return odd[random.nextInt(odd.length)];
        }
        return 1 + random.nextInt(model.participants - 1);
    }

    private int asset() {
        if (random.nextInt(25) == 0) {
            int[] odd = {-1, model.now.assets.size(), model.places, Integer.MIN_VALUE, Integer.MAX_VALUE};
            return odd[random.nextInt(odd.length)];
        }
        return random.nextInt(Math.max(1, model.now.assets.size()));
    }

    private int securityNumber() {
        int a = asset();
        for (int tries = 0; tries < 4 && !model.security(a); tries++) {
            a = asset();
        }
        return a;
    }

    private long odd() {
        long[] odd = {0, -1, MOST, MOST + 1, Long.MIN_VALUE, Long.MAX_VALUE};
        return odd[random.nextInt(odd.length)];
    }

    private long amount() {
        if (random.nextInt(25) == 0) {
            return odd();
        }
        if (great && random.nextInt(3) > 0) {
            return 1 + (long) (random.nextDouble() * MOST);
        }
        return 1 + random.nextInt(random.nextBoolean() ? 10 : 1000);
    }

    /** An amount at or near one of the edges of a position, so that faults are met by one and missed by one. */
    private long amountNear(int p, int a) {
        if (random.nextBoolean() || !model.client(p) || !model.asset(a)) {
            return amount();
        }
        int n = p * model.places + a;
        return Math.min(model.value(n) - model.floor(n), MOST) + random.nextInt(3) - 1;
    }

    private long priceNumber() {
        if (random.nextInt(25) == 0) {
            return odd();
        }
        return great && random.nextBoolean() ? (long) (random.nextDouble() * 10_000_000) : random.nextInt(500);
    }

    private int haircut() {
        return random.nextInt(25) == 0 ? random.nextInt(5) + 98 - 101 * random.nextInt(2) : random.nextInt(100);
    }

    private int position() {
        int all = model.participants * (model.places + model.participants);
        if (random.nextInt(20) == 0) {
            int[] odd = {-1, -model.places, all, all + 1, Integer.MIN_VALUE, Integer.MAX_VALUE};
            return odd[random.nextInt(odd.length)];
        }
        return random.nextInt(all);
    }

    private void makeAsset() {
        if (random.nextBoolean()) {
            due("currency()", desk.currency(), model.addAsset(new Asset(false, 0, 0)));
            return;
        }
        long price = priceNumber();
        int haircut = haircut();
        due("security(" + price + ", " + haircut + ")", desk.security(price, haircut), model.security(price, haircut));
    }

    private void reprice() {
        int a = securityNumber();
        long price = priceNumber();
        int haircut = haircut();
        due("price(" + a + ", " + price + ", " + haircut + ")", desk.price(a, price, haircut), model.price(a, price, haircut));
    }

    private void moveOrPledge(int kind) {
        int p = participant();
        int a = kind < 2 ? asset() : securityNumber();
        long v = kind == 0 ? amount() : amountNear(p, a);
        String rest = "(" + p + ", " + a + ", " + v + ")";
        switch (kind) {
            case 0 -> due("give" + rest, desk.give(p, a, v), model.move(p, a, v, true));
            case 1 -> due("back" + rest, desk.back(p, a, v), model.move(p, a, v, false));
            case 2 -> due("pledge" + rest, desk.pledge(p, a, v), model.pledge(p, a, v, true));
            default -> due("free" + rest, desk.free(p, a, v), model.pledge(p, a, v, false));
        }
    }

    private void setLimit() {
        int p = participant();
        int q = participant();
        long v = amount();
        Pair pair = new Pair(p, q);
        if (random.nextBoolean() && model.now.limits.containsKey(pair)) {
            v = model.now.limits.get(pair) - model.now.room(pair).longValueExact() + random.nextInt(3) - 1;
        }
        due("limit(" + p + ", " + q + ", " + v + ")", desk.limit(p, q, v), model.limit(p, q, v));
    }

    private void openLimit() {
        int p = participant();
        int q = participant();
        due("open(" + p + ", " + q + ")", desk.open(p, q), model.open(p, q));
    }

    private void addLeg() {
        int from = participant();
        int to = participant();
        int a = random.nextBoolean() ? model.now.money() : asset();
        Pair pair = new Pair(from, to);
        long v = amountNear(from, a);
        if (random.nextInt(3) == 0 && model.now.limits.containsKey(pair)) {
            v = model.now.room(pair).longValueExact() + random.nextInt(3) - 1;
        }
        due("leg(" + from + ", " + to + ", " + a + ", " + v + ")", desk.leg(from, to, a, v), model.leg(from, to, a, v));
    }

    private void newDay() {
        desk.day();
        model.now.payments.clear();
        calls++;
        told.append("day()\n");
    }

    private void change() {
        switch (random.nextInt(24)) {
            case 0 -> makeAsset();
            case 1, 2 -> reprice();
            case 3, 4, 5, 6 -> moveOrPledge(0);
            case 7 -> moveOrPledge(1);
            case 8, 9 -> moveOrPledge(2);
            case 10 -> moveOrPledge(3);
            case 11, 12, 13 -> setLimit();
            case 14 -> openLimit();
            case 15, 16, 17, 18, 19 -> addLeg();
            case 20, 21 -> due("post()", desk.post(), model.post());
            case 22 -> due("drop()", desk.drop(), model.drop());
            default -> {
                if (random.nextInt(3) == 0) {
                    newDay();
                }
            }
        }
    }

    private void look() {
        int n = position();
        switch (random.nextInt(6)) {
            case 0 -> due("holds()", desk.holds(), model.holds());
            case 1 -> due("net(" + n + ")", desk.net(n), model.net(n));
            case 2 -> due("value(" + n + ")", desk.value(n), model.value(n));
            case 3 -> due("floor(" + n + ")", desk.floor(n), model.floor(n));
            case 4 -> due("isThere(" + n + ")", desk.isThere(n), model.isThere(n));
            default -> {
                int p = participant();
                due("credit(" + p + ")", desk.credit(p), model.credit(p));
            }
        }
    }

    private void lookAtAll() {
        int all = model.participants * (model.places + model.participants);
        for (int n = 0; n < all && calls < MOST_CALLS && right; n++) {
            due("value(" + n + ")", desk.value(n), model.value(n));
        }
    }

    private boolean run() {
        makeAsset();
        makeAsset();
        while (right && calls < MOST_CALLS - 120) {
            change();
            if (right && random.nextInt(3) == 0) {
                look();
            }
        }
        lookAtAll();
        return right;
    }

    public static void main(String[] args) {
        int wrong = 0;
        for (int seed = 0; seed < RUNS && wrong < 3; seed++) {
            ModelRuns runs = new ModelRuns(seed);
            if (!runs.run()) {
                wrong++;
                System.out.println("run " + seed + ":\n" + runs.told);
            }
        }
        System.out.println(wrong == 0 ? "all answers are as due" : wrong + " runs are not as due");
        if (wrong != 0) {
            System.exit(1);
        }
    }
}
