/**
 * Positions of participants in currencies and securities, with floors that credit against pledges
 * lowers, limits towards others, and legs that are done all together or not at all.
 */
public final class PositionDesk {
    private static final int BANK = 0;
    private static final int NONE = -1;

    private static final int DONE = 0;
    private static final int CANT_BE = 8;
    private static final int BELOW_FLOOR = 9;
    private static final int TOO_MUCH = 10;
    private static final int NO_PLACE = 12;

    private static final int MOST_PARTICIPANTS = 256;
    private static final int USUAL_PARTICIPANTS = 8;
    private static final int MOST_ASSETS = 64;
    private static final int USUAL_ASSETS = 6;
    private static final int MOST_LIMITS = 40;
    private static final int MOST_LEGS = 4;

    /** An object is used for 512 calls, and a payment needs a call of leg: no day has more pairs. */
    private static final int MOST_PAYING_PAIRS = 512;

    private static final long MOST_AMOUNT = 999_999_999_999_999L;
    private static final long MOST_CREDIT = 4_000_000_000_000_000_000L;
    private static final long LEAST_OF_BANK = -4_000_000_000_000_000_000L;
    private static final long NO_FLOOR = -9_223_372_036_854_775_808L;

    private final int participants;
    private final int positions;
    private final Asset[] assets;
    private int made;
    private int money;

    private final long[] credits;
    private long allCredits;

    private final PairAmounts limits;
    private final PairAmounts paid;
    private final Legs legs;

    public PositionDesk(int participants, int assets) {
        boolean participantsFit = participants >= 2 && participants <= MOST_PARTICIPANTS;
        boolean assetsFit = assets >= 1 && assets <= MOST_ASSETS;
        this.participants = participantsFit ? participants : USUAL_PARTICIPANTS;
        this.assets = new Asset[assetsFit ? assets : USUAL_ASSETS];
        this.positions = this.participants * this.assets.length;
        this.made = 0;
        this.money = NONE;
        this.credits = new long[this.participants];
        this.allCredits = 0;
        this.limits = new PairAmounts(MOST_LIMITS);
        this.paid = new PairAmounts(MOST_PAYING_PAIRS);
        this.legs = new Legs();
    }

    // ---- assets

    public int currency() {
        int number = addAsset(false, 0);
        if (money == NONE) {
            money = number;
        }
        return number;
    }

    public int security(long price, int haircut) {
        if (!isPriced(price, haircut)) {
            return NONE;
        }
        return addAsset(true, rateOf(price, haircut));
    }

    public int price(int a, long price, int haircut) {
        Asset security = securityAt(a);
        if (security == null || !isPriced(price, haircut)) {
            return CANT_BE;
        }
        long rate = rateOf(price, haircut);
        int fault = faultOfRate(security, rate);
        if (fault == DONE) {
            setRate(security, rate);
        }
        return fault;
    }

    // ---- the bank, pledges

    public int give(int p, int a, long v) {
        Asset asset = assetAt(a);
        if (!isClient(p) || asset == null || !isAmount(v)) {
            return CANT_BE;
        }
        if (asset.held[BANK] - v < LEAST_OF_BANK) {
            return TOO_MUCH;
        }
        asset.move(BANK, p, v);
        return DONE;
    }

    public int back(int p, int a, long v) {
        Asset asset = assetAt(a);
        if (!isClient(p) || asset == null || !isAmount(v)) {
            return CANT_BE;
        }
        if (asset.held[p] - v < lowest(asset, p)) {
            return BELOW_FLOOR;
        }
        asset.move(p, BANK, v);
        return DONE;
    }

    public int pledge(int p, int a, long v) {
        Asset security = securityAt(a);
        if (!isClient(p) || security == null || !isAmount(v)) {
            return CANT_BE;
        }
        return setPledged(security, p, security.pledged[p] + v);
    }

    public int free(int p, int a, long v) {
        Asset security = securityAt(a);
        if (!isClient(p) || security == null || !isAmount(v) || v > security.pledged[p]) {
            return CANT_BE;
        }
        return setPledged(security, p, security.pledged[p] - v);
    }

    // ---- limits

    public int limit(int p, int q, long v) {
        if (!areTwoClients(p, q) || v < 0 || v > MOST_AMOUNT) {
            return CANT_BE;
        }
        if (v - paidFrom(p, q) < 0) {
            return BELOW_FLOOR;
        }
        return limits.put(pairOf(p, q), v) ? DONE : NO_PLACE;
    }

    public int open(int p, int q) {
        if (!areTwoClients(p, q)) {
            return CANT_BE;
        }
        return limits.remove(pairOf(p, q)) ? DONE : CANT_BE;
    }

    public void day() {
        paid.clear();
    }

    // ---- legs

    public int leg(int from, int to, int a, long v) {
        if (!areTwoClients(from, to) || assetAt(a) == null || !isAmount(v)) {
            return CANT_BE;
        }
        return legs.add(from, to, a, v) ? DONE : NO_PLACE;
    }

    public boolean holds() {
        // Only what some leg takes from can have a net below 0: no other position or room need be looked at.
        for (int i = 0; i < legs.count; i++) {
            if (breaksFloor(legs.from[i], legs.asset[i]) || breaksRoom(i)) {
                return false;
            }
        }
        return true;
    }

    public boolean post() {
        if (!holds()) {
            return false;
        }
        for (int i = 0; i < legs.count; i++) {
            doLeg(i);
        }
        legs.count = 0;
        return true;
    }

    public int drop() {
        int dropped = legs.count;
        legs.count = 0;
        return dropped;
    }

    // ---- what is told of positions and rooms

    public long net(int position) {
        if (!isThere(position)) {
            return 0;
        }
        if (isPosition(position)) {
            return legs.netOf(ownerOf(position), assetOf(position));
        }
        int pair = position - positions;
        return -legs.paidFrom(pair / participants, pair % participants, money);
    }

    public long value(int position) {
        if (!isPosition(position)) {
            return isThere(position) ? roomOf(position - positions) : 0;
        }
        Asset asset = assetAt(assetOf(position));
        return asset == null ? 0 : asset.held[ownerOf(position)];
    }

    public long floor(int position) {
        if (!isPosition(position)) {
            return 0;
        }
        Asset asset = assetAt(assetOf(position));
        return asset == null ? 0 : lowest(asset, ownerOf(position));
    }

    public boolean isThere(int position) {
        if (isPosition(position)) {
            return assetAt(assetOf(position)) != null;
        }
        return position >= positions && limits.has(position - positions);
    }

    public long credit(int p) {
        return isClient(p) ? credits[p] : 0;
    }

    // ---- what can be told

    private boolean isClient(int p) {
        return p > BANK && p < participants;
    }

    private boolean areTwoClients(int p, int q) {
        return isClient(p) && isClient(q) && p != q;
    }

    private static boolean isAmount(long v) {
        return v >= 1 && v <= MOST_AMOUNT;
    }

    private static boolean isPriced(long price, int haircut) {
        return price >= 0 && price <= MOST_AMOUNT && haircut >= 0 && haircut <= 99;
    }

    private boolean isPosition(int position) {
        return position >= 0 && position < positions;
    }

    private int ownerOf(int position) {
        return position / assets.length;
    }

    private int assetOf(int position) {
        return position % assets.length;
    }

    private int pairOf(int p, int q) {
        return p * participants + q;
    }

    // ---- assets inside

    /** The asset with this number, null if none was made. */
    private Asset assetAt(int a) {
        return a >= 0 && a < made ? assets[a] : null;
    }

    private Asset securityAt(int a) {
        Asset asset = assetAt(a);
        return asset != null && asset.isSecurity ? asset : null;
    }

    private int addAsset(boolean isSecurity, long rate) {
        if (made >= assets.length) {
            return NONE;
        }
        int number = made;
        assets[number] = new Asset(isSecurity, rate, participants);
        made = number + 1;
        return number;
    }

    /** The credit for a hundred pieces: of price and haircut no more than this is ever needed. */
    private static long rateOf(long price, int haircut) {
        return price * (100 - haircut);
    }

    private long lowest(Asset asset, int p) {
        if (p == BANK) {
            return NO_FLOOR;
        }
        if (asset.isSecurity) {
            return asset.pledged[p];
        }
        return asset == assetAt(money) ? -credits[p] : 0;
    }

    // ---- credit inside

    /** The credit of p with so much pledged at such a rate; MOST_CREDIT + 1 stands for all that is more. */
    private long creditWith(Asset security, int p, long pledged, long rate) {
        long others = credits[p] - worth(security.pledged[p], security.rate);
        return Math.min(others + worth(pledged, rate), MOST_CREDIT + 1);
    }

    /**
     * pledged * rate / 100, rounded down, and MOST_CREDIT + 1 if it is more than MOST_CREDIT. The
     * product itself may not fit a long, so both factors are taken apart by 100 before.
     */
    private static long worth(long pledged, long rate) {
        long whole = rate / 100;
        long rest = rate % 100;
        if (whole > 0 && pledged > MOST_CREDIT / whole) {
            return MOST_CREDIT + 1;
        }
        long sum = pledged * whole + pledged / 100 * rest + pledged % 100 * rest / 100;
        return Math.min(sum, MOST_CREDIT + 1);
    }

    private boolean isOverdrawn(int p, long credit) {
        Asset cash = assetAt(money);
        return cash != null && cash.held[p] < -credit;
    }

    private int setPledged(Asset security, int p, long pledged) {
        long credit = creditWith(security, p, pledged, security.rate);
        if (security.held[p] < pledged || isOverdrawn(p, credit)) {
            return BELOW_FLOOR;
        }
        long all = allCredits - credits[p] + credit;
        if (all > MOST_CREDIT) {
            return TOO_MUCH;
        }
        security.pledged[p] = pledged;
        credits[p] = credit;
        allCredits = all;
        return DONE;
    }

    private int faultOfRate(Asset security, long rate) {
        long all = 0;
        for (int p = BANK + 1; p < participants; p++) {
            long credit = creditWith(security, p, security.pledged[p], rate);
            if (isOverdrawn(p, credit)) {
                return BELOW_FLOOR;
            }
            all = Math.min(all + credit, MOST_CREDIT + 1);
        }
        return all > MOST_CREDIT ? TOO_MUCH : DONE;
    }

    private void setRate(Asset security, long rate) {
        long all = 0;
        for (int p = BANK + 1; p < participants; p++) {
            credits[p] = creditWith(security, p, security.pledged[p], rate);
            all += credits[p];
        }
        security.rate = rate;
        allCredits = all;
    }

    // ---- rooms and legs inside

    /** What p paid q this day, less what q paid p: kept once for both, under the lower number first. */
    private long paidFrom(int p, int q) {
        return p < q ? paid.amountOf(pairOf(p, q)) : -paid.amountOf(pairOf(q, p));
    }

    private void addPaid(int p, int q, long v) {
        int pair = p < q ? pairOf(p, q) : pairOf(q, p);
        paid.put(pair, paid.amountOf(pair) + (p < q ? v : -v));
    }

    /** The value of the room of a pair that has a limit. */
    private long roomOf(int pair) {
        return limits.amountOf(pair) - paidFrom(pair / participants, pair % participants);
    }

    private boolean breaksFloor(int p, int a) {
        Asset asset = assetAt(a);
        long net = legs.netOf(p, a);
        return asset != null && net < 0 && asset.held[p] + net < lowest(asset, p);
    }

    private boolean breaksRoom(int i) {
        int pair = pairOf(legs.from[i], legs.to[i]);
        long paying = legs.paidFrom(legs.from[i], legs.to[i], money);
        return limits.has(pair) && paying > 0 && roomOf(pair) - paying < 0;
    }

    private void doLeg(int i) {
        Asset asset = assetAt(legs.asset[i]);
        if (asset == null) {
            return;
        }
        asset.move(legs.from[i], legs.to[i], legs.amount[i]);
        if (legs.asset[i] == money) {
            addPaid(legs.from[i], legs.to[i], legs.amount[i]);
        }
    }

    /** An asset with what each participant holds and has pledged of it. */
    private static final class Asset {
        final boolean isSecurity;
        final long[] held;
        final long[] pledged;
        long rate;

        Asset(boolean isSecurity, long rate, int participants) {
            this.isSecurity = isSecurity;
            this.rate = rate;
            this.held = new long[participants];
            this.pledged = new long[isSecurity ? participants : 0];
        }

        void move(int from, int to, long v) {
            held[from] -= v;
            held[to] += v;
        }
    }

    /** Amounts of pairs of participants. So few pairs are in use that a square of them all would be waste. */
    private static final class PairAmounts {
        private final int[] pairs;
        private final long[] amounts;
        private int count;

        PairAmounts(int places) {
            this.pairs = new int[places];
            this.amounts = new long[places];
            this.count = 0;
        }

        private int indexOf(int pair) {
            for (int i = 0; i < count; i++) {
                if (pairs[i] == pair) {
                    return i;
                }
            }
            return NONE;
        }

        boolean has(int pair) {
            return indexOf(pair) != NONE;
        }

        long amountOf(int pair) {
            int i = indexOf(pair);
            return i == NONE ? 0 : amounts[i];
        }

        /** False, and nothing is changed, if the pair is new and there is no place for it. */
        boolean put(int pair, long amount) {
            int i = indexOf(pair);
            if (i == NONE) {
                if (count >= pairs.length) {
                    return false;
                }
                i = count;
                count++;
            }
            pairs[i] = pair;
            amounts[i] = amount;
            return true;
        }

        /** False if the pair was not there. */
        boolean remove(int pair) {
            int i = indexOf(pair);
            if (i == NONE) {
                return false;
            }
            count--;
            pairs[i] = pairs[count];
            amounts[i] = amounts[count];
            return true;
        }

        void clear() {
            count = 0;
        }
    }

    /** The legs that are put together, in rows that are used again. */
    private static final class Legs {
        final int[] from = new int[MOST_LEGS];
        final int[] to = new int[MOST_LEGS];
        final int[] asset = new int[MOST_LEGS];
        final long[] amount = new long[MOST_LEGS];
        int count = 0;

        /** False if there is no place for one more. */
        boolean add(int giver, int taker, int a, long v) {
            if (count >= MOST_LEGS) {
                return false;
            }
            from[count] = giver;
            to[count] = taker;
            asset[count] = a;
            amount[count] = v;
            count++;
            return true;
        }

        long netOf(int p, int a) {
            long sum = 0;
            for (int i = 0; i < count; i++) {
                if (asset[i] == a && from[i] == p) {
                    sum -= amount[i];
                }
                if (asset[i] == a && to[i] == p) {
                    sum += amount[i];
                }
            }
            return sum;
        }

        /** What p pays q in the money, less what q pays p. */
        long paidFrom(int p, int q, int money) {
            long sum = 0;
            for (int i = 0; i < count; i++) {
                if (asset[i] == money && from[i] == p && to[i] == q) {
                    sum += amount[i];
                }
                if (asset[i] == money && from[i] == q && to[i] == p) {
                    sum -= amount[i];
                }
            }
            return sum;
        }
    }
}
