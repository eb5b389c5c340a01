import java.util.Random;

/**
 * No call throws, for any arguments in any state (rule 7 of LANGUAGE.md), not even after the 512th
 * call, from where on answers are free: long runs of calls, the same each time, with numbers at
 * and beyond all edges. An exception ends the test with an exit code that is not 0.
 */
public final class NeverThrows {
    private static final int CALLS = 20_000;
    private static final int[] SIZES = {Integer.MIN_VALUE, -1, 0, 1, 2, 3, 64, 65, 256, 257, Integer.MAX_VALUE};
    private static final long[] AMOUNTS = {Long.MIN_VALUE, -1, 0, 1, 2, 99, 100, 1L << 31, 1L << 32, 1L << 40,
        999_999_999_999_999L, 1_000_000_000_000_000L, Long.MAX_VALUE};

    private final Random random;
    private final PositionDesk desk;

    private NeverThrows(long seed, int participants, int assets) {
        random = new Random(seed);
        desk = new PositionDesk(participants, assets);
    }

    private int number() {
        return switch (random.nextInt(8)) {
            case 0 -> SIZES[random.nextInt(SIZES.length)];
            case 1 -> random.nextInt();
            case 2 -> random.nextInt(300);
            default -> random.nextInt(4);
        };
    }

    private int position() {
        return random.nextBoolean() ? number() : random.nextInt(256 * (64 + 256) + 2);
    }

    private long amount() {
        return random.nextInt(3) == 0 ? random.nextInt(1_000) : AMOUNTS[random.nextInt(AMOUNTS.length)];
    }

    private int haircut() {
        return random.nextInt(8) == 0 ? number() : random.nextInt(101);
    }

    private void change() {
        switch (random.nextInt(13)) {
            case 0 -> desk.currency();
            case 1 -> desk.security(amount(), haircut());
            case 2 -> desk.price(number(), amount(), haircut());
            case 3, 4 -> desk.give(number(), number(), amount());
            case 5 -> desk.back(number(), number(), amount());
            case 6 -> desk.pledge(number(), number(), amount());
            case 7 -> desk.free(number(), number(), amount());
            case 8 -> desk.limit(number(), number(), amount());
            case 9 -> desk.open(number(), number());
            case 10, 11 -> desk.leg(number(), number(), number(), amount());
            default -> {
                if (random.nextInt(200) == 0) {
                    desk.day();
                }
            }
        }
    }

    private void look() {
        switch (random.nextInt(8)) {
            case 0 -> desk.holds();
            case 1 -> desk.post();
            case 2 -> desk.drop();
            case 3 -> desk.net(position());
            case 4 -> desk.value(position());
            case 5 -> desk.floor(position());
            case 6 -> desk.isThere(position());
            default -> desk.credit(number());
        }
    }

    private void run() {
        for (int i = 0; i < CALLS; i++) {
            if (random.nextInt(3) > 0) {
                change();
            } else {
                look();
            }
        }
    }

    /** More pairs pay one another in one day than 512 calls could ever let them. */
    private static void allPairsPay() {
        PositionDesk x = new PositionDesk(256, 1);
        x.currency();
        for (int p = 1; p < 256; p++) {
            for (int q = 1; q < 256; q++) {
                x.leg(p, q, 0, 1);
                x.leg(q, p, 0, 2);
                x.give(p, 0, 2);
                x.give(q, 0, 2);
                x.post();
                x.limit(p, q, 9);
            }
        }
    }

    public static void main(String[] args) {
        for (int participants : SIZES) {
            for (int assets : SIZES) {
                new NeverThrows(31L * participants + assets, participants, assets).run();
            }
        }
        allPairsPay();
        System.out.println("no call threw");
    }
}
