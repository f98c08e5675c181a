import java.util.ArrayList;
import java.util.List;
import java.util.function.Supplier;

/**
 * Each "Throws" row of the document, with a test of its own: the calls that it refuses, by which
 * exception, that one which stands later in the list waits for it, and that a refused call changes
 * nothing that any other call could tell.
 */
public final class RefusalTest {
    private static final Class<? extends RuntimeException> INDEX = IndexOutOfBoundsException.class;
    private static final Class<? extends RuntimeException> ARGUMENT =
            IllegalArgumentException.class;
    private static final Class<? extends RuntimeException> STATE = IllegalStateException.class;

    // The scene busy has 6 dies and 16 coins; 5, 7 and 13 were melted, the die 1 is condemned.
    private static final int DIES = 6;
    private static final int COINS = 16;
    private static final int COLLECTORS = 8;
    private static final int[] MELTED = {5, 7, 13};

    /** So few of them leave room among 512 calls for the scene and the questions of a picture. */
    private static final int CALLS_BEFORE_A_PICTURE = 40;

    private interface Call {
        void on(DieRegister x);
    }

    private interface CallWith {
        void on(DieRegister x, int argument);
    }

    private RefusalTest() {
    }

    public static void main(String[] args) {
        dies();
        coins();
        proofsAndPrices();
        givingAndWanting();
        collectors();
        rings();
        callsThatAreNeverRefused();
        Check.end();
    }

    private static void dies() {
        addDieOfNoSuchType();
        addDieIfThereAre16();
        crackNoSuchDie();
        crackDefectOutOfRange();
        crackIfItHasThisOne();
        crackIfCondemned();
        strikeNoSuchDie();
        strikeCountOutOfRange();
        strikeIfCondemned();
        strikeMoreThan40();
        strikeMoreThan150();
        stagesNoSuchDie();
    }

    private static void coins() {
        castNoSuchCoin();
        castIfMelted();
        castIfThereAre16();
        meltNoSuchCoin();
        meltIfMelted();
        defectsNoSuchCoin();
        couldBeOfNoSuchCoin();
    }

    private static void proofsAndPrices() {
        proofNoSuchDie();
        condemnNoSuchDie();
        condemnIfCondemned();
        condemnWithoutAProof();
        isCondemnedNoSuchDie();
        isTrueNoSuchCoin();
        rarityNoSuchDie();
        rarityByCoinsNoSuchDie();
        priceNoSuchCoin();
    }

    private static void givingAndWanting() {
        giveNoSuchCoin();
        giveNoSuchCollector();
        giveIfNotInTheMint();
        giveIfTheCollectorOwns10();
        wantNoSuchCollector();
        wantNoSuchDie();
        wantIfCondemned();
        setFairnessNoSuchCollector();
        setFairnessPercentOutOfRange();
        markNoSuchCoin();
        markIfNoCollectorOwnsIt();
    }

    private static void collectors() {
        ownerNoSuchCoin();
        wantsNoSuchCollector();
        offersNoSuchCollector();
        worthNoSuchCollector();
        coinAtNoSuchCollector();
        coinAtIfTheyOwnNotSoMany();
        coinAtBelowZero();
    }

    private static void rings() {
        ringAtNoSuchPlace();
        swapIfThereIsNoRing();
        swapIfThereWere60();
        swapAtNoSuchSwap();
        swapAtNoSuchPlace();
    }

    // ---- what the tests share

    /** Each call by itself is refused, and all of them together change nothing. */
    private static void refuse(String row, Class<? extends RuntimeException> due,
            Supplier<DieRegister> scene, Call... calls) {
        for (int i = 0; i < calls.length; i++) {
            DieRegister x = scene.get();
            Call call = calls[i];
            Check.raises(row + ", call " + i, due, () -> call.on(x));
        }
        Picture.compare(row, Picture.of(scene), Picture.of(() -> afterAll(scene, calls)));
    }

    /** The same for a call with each of many arguments. */
    private static void refuseEach(String row, Class<? extends RuntimeException> due,
            Supplier<DieRegister> scene, int[] arguments, CallWith call) {
        Call[] calls = new Call[arguments.length];
        for (int i = 0; i < calls.length; i++) {
            int argument = arguments[i];
            calls[i] = x -> call.on(x, argument);
        }
        refuse(row, due, scene, calls);
    }

    private static DieRegister afterAll(Supplier<DieRegister> scene, Call[] calls) {
        DieRegister x = scene.get();
        for (int i = 0; i < calls.length && i < CALLS_BEFORE_A_PICTURE; i++) {
            try {
                calls[i].on(x);
            } catch (RuntimeException e) {
                // It is looked at in refuse.
                continue;
            }
        }
        return x;
    }

    /**
     * Numbers that are not from lowest to highest: the next ones, the ends of int, and those that
     * would be in between if some of their upper bits, or their sign, were lost.
     */
    private static int[] outside(int lowest, int highest) {
        List<Integer> found = new ArrayList<>();
        int[] first = {lowest - 1, highest + 1, Integer.MIN_VALUE, Integer.MAX_VALUE, -lowest,
            -highest, ~lowest, ~highest, Integer.MIN_VALUE + 1, Integer.MAX_VALUE - 1};
        for (int number : first) {
            addOutside(found, number, lowest, highest);
        }
        for (int bit = 31; bit >= 3; bit--) {
            addOutside(found, lowest + (1 << bit), lowest, highest);
            addOutside(found, lowest - (1 << bit), lowest, highest);
            addOutside(found, highest + (1 << bit), lowest, highest);
            addOutside(found, highest - (1 << bit), lowest, highest);
        }
        int[] numbers = new int[found.size()];
        for (int i = 0; i < numbers.length; i++) {
            numbers[i] = found.get(i);
        }
        return numbers;
    }

    private static void addOutside(List<Integer> found, int number, int lowest, int highest) {
        if ((number < lowest || number > highest) && !found.contains(number)) {
            found.add(number);
        }
    }

    /** A call with a die is refused whatever the number, so long as there is no such die. */
    private static void refuseNoSuchDie(String row, CallWith call) {
        refuseEach(row + ": no die yet", INDEX, DieRegister::new, outside(0, -1), call);
        refuseEach(row + ": no such die", INDEX, Scene::busy, outside(0, DIES - 1), call);
        refuseEach(row + ": beyond the 16th", INDEX, Scene::fullOfDies, outside(0, 15), call);
    }

    private static void refuseNoSuchCoin(String row, CallWith call) {
        refuseEach(row + ": no coin yet", INDEX, DieRegister::new, outside(0, -1), call);
        refuseEach(row + ": no such coin", INDEX, Scene::busy, outside(0, COINS - 1), call);
        refuseEach(row + ": beyond the 150th", INDEX, Scene::fullOfCoins, outside(0, 149), call);
    }

    private static void refuseNoSuchCollector(String row, CallWith call) {
        int[] nobody = outside(0, COLLECTORS - 1);
        refuseEach(row + ": no such collector", INDEX, Scene::busy, nobody, call);
    }

    // ---- addDie, crack, strike, stages

    private static void addDieOfNoSuchType() {
        int[] types = outside(0, 3);
        refuseEach("addDie: no such type", INDEX, DieRegister::new, types, DieRegister::addDie);
        refuseEach("addDie: no such type", INDEX, Scene::busy, types, DieRegister::addDie);
        refuseEach("addDie: no such type, first of all", INDEX, Scene::fullOfDies, types,
                DieRegister::addDie);
    }

    private static void addDieIfThereAre16() {
        int[] types = {0, 1, 2, 3};
        refuseEach("addDie: 16, cast", STATE, Scene::fullOfDies, types, DieRegister::addDie);
        refuseEach("addDie: 16, added", STATE, Scene::fullOfCoins, types, DieRegister::addDie);
    }

    private static void crackNoSuchDie() {
        refuseNoSuchDie("crack", (x, die) -> x.crack(die, 0));
        refuseNoSuchDie("crack, before a low defect", (x, die) -> x.crack(die, -1));
        refuseNoSuchDie("crack, before a high defect", (x, die) -> x.crack(die, 16));
    }

    private static void crackDefectOutOfRange() {
        int[] defects = outside(0, 15);
        refuseEach("crack: defect", ARGUMENT, Scene::busy, defects, (x, d) -> x.crack(5, d));
        refuseEach("crack: defect of a cast die", ARGUMENT, Scene::busy, defects,
                (x, d) -> x.crack(4, d));
        refuseEach("crack: defect, before condemned", ARGUMENT, Scene::busy, defects,
                (x, d) -> x.crack(1, d));
        refuseEach("crack: defect, before it has all", ARGUMENT, RefusalTest::allDefects, defects,
                (x, d) -> x.crack(0, d));
    }

    private static DieRegister allDefects() {
        DieRegister x = new DieRegister();
        x.addDie(0);
        for (int defect = 0; defect < 16; defect++) {
            x.crack(0, defect);
        }
        return x;
    }

    private static void crackIfItHasThisOne() {
        refuse("crack: has this one", STATE, Scene::busy,
                x -> x.crack(0, 3), x -> x.crack(0, 7), x -> x.crack(3, 2));
        refuse("crack: has this one from its cast", STATE, Scene::busy,
                x -> x.crack(4, 3), x -> x.crack(4, 7));
        int[] all = {0, 1, 2, 3, 4, 5, 6, 7, 8, 9, 10, 11, 12, 13, 14, 15};
        refuseEach("crack: has all", STATE, RefusalTest::allDefects, all, (x, d) -> x.crack(0, d));
    }

    private static void crackIfCondemned() {
        int[] all = {0, 1, 2, 3, 4, 5, 6, 7, 8, 9, 10, 11, 12, 13, 14, 15};
        refuseEach("crack: condemned", STATE, Scene::busy, all, (x, d) -> x.crack(1, d));
    }

    private static void strikeNoSuchDie() {
        refuseNoSuchDie("strike", (x, die) -> x.strike(die, 1));
        refuseNoSuchDie("strike, before a low count", (x, die) -> x.strike(die, 0));
        refuseNoSuchDie("strike, before a high count", (x, die) -> x.strike(die, 21));
        refuseEach("strike, before 150", INDEX, Scene::fullOfCoins, outside(0, 15),
                (x, die) -> x.strike(die, 20));
    }

    private static void strikeCountOutOfRange() {
        int[] counts = outside(1, 20);
        refuseEach("strike: count", ARGUMENT, Scene::busy, counts, (x, n) -> x.strike(5, n));
        refuseEach("strike: count, before condemned", ARGUMENT, Scene::busy, counts,
                (x, n) -> x.strike(1, n));
        refuseEach("strike: count, before 40", ARGUMENT, Scene::fullDie, counts,
                (x, n) -> x.strike(0, n));
        refuseEach("strike: count, before 150", ARGUMENT, Scene::fullOfCoins, counts,
                (x, n) -> x.strike(15, n));
    }

    private static void strikeIfCondemned() {
        refuse("strike: condemned", STATE, Scene::busy,
                x -> x.strike(1, 1), x -> x.strike(1, 2), x -> x.strike(1, 20));
        refuse("strike: condemned, all melted", STATE, RefusalTest::meltedAndCondemned,
                x -> x.strike(1, 1), x -> x.strike(1, 20));
    }

    private static DieRegister meltedAndCondemned() {
        DieRegister x = Scene.forged();
        x.melt(3);
        x.melt(4);
        x.condemn(1);
        return x;
    }

    private static void strikeMoreThan40() {
        refuse("strike: 40 and more", STATE, Scene::fullDie,
                x -> x.strike(0, 1), x -> x.strike(0, 2), x -> x.strike(0, 20));
        refuse("strike: 39 and 2", STATE, () -> struckByOne(39),
                x -> x.strike(0, 2), x -> x.strike(0, 20));
        refuse("strike: 21 and 20", STATE, () -> struckByOne(21), x -> x.strike(0, 20));
        Check.same("strike: 39 and 1", 39, struckByOne(39).strike(0, 1));
        Check.same("strike: 21 and 19", 21, struckByOne(21).strike(0, 19));
        Check.same("strike: 20 and 20", 20, struckByOne(20).strike(0, 20));
    }

    /** A die of two that has struck as many coins, from 20 to 40. */
    private static DieRegister struckByOne(int count) {
        DieRegister x = Scene.mint("00", 0, 0);
        x.strike(0, 20);
        for (int coin = 20; coin < count; coin++) {
            x.strike(0, 1);
        }
        return x;
    }

    private static void strikeMoreThan150() {
        refuse("strike: 150 and more", STATE, Scene::fullOfCoins,
                x -> x.strike(15, 1), x -> x.strike(15, 20), x -> x.strike(0, 1));
        refuse("strike: 149 and 2", STATE, () -> struckByMany(149),
                x -> x.strike(4, 2), x -> x.strike(4, 20));
        refuse("strike: 131 and 20", STATE, () -> struckByMany(131), x -> x.strike(4, 20));
        Check.same("strike: 149 and 1", 149, struckByMany(149).strike(4, 1));
        Check.same("strike: 131 and 19", 131, struckByMany(131).strike(4, 19));
        Check.same("strike: 130 and 20", 130, struckByMany(130).strike(4, 20));
    }

    /** Dies 0 to 4, which have struck as many coins, from 130 to 149, together; 4 none. */
    private static DieRegister struckByMany(int count) {
        DieRegister x = Scene.mint("00000", 3, 3, 3, 3, 3);
        for (int die = 0; die < 3; die++) {
            x.strike(die, 20);
            x.strike(die, 20);
        }
        for (int coin = 120; coin < count; coin++) {
            x.strike(3, 1);
        }
        return x;
    }

    private static void stagesNoSuchDie() {
        refuseNoSuchDie("stages", DieRegister::stages);
    }

    // ---- cast, melt, defects, couldBeOf

    private static void castNoSuchCoin() {
        refuseNoSuchCoin("cast", DieRegister::cast);
        refuseEach("cast: no such coin, before 16 dies", INDEX, Scene::fullOfDies, outside(0, 4),
                DieRegister::cast);
    }

    private static void castIfMelted() {
        refuseEach("cast: melted", STATE, Scene::busy, MELTED, DieRegister::cast);
    }

    private static void castIfThereAre16() {
        int[] coins = {0, 1, 2, 4};
        refuseEach("cast: 16 dies, cast", STATE, Scene::fullOfDies, coins, DieRegister::cast);
        refuse("cast: 16 dies and melted", STATE, Scene::fullOfDies, x -> x.cast(3));
        refuse("cast: 16 dies, added", STATE, Scene::fullOfCoins,
                x -> x.cast(1), x -> x.cast(148), x -> x.cast(149));
    }

    private static void meltNoSuchCoin() {
        refuseNoSuchCoin("melt", DieRegister::melt);
    }

    private static void meltIfMelted() {
        refuseEach("melt: melted", STATE, Scene::busy, MELTED, DieRegister::melt);
        refuse("melt: the first and the last one", STATE, Scene::fullOfCoins,
                x -> x.melt(0), x -> x.melt(149));
    }

    private static void defectsNoSuchCoin() {
        refuseNoSuchCoin("defects", DieRegister::defects);
    }

    private static void couldBeOfNoSuchCoin() {
        refuseNoSuchCoin("couldBeOf", DieRegister::couldBeOf);
    }

    // ---- proof, condemn, isCondemned, isTrue, rarity, rarityByCoins, price

    private static void proofNoSuchDie() {
        refuseNoSuchDie("proof", DieRegister::proof);
    }

    private static void condemnNoSuchDie() {
        refuseNoSuchDie("condemn", DieRegister::condemn);
    }

    private static void condemnIfCondemned() {
        refuse("condemn: condemned", STATE, Scene::busy, x -> x.condemn(1));
        refuse("condemn: condemned, all melted", STATE, RefusalTest::meltedAndCondemned,
                x -> x.condemn(1));
    }

    private static void condemnWithoutAProof() {
        refuse("condemn: a source, no defects, one, no coin", STATE, Scene::busy,
                x -> x.condemn(0), x -> x.condemn(2), x -> x.condemn(3), x -> x.condemn(5));
        refuse("condemn: cast, without a coin", STATE, Scene::fullOfDies,
                x -> x.condemn(2), x -> x.condemn(15));
        refuse("condemn: another type, more defects, fewer, the source, one defect", STATE,
                RefusalTest::nearlyProved,
                x -> x.condemn(1), x -> x.condemn(2), x -> x.condemn(3), x -> x.condemn(4),
                x -> x.condemn(5));
        Check.same("condemn: just these two defects", 1, nearlyProved().condemn(6));
    }

    /** The dies 1 to 5 are not proved, though each nearly is; the die 6 is cast from the die 4. */
    private static DieRegister nearlyProved() {
        DieRegister x = new DieRegister();
        int[] types = {0, 1, 0, 0, 0, 0, 0};
        int[] defects = {0b0011, 0b0011, 0b0111, 0b0001, 0b1100, 0b0001, 0b1100};
        for (int die = 0; die < types.length; die++) {
            x.addDie(types[die]);
            for (int defect = 0; defect < 4; defect++) {
                if ((defects[die] >> defect & 1) != 0) {
                    x.crack(die, defect);
                }
            }
            x.strike(die, 1);
        }
        return x;
    }

    private static void isCondemnedNoSuchDie() {
        refuseNoSuchDie("isCondemned", DieRegister::isCondemned);
    }

    private static void isTrueNoSuchCoin() {
        refuseNoSuchCoin("isTrue", DieRegister::isTrue);
    }

    private static void rarityNoSuchDie() {
        refuseNoSuchDie("rarity", DieRegister::rarity);
    }

    private static void rarityByCoinsNoSuchDie() {
        refuseNoSuchDie("rarityByCoins", DieRegister::rarityByCoins);
    }

    private static void priceNoSuchCoin() {
        refuseNoSuchCoin("price", DieRegister::price);
    }

    // ---- give, want, setFairness, mark

    private static void giveNoSuchCoin() {
        refuseNoSuchCoin("give", (x, coin) -> x.give(coin, 0));
        refuseNoSuchCoin("give to nobody", (x, coin) -> x.give(coin, 8));
        refuseEach("give: no such coin, before 10", INDEX, Scene::fullCollector, outside(0, 11),
                (x, coin) -> x.give(coin, 7));
    }

    private static void giveNoSuchCollector() {
        refuseNoSuchCollector("give", (x, collector) -> x.give(2, collector));
        refuseNoSuchCollector("give an owned one", (x, collector) -> x.give(1, collector));
        refuseNoSuchCollector("give a melted one", (x, collector) -> x.give(5, collector));
    }

    private static void giveIfNotInTheMint() {
        refuse("give: owned by the same one", STATE, Scene::busy,
                x -> x.give(0, 1), x -> x.give(1, 0), x -> x.give(4, 2));
        refuse("give: owned by another one", STATE, Scene::busy,
                x -> x.give(0, 0), x -> x.give(1, 7), x -> x.give(4, 0));
        refuseEach("give: melted", STATE, Scene::busy, MELTED, (x, coin) -> x.give(coin, 0));
    }

    private static void giveIfTheCollectorOwns10() {
        refuse("give: the collector owns 10", STATE, Scene::fullCollector, x -> x.give(11, 7));
        refuse("give: the collector owns 10, and the coin is owned", STATE, Scene::fullCollector,
                x -> x.give(9, 7), x -> x.give(10, 7));
        Check.same("give: to the other one", 2, Scene.fullCollector().give(11, 0));
    }

    private static void wantNoSuchCollector() {
        refuseNoSuchCollector("want", (x, collector) -> x.want(collector, 0, true));
        refuseNoSuchCollector("not want", (x, collector) -> x.want(collector, 0, false));
        refuseNoSuchCollector("want a condemned die", (x, c) -> x.want(c, 1, true));
        refuseNoSuchCollector("want no die", (x, collector) -> x.want(collector, DIES, true));
    }

    private static void wantNoSuchDie() {
        refuseNoSuchDie("want", (x, die) -> x.want(7, die, true));
        refuseNoSuchDie("not want", (x, die) -> x.want(7, die, false));
    }

    private static void wantIfCondemned() {
        int[] all = {0, 1, 2, 3, 4, 5, 6, 7};
        refuseEach("want: condemned", STATE, Scene::busy, all, (x, c) -> x.want(c, 1, true));
        Check.same("not want a condemned one", 2, Scene.busy().want(7, 1, false));
    }

    private static void setFairnessNoSuchCollector() {
        refuseNoSuchCollector("setFairness", (x, collector) -> x.setFairness(collector, 0));
        refuseNoSuchCollector("setFairness, before a low one", (x, c) -> x.setFairness(c, -1));
        refuseNoSuchCollector("setFairness, before a high one", (x, c) -> x.setFairness(c, 101));
    }

    private static void setFairnessPercentOutOfRange() {
        int[] percents = outside(0, 100);
        refuseEach("setFairness: percent", ARGUMENT, Scene::busy, percents,
                (x, percent) -> x.setFairness(1, percent));
        refuseEach("setFairness: percent of a new one", ARGUMENT, DieRegister::new, percents,
                (x, percent) -> x.setFairness(7, percent));
    }

    private static void markNoSuchCoin() {
        refuseNoSuchCoin("mark", (x, coin) -> x.mark(coin, true));
        refuseNoSuchCoin("unmark", (x, coin) -> x.mark(coin, false));
    }

    private static void markIfNoCollectorOwnsIt() {
        int[] inTheMint = {2, 3, 6, 8, 15};
        refuseEach("mark: in the mint", STATE, Scene::busy, inTheMint, (x, c) -> x.mark(c, true));
        refuseEach("unmark: in the mint", STATE, Scene::busy, inTheMint,
                (x, c) -> x.mark(c, false));
        refuseEach("mark: melted", STATE, Scene::busy, MELTED, (x, c) -> x.mark(c, true));
        refuseEach("unmark: melted", STATE, Scene::busy, MELTED, (x, c) -> x.mark(c, false));
    }

    // ---- owner, wants, offers, worth, coinAt

    private static void ownerNoSuchCoin() {
        refuseNoSuchCoin("owner", DieRegister::owner);
    }

    private static void wantsNoSuchCollector() {
        refuseNoSuchCollector("wants", DieRegister::wants);
    }

    private static void offersNoSuchCollector() {
        refuseNoSuchCollector("offers", DieRegister::offers);
    }

    private static void worthNoSuchCollector() {
        refuseNoSuchCollector("worth", DieRegister::worth);
    }

    private static void coinAtNoSuchCollector() {
        refuseNoSuchCollector("coinAt", (x, collector) -> x.coinAt(collector, 0));
        refuseNoSuchCollector("coinAt, below 0", (x, collector) -> x.coinAt(collector, -1));
    }

    private static void coinAtIfTheyOwnNotSoMany() {
        refuse("coinAt: none, in a new one", INDEX, DieRegister::new,
                x -> x.coinAt(0, 0), x -> x.coinAt(7, 0));
        refuse("coinAt: none, the only one was melted", INDEX, RefusalTest::lostOne,
                x -> x.coinAt(6, 0));
        refuseEach("coinAt: one", INDEX, Scene::busy, outside(0, 0), (x, p) -> x.coinAt(3, p));
        refuseEach("coinAt: ten", INDEX, Scene::fullCollector, outside(0, 9),
                (x, p) -> x.coinAt(7, p));
        Check.same("coinAt: the tenth of ten", 9, Scene.fullCollector().coinAt(7, 9));
    }

    private static DieRegister lostOne() {
        DieRegister x = Scene.mint("2", 0);
        x.give(0, 6);
        x.melt(0);
        return x;
    }

    private static void coinAtBelowZero() {
        refuse("coinAt: below 0", INDEX, Scene::fullCollector,
                x -> x.coinAt(7, -1), x -> x.coinAt(7, Integer.MIN_VALUE), x -> x.coinAt(6, -1));
    }

    // ---- rings

    private static void ringAtNoSuchPlace() {
        refuseEach("ringAt: no ring", INDEX, DieRegister::new, outside(0, -1),
                DieRegister::ringAt);
        refuseEach("ringAt: five are no ring", INDEX, () -> Scene.round(5), outside(0, -1),
                DieRegister::ringAt);
        for (int count = 2; count <= 4; count++) {
            int length = count;
            refuseEach("ringAt: of " + length, INDEX, () -> Scene.round(length),
                    outside(0, length - 1), DieRegister::ringAt);
        }
    }

    private static void swapIfThereIsNoRing() {
        refuse("swap: nothing", STATE, DieRegister::new, DieRegister::swap);
        refuse("swap: five are no ring", STATE, () -> Scene.round(5), DieRegister::swap);
        refuse("swap: one is no ring", STATE, () -> Scene.round(1), DieRegister::swap);
        refuse("swap: unfair", STATE, RefusalTest::unfair, DieRegister::swap);
        refuse("swap: it was done", STATE, RefusalTest::done, DieRegister::swap);
    }

    private static DieRegister unfair() {
        DieRegister x = Scene.pair(0, 1);
        x.setFairness(1, 51);
        return x;
    }

    private static DieRegister done() {
        DieRegister x = Scene.round(3);
        x.swap();
        return x;
    }

    private static void swapIfThereWere60() {
        refuse("swap: 60, and a ring is ready", STATE, () -> Scene.swapped(60), DieRegister::swap);
        Check.same("a ring is ready", 2, Scene.swapped(60).ring());
        Check.same("the 60th", 2, Scene.swapped(59).swap());
    }

    private static void swapAtNoSuchSwap() {
        refuseEach("swapAt: no swap", INDEX, DieRegister::new, outside(0, -1),
                (x, swap) -> x.swapAt(swap, 0));
        refuseEach("swapAt: one swap", INDEX, RefusalTest::done, outside(0, 0),
                (x, swap) -> x.swapAt(swap, 0));
        refuseEach("swapAt: 60 swaps", INDEX, () -> Scene.swapped(60), outside(0, 59),
                (x, swap) -> x.swapAt(swap, 1));
        refuseEach("swapAt: no such swap and place", INDEX, RefusalTest::done, outside(0, 0),
                (x, swap) -> x.swapAt(swap, 3));
    }

    private static void swapAtNoSuchPlace() {
        for (int count = 2; count <= 4; count++) {
            int length = count;
            refuseEach("swapAt: a swap of " + length, INDEX, () -> swappedRound(length),
                    outside(0, length - 1), (x, place) -> x.swapAt(0, place));
        }
        refuseEach("swapAt: the last of 60 swaps", INDEX, () -> Scene.swapped(60), outside(0, 1),
                (x, place) -> x.swapAt(59, place));
    }

    private static DieRegister swappedRound(int collectors) {
        DieRegister x = Scene.round(collectors);
        x.swap();
        return x;
    }

    // ---- calls without a "Throws" row

    private static void callsThatAreNeverRefused() {
        List<Supplier<DieRegister>> scenes = new ArrayList<>();
        scenes.add(DieRegister::new);
        scenes.add(Scene::busy);
        scenes.add(Scene::fullOfDies);
        scenes.add(Scene::fullOfCoins);
        scenes.add(Scene::fullDie);
        scenes.add(Scene::fullCollector);
        scenes.add(() -> Scene.swapped(60));
        int[] struck = {0, 16, 5, 150, 41, 12, 2};
        int[] ring = {0, 2, 0, 0, 0, 0, 2};
        int[] swaps = {0, 1, 0, 0, 0, 0, 60};
        int[] spoiled = {0, 1, 0, 0, 0, 0, 0};
        for (int i = 0; i < scenes.size(); i++) {
            DieRegister x = scenes.get(i).get();
            Check.same("struck, scene " + i, struck[i], x.struck());
            Check.same("ring, scene " + i, ring[i], x.ring());
            Check.same("swaps, scene " + i, swaps[i], x.swaps());
            Check.same("spoiled, scene " + i, spoiled[i], x.spoiled());
        }
    }
}
