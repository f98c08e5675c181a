import java.util.ArrayList;
import java.util.List;
import java.util.function.Supplier;

/**
 * All that calls can tell of a register: two of them with the same picture can't be told apart.
 * An object is used for at most 512 calls, so each row of questions, of at most 170, goes to a
 * register of its own, which the scene makes anew.
 */
final class Picture {
    /** A call with a number that runs; it may change the register that it is asked of. */
    interface Question {
        int ask(DieRegister x, int i);
    }

    private static final int DIES = 16;
    private static final int COINS = 150;
    private static final int COLLECTORS = 8;
    private static final int SWAPS = 60;
    private static final int PLACES_OF_A_RING = 4;
    private static final int COINS_OWNED = 10;
    private static final int DEFECTS = 16;
    private static final int COUNT = 20;

    private final Supplier<DieRegister> scene;
    private final List<String> answers = new ArrayList<>();

    private Picture(Supplier<DieRegister> scene) {
        this.scene = scene;
    }

    static List<String> of(Supplier<DieRegister> scene) {
        Picture picture = new Picture(scene);
        picture.askOfDies();
        picture.askOfCoins();
        picture.askOfCollectors();
        picture.askOfRings();
        return picture.answers;
    }

    /** Tells where two pictures differ first, if they do. */
    static void compare(String what, List<String> due, List<String> got) {
        Check.same(what + ": the answers of a picture", due.size(), got.size());
        for (int i = 0; i < due.size() && i < got.size(); i++) {
            if (!due.get(i).equals(got.get(i))) {
                Check.tell(what + " made " + got.get(i) + " of " + due.get(i));
                return;
            }
        }
    }

    private void askOfDies() {
        row("stages", DIES, DieRegister::stages);
        row("proof", DIES, DieRegister::proof);
        row("isCondemned", DIES, (x, die) -> x.isCondemned(die) ? 1 : 0);
        row("rarity", DIES, DieRegister::rarity);
        row("rarityByCoins", DIES, DieRegister::rarityByCoins);
        row("condemn", DIES, DieRegister::condemn);
        row("crack", DIES / 2 * DEFECTS, (x, i) -> x.crack(i / DEFECTS, i % DEFECTS));
        row("crack the upper ones", DIES / 2 * DEFECTS,
                (x, i) -> x.crack(DIES / 2 + i / DEFECTS, i % DEFECTS));
        row("addDie", DIES + 1, (x, i) -> x.addDie(0));
        for (int die = 0; die < DIES; die++) {
            int d = die;
            row("strike one of " + d, 1, (x, i) -> x.strike(d, 1));
            row("its defects, of " + d, 1, (x, i) -> x.defects(x.strike(d, 1)));
            row("its price, of " + d, 1, (x, i) -> x.price(x.strike(d, 1)));
            // What is still struck tells how many coins the die has struck.
            row("strike as many as go, of " + d, 2 * COUNT,
                    (x, i) -> x.strike(d, COUNT - i / 2));
        }
    }

    private void askOfCoins() {
        row("struck", 1, (x, i) -> x.struck());
        row("defects", COINS + 1, DieRegister::defects);
        row("couldBeOf", COINS + 1, DieRegister::couldBeOf);
        row("isTrue", COINS + 1, (x, coin) -> x.isTrue(coin) ? 1 : 0);
        row("price", COINS + 1, DieRegister::price);
        row("owner", COINS + 1, DieRegister::owner);
        row("mark", COINS + 1, (x, coin) -> x.mark(coin, true) ? 1 : 0);
        row("melt", COINS + 1, DieRegister::melt);
        for (int coin = 0; coin < COINS; coin += 7) {
            int c = coin;
            row("cast from " + c, DIES, (x, i) -> x.cast(c));
        }
    }

    private void askOfCollectors() {
        row("wants", COLLECTORS, DieRegister::wants);
        row("offers", COLLECTORS, DieRegister::offers);
        row("worth", COLLECTORS, DieRegister::worth);
        row("setFairness", COLLECTORS, (x, collector) -> x.setFairness(collector, 0));
        int places = COINS_OWNED + 1;
        row("coinAt", COLLECTORS * places, (x, i) -> x.coinAt(i / places, i % places));
        for (int collector = 0; collector < COLLECTORS; collector++) {
            int c = collector;
            row("give to " + c, COINS, (x, coin) -> x.give(coin, c));
        }
    }

    private void askOfRings() {
        row("ring", 1, (x, i) -> x.ring());
        row("ringAt", PLACES_OF_A_RING + 1, DieRegister::ringAt);
        row("swap", 2, (x, i) -> x.swap());
        row("swaps", 1, (x, i) -> x.swaps());
        row("spoiled", 1, (x, i) -> x.spoiled());
        int places = PLACES_OF_A_RING + 1;
        row("swapAt", SWAPS / 2 * places, (x, i) -> x.swapAt(i / places, i % places));
        row("swapAt of the upper ones", (SWAPS / 2 + 1) * places,
                (x, i) -> x.swapAt(SWAPS / 2 + i / places, i % places));
    }

    private void row(String name, int count, Question question) {
        DieRegister x = scene.get();
        for (int i = 0; i < count; i++) {
            answers.add(name + " (" + i + ") = " + answer(x, i, question));
        }
    }

    private static String answer(DieRegister x, int i, Question question) {
        try {
            return Integer.toString(question.ask(x, i));
        } catch (RuntimeException e) {
            if (!Check.isOwn(e)) {
                Check.tell("the machine threw " + e);
            }
            return e.getClass().getSimpleName();
        }
    }
}
