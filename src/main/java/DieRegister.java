import java.util.ArrayList;

/**
 * The register of a mint: dies that strike coins, wear and crack, coins that are known by the
 * defects of their dies, forgers who cast dies from coins, proofs by matching defects, dies that
 * are condemned so that coins grow rare, prices by how many true ones are left, collectors with
 * wants, and swaps in rings.
 *
 * <p>A call that throws an exception changes nothing.
 */
public final class DieRegister {
    /** There is none; the mint, as an owner. */
    public static final int NONE = -1;

    private static final int TYPES = 4;
    private static final int DEFECTS = 16;
    private static final int MOST_DIES = 16;
    private static final int MOST_COINS = 150;
    private static final int MOST_COINS_OF_A_DIE = 40;
    private static final int MOST_COINS_AT_ONCE = 20;
    private static final int LEAST_DEFECTS_OF_A_PROOF = 2;
    private static final int COLLECTORS = 8;
    private static final int MOST_COINS_OF_A_COLLECTOR = 10;
    private static final int FAIRNESS_AT_FIRST = 50;
    private static final int WHOLE_PERCENT = 100;
    private static final int LEAST_IN_A_RING = 2;
    private static final int MOST_IN_A_RING = 4;
    private static final int MOST_SWAPS = 60;
    private static final int VALUES_TO_SHARE = 20;
    private static final int COLLECTOR_TOLD = 1000;

    private final ArrayList<Die> dies = new ArrayList<>();
    private final ArrayList<Coin> coins = new ArrayList<>();
    private final Collector[] collectors = new Collector[COLLECTORS];
    private final ArrayList<Ring> swapped = new ArrayList<>();
    private Ring ready = new Ring();

    /** Begins without dies and coins. */
    public DieRegister() {
        for (int number = 0; number < COLLECTORS; number++) {
            collectors[number] = new Collector(number);
        }
    }

    // ---- dies and coins

    /**
     * Adds a die without defects.
     *
     * @param type 0 to 3
     * @return its number
     * @throws IndexOutOfBoundsException if there is no such type
     * @throws IllegalStateException if there are 16
     */
    public int addDie(int type) throws IndexOutOfBoundsException, IllegalStateException {
        if (type < 0 || type >= TYPES) {
            throw new IndexOutOfBoundsException("no such type");
        }
        return newDie(type, 0);
    }

    /**
     * Lets a die get a defect.
     *
     * @param die a die
     * @param defect 0 to 15
     * @return how many defects it has then
     * @throws IndexOutOfBoundsException if there is no such die
     * @throws IllegalArgumentException if defect is out of range
     * @throws IllegalStateException if it has this one, or is condemned
     */
    public int crack(int die, int defect)
            throws IndexOutOfBoundsException, IllegalArgumentException, IllegalStateException {
        Die cracked = theDie(die);
        if (defect < 0 || defect >= DEFECTS) {
            throw new IllegalArgumentException("no such defect");
        }
        int bit = 1 << defect;
        if (cracked.condemned || (cracked.defects & bit) != 0) {
            throw new IllegalStateException("the die is condemned, or has this defect");
        }
        cracked.defects |= bit;
        return Integer.bitCount(cracked.defects);
    }

    /**
     * Strikes coins, which are in the mint.
     *
     * @param die a die
     * @param count 1 to 20
     * @return the number of the first one
     * @throws IndexOutOfBoundsException if there is no such die
     * @throws IllegalArgumentException if count is out of range
     * @throws IllegalStateException if the die is condemned, would have struck more than 40, or
     *     there would be more than 150 coins
     */
    public int strike(int die, int count)
            throws IndexOutOfBoundsException, IllegalArgumentException, IllegalStateException {
        Die striking = theDie(die);
        if (count < 1 || count > MOST_COINS_AT_ONCE) {
            throw new IllegalArgumentException("count is out of range");
        }
        int first = coins.size();
        if (striking.condemned || striking.coins.size() + count > MOST_COINS_OF_A_DIE
                || first + count > MOST_COINS) {
            throw new IllegalStateException("the die is condemned, or the coins would be too many");
        }
        for (int i = 0; i < count; i++) {
            Coin coin = new Coin(first + i, striking);
            coins.add(coin);
            striking.coins.add(coin);
        }
        striking.trueCoins += count;
        return first;
    }

    /**
     * Casts a die from a coin.
     *
     * @param coin a coin
     * @return the number of the die
     * @throws IndexOutOfBoundsException if there is no such coin
     * @throws IllegalStateException if it was melted, or there are 16 dies
     */
    public int cast(int coin) throws IndexOutOfBoundsException, IllegalStateException {
        Coin pattern = theCoin(coin);
        if (pattern.melted) {
            throw new IllegalStateException("the coin was melted");
        }
        return newDie(pattern.die.type, pattern.defects);
    }

    /**
     * Melts a coin.
     *
     * @param coin a coin
     * @return who owned it; NONE if it was in the mint
     * @throws IndexOutOfBoundsException if there is no such coin
     * @throws IllegalStateException if it was melted
     */
    public int melt(int coin) throws IndexOutOfBoundsException, IllegalStateException {
        Coin lost = theCoin(coin);
        if (lost.melted) {
            throw new IllegalStateException("the coin was melted");
        }
        if (lost.isGenuine()) {
            lost.die.trueCoins--;
        }
        int before = lost.ownerNumber();
        if (lost.owner != null) {
            lost.owner.lose(lost);
        }
        lost.melted = true;
        return before;
    }

    /** Returns how many coins were struck. */
    public int struck() {
        return coins.size();
    }

    /**
     * Returns the defects of a coin.
     *
     * @param coin a coin, melted or not
     * @return the set, bit d for the defect d
     * @throws IndexOutOfBoundsException if there is no such coin
     */
    public int defects(int coin) throws IndexOutOfBoundsException {
        return theCoin(coin).defects;
    }

    /**
     * Returns the dies that a coin could be of, by what it looks like: those of its type that have
     * a stage with just its defects.
     *
     * @param coin a coin, melted or not
     * @return the set, bit d for the die d
     * @throws IndexOutOfBoundsException if there is no such coin
     */
    public int couldBeOf(int coin) throws IndexOutOfBoundsException {
        Coin seen = theCoin(coin);
        int set = 0;
        for (int i = 0; i < dies.size(); i++) {
            Die die = dies.get(i);
            if (die.type == seen.die.type && die.firstOfStage(seen.defects) != null) {
                set |= die.bit();
            }
        }
        return set;
    }

    /**
     * Returns how many stages a die has.
     *
     * @param die a die
     * @throws IndexOutOfBoundsException if there is no such die
     */
    public int stages(int die) throws IndexOutOfBoundsException {
        return theDie(die).countStages();
    }

    // ---- proofs and prices

    /**
     * Returns from which die a die is proved to be cast.
     *
     * @param die a die
     * @return that die; NONE if there is no proof
     * @throws IndexOutOfBoundsException if there is no such die
     */
    public int proof(int die) throws IndexOutOfBoundsException {
        return provedSource(theDie(die));
    }

    /**
     * Condemns a die.
     *
     * @param die a die
     * @return how many coins of it were true until now
     * @throws IndexOutOfBoundsException if there is no such die
     * @throws IllegalStateException if it is condemned, or there is no proof
     */
    public int condemn(int die) throws IndexOutOfBoundsException, IllegalStateException {
        Die forged = theDie(die);
        if (forged.condemned || provedSource(forged) == NONE) {
            throw new IllegalStateException("the die is condemned, or there is no proof");
        }
        int before = forged.trueCoins;
        forged.condemned = true;
        forged.trueCoins = 0;
        for (Collector collector : collectors) {
            collector.wanted &= ~forged.bit();
        }
        return before;
    }

    /**
     * Tells whether a die is condemned.
     *
     * @param die a die
     * @throws IndexOutOfBoundsException if there is no such die
     */
    public boolean isCondemned(int die) throws IndexOutOfBoundsException {
        return theDie(die).condemned;
    }

    /**
     * Tells whether a coin is true.
     *
     * @param coin a coin
     * @throws IndexOutOfBoundsException if there is no such coin
     */
    public boolean isTrue(int coin) throws IndexOutOfBoundsException {
        return theCoin(coin).isGenuine();
    }

    /**
     * Returns the rarity of a die.
     *
     * @param die a die
     * @throws IndexOutOfBoundsException if there is no such die
     */
    public int rarity(int die) throws IndexOutOfBoundsException {
        return theDie(die).trueCoins;
    }

    /**
     * Returns the same, found by looking at all coins.
     *
     * @param die a die
     * @throws IndexOutOfBoundsException if there is no such die
     */
    public int rarityByCoins(int die) throws IndexOutOfBoundsException {
        Die counted = theDie(die);
        int count = 0;
        for (int i = 0; i < coins.size(); i++) {
            Coin coin = coins.get(i);
            if (coin.die == counted && coin.isGenuine()) {
                count++;
            }
        }
        return count;
    }

    /**
     * Returns the price of a coin.
     *
     * @param coin a coin
     * @throws IndexOutOfBoundsException if there is no such coin
     */
    public int price(int coin) throws IndexOutOfBoundsException {
        return theCoin(coin).priceNow();
    }

    // ---- collectors

    /**
     * Gives a coin that is in the mint to a collector.
     *
     * @param coin a coin
     * @param collector 0 to 7
     * @return how many coins the collector owns then
     * @throws IndexOutOfBoundsException if there is no such coin or collector
     * @throws IllegalStateException if the coin is not in the mint, or the collector owns 10
     */
    public int give(int coin, int collector)
            throws IndexOutOfBoundsException, IllegalStateException {
        Coin given = theCoin(coin);
        Collector getter = theCollector(collector);
        if (given.melted || given.owner != null
                || getter.owned.size() >= MOST_COINS_OF_A_COLLECTOR) {
            throw new IllegalStateException("the coin is not in the mint, or they own 10 coins");
        }
        getter.gain(given);
        return getter.owned.size();
    }

    /**
     * Lets a collector want a die, or not any more.
     *
     * @param collector 0 to 7
     * @param die a die
     * @param isWanted whether it is wanted from now on
     * @return how many dies the collector wants then
     * @throws IndexOutOfBoundsException if there is no such collector or die
     * @throws IllegalStateException if isWanted, and the die is condemned
     */
    public int want(int collector, int die, boolean isWanted)
            throws IndexOutOfBoundsException, IllegalStateException {
        Collector wishing = theCollector(collector);
        Die wish = theDie(die);
        if (isWanted && wish.condemned) {
            throw new IllegalStateException("the die is condemned");
        }
        if (isWanted) {
            wishing.wanted |= wish.bit();
        } else {
            wishing.wanted &= ~wish.bit();
        }
        return Integer.bitCount(wishing.wanted);
    }

    /**
     * Sets the fairness of a collector.
     *
     * @param collector 0 to 7
     * @param percent 0 to 100
     * @return the one before
     * @throws IndexOutOfBoundsException if there is no such collector
     * @throws IllegalArgumentException if percent is out of range
     */
    public int setFairness(int collector, int percent)
            throws IndexOutOfBoundsException, IllegalArgumentException {
        Collector judging = theCollector(collector);
        if (percent < 0 || percent > WHOLE_PERCENT) {
            throw new IllegalArgumentException("percent is out of range");
        }
        int before = judging.fairness;
        judging.fairness = percent;
        return before;
    }

    /**
     * Marks a coin, so that its owner offers it, or takes the mark away.
     *
     * @param coin a coin
     * @param isMarked whether it is marked from now on
     * @return whether it was
     * @throws IndexOutOfBoundsException if there is no such coin
     * @throws IllegalStateException if no collector owns it
     */
    public boolean mark(int coin, boolean isMarked)
            throws IndexOutOfBoundsException, IllegalStateException {
        Coin chosen = theCoin(coin);
        if (chosen.owner == null) {
            throw new IllegalStateException("no collector owns the coin");
        }
        boolean before = chosen.marked;
        chosen.marked = isMarked;
        return before;
    }

    /**
     * Returns who owns a coin.
     *
     * @param coin a coin
     * @return the collector; NONE if it is in the mint, or was melted
     * @throws IndexOutOfBoundsException if there is no such coin
     */
    public int owner(int coin) throws IndexOutOfBoundsException {
        return theCoin(coin).ownerNumber();
    }

    /**
     * Returns the dies that a collector wants.
     *
     * @param collector 0 to 7
     * @return the set, bit d for the die d
     * @throws IndexOutOfBoundsException if there is no such collector
     */
    public int wants(int collector) throws IndexOutOfBoundsException {
        return theCollector(collector).wanted;
    }

    /**
     * Returns the dies of which a collector offers a coin.
     *
     * @param collector 0 to 7
     * @return the set, bit d for the die d
     * @throws IndexOutOfBoundsException if there is no such collector
     */
    public int offers(int collector) throws IndexOutOfBoundsException {
        Collector offering = theCollector(collector);
        offering.listOffers(dies);
        int set = 0;
        for (int i = 0; i < offering.offered.size(); i++) {
            set |= offering.offered.get(i).die.bit();
        }
        return set;
    }

    /**
     * Returns what all coins of a collector are worth together.
     *
     * @param collector 0 to 7
     * @return the sum of their prices
     * @throws IndexOutOfBoundsException if there is no such collector
     */
    public int worth(int collector) throws IndexOutOfBoundsException {
        ArrayList<Coin> owned = theCollector(collector).owned;
        int sum = 0;
        for (int i = 0; i < owned.size(); i++) {
            sum += owned.get(i).priceNow();
        }
        return sum;
    }

    /**
     * Returns a coin of a collector, by falling prices, those with the same by rising numbers.
     *
     * @param collector 0 to 7
     * @param place 0 for the first one
     * @return the coin
     * @throws IndexOutOfBoundsException if there is no such collector, or they own not so many, or
     *     place is below 0
     */
    public int coinAt(int collector, int place) throws IndexOutOfBoundsException {
        Collector asked = theCollector(collector);
        for (int i = 0; i < asked.owned.size(); i++) {
            Coin coin = asked.owned.get(i);
            if (asked.countDearerThan(coin) == place) {
                return coin.number;
            }
        }
        throw new IndexOutOfBoundsException("no such place");
    }

    // ---- rings

    /** Returns how many collectors the ring that is ready has; 0 if there is none. */
    public int ring() {
        findRing();
        return ready.length();
    }

    /**
     * Returns who is at a place of the ring that is ready, and what they give.
     *
     * @param place 0 for the first one
     * @return 1000 times the collector, and the coin, added
     * @throws IndexOutOfBoundsException if there is no such place
     */
    public int ringAt(int place) throws IndexOutOfBoundsException {
        findRing();
        return ready.tell(place);
    }

    /**
     * Swaps.
     *
     * @return how many collectors the ring has
     * @throws IllegalStateException if there is no ring that is ready, or there were 60 swaps
     */
    public int swap() throws IllegalStateException {
        findRing();
        int size = ready.length();
        if (size == 0 || swapped.size() >= MOST_SWAPS) {
            throw new IllegalStateException("no ring is ready, or there were 60 swaps");
        }
        ready.handOver();
        swapped.add(ready);
        ready = new Ring();
        return size;
    }

    /** Returns how many swaps there were. */
    public int swaps() {
        return swapped.size();
    }

    /**
     * Returns who was at a place of a swap, and what they gave.
     *
     * @param swap a swap
     * @param place 0 for the first one
     * @return 1000 times the collector, and the coin, added
     * @throws IndexOutOfBoundsException if there is no such swap or place
     */
    public int swapAt(int swap, int place) throws IndexOutOfBoundsException {
        if (swap < 0 || swap >= swapped.size()) {
            throw new IndexOutOfBoundsException("no such swap");
        }
        return swapped.get(swap).tell(place);
    }

    /** Returns in how many swaps somebody got a coin that is not true by now. */
    public int spoiled() {
        int count = 0;
        for (int i = 0; i < swapped.size(); i++) {
            if (swapped.get(i).hasFalseGift()) {
                count++;
            }
        }
        return count;
    }

    // ---- what the calls share

    private Die theDie(int die) {
        if (die < 0 || die >= dies.size()) {
            throw new IndexOutOfBoundsException("no such die");
        }
        return dies.get(die);
    }

    private Coin theCoin(int coin) {
        if (coin < 0 || coin >= coins.size()) {
            throw new IndexOutOfBoundsException("no such coin");
        }
        return coins.get(coin);
    }

    private Collector theCollector(int collector) {
        if (collector < 0 || collector >= COLLECTORS) {
            throw new IndexOutOfBoundsException("no such collector");
        }
        return collectors[collector];
    }

    private int newDie(int type, int defects) {
        int number = dies.size();
        if (number >= MOST_DIES) {
            throw new IllegalStateException("there are 16 dies");
        }
        dies.add(new Die(number, type, defects));
        return number;
    }

    /** The lowest die from which this one is proved to be cast; NONE if there is no proof. */
    private int provedSource(Die die) {
        Coin first = die.firstCoin();
        if (first == null || Integer.bitCount(first.defects) < LEAST_DEFECTS_OF_A_PROOF) {
            return NONE;
        }
        for (int i = 0; i < dies.size(); i++) {
            Die other = dies.get(i);
            if (other != die && other.type == die.type) {
                Coin match = other.firstOfStage(first.defects);
                if (match != null && match.number < first.number) {
                    return other.number;
                }
            }
        }
        return NONE;
    }

    /** Makes the ring that is ready anew, since nearly every call may change it. */
    private void findRing() {
        for (Collector collector : collectors) {
            collector.listOffers(dies);
        }
        ready.empty();
        for (int length = LEAST_IN_A_RING; length <= MOST_IN_A_RING; length++) {
            if (lengthen(collectors, ready, length, 0)) {
                return;
            }
        }
    }

    /**
     * Adds gifts to a row of them until it is a ring, and tells whether it became one. Collectors
     * and, for each, dies are tried by rising numbers, so the first ring that is found is the first
     * one in the order of rings.
     */
    private static boolean lengthen(Collector[] collectors, Ring row, int length, int place) {
        if (place >= length || place >= MOST_IN_A_RING) {
            return row.closes();
        }
        for (Collector giver : collectors) {
            if (!row.mayBeJoinedBy(giver)) {
                continue;
            }
            for (int i = 0; i < giver.offered.size(); i++) {
                Coin gift = giver.offered.get(i);
                if (row.pleases(giver, gift)) {
                    row.add(giver, gift);
                    if (lengthen(collectors, row, length, place + 1)) {
                        return true;
                    }
                    row.removeLast();
                }
            }
        }
        return false;
    }

    /** A die, with the coins that it has struck. */
    private static final class Die {
        private final int number;
        private final int type;
        /** The value of its coins; a field, for LANGUAGE.md lets calls go eight deep at most. */
        private final int value;
        private int defects;
        private boolean condemned;
        private int trueCoins;
        private final ArrayList<Coin> coins = new ArrayList<>();

        private Die(int number, int type, int defects) {
            this.number = number;
            this.type = type;
            this.value = valueOf(type);
            this.defects = defects;
        }

        private static int valueOf(int type) {
            switch (type) {
                case 0:
                    return 100;
                case 1:
                    return 200;
                case 2:
                    return 500;
                default:
                    return 1000;
            }
        }

        private int bit() {
            return 1 << number;
        }

        /** The first coin that it has struck; null if there is none. */
        private Coin firstCoin() {
            return coins.isEmpty() ? null : coins.get(0);
        }

        /** The first coin of the stage with just these defects; null if there is no such stage. */
        private Coin firstOfStage(int stageDefects) {
            for (int i = 0; i < coins.size(); i++) {
                if (coins.get(i).defects == stageDefects) {
                    return coins.get(i);
                }
            }
            return null;
        }

        private int countStages() {
            int count = 0;
            for (int i = 0; i < coins.size(); i++) {
                Coin coin = coins.get(i);
                if (firstOfStage(coin.defects) == coin) {
                    count++;
                }
            }
            return count;
        }

        /** The price of its true coins, which is the same for all of them; 0 if it has none. */
        private int priceOfTrueCoins() {
            return trueCoins > 0 ? VALUES_TO_SHARE * value / (trueCoins + 1) : 0;
        }
    }

    /** A coin; it keeps the defects that its die had when it was struck. */
    private static final class Coin {
        private final int number;
        private final Die die;
        private final int defects;
        private Collector owner;
        private boolean melted;
        private boolean marked;

        private Coin(int number, Die die) {
            this.number = number;
            this.die = die;
            this.defects = die.defects;
        }

        private boolean isGenuine() {
            return !melted && !die.condemned;
        }

        private int priceNow() {
            return isGenuine() ? die.priceOfTrueCoins() : 0;
        }

        private int ownerNumber() {
            return owner == null ? NONE : owner.number;
        }
    }

    /** A collector, with the coins that they own. */
    private static final class Collector {
        private final int number;
        private int wanted;
        private int fairness = FAIRNESS_AT_FIRST;
        private final ArrayList<Coin> owned = new ArrayList<>();
        /** The lowest coin of each die that is offered, by rising dies, when it was last listed. */
        private final ArrayList<Coin> offered = new ArrayList<>();

        private Collector(int number) {
            this.number = number;
        }

        /** Makes a coin theirs; with that their want for its die and the coin's mark end. */
        private void gain(Coin coin) {
            owned.add(coin);
            coin.owner = this;
            coin.marked = false;
            wanted &= ~coin.die.bit();
        }

        private void lose(Coin coin) {
            for (int i = 0; i < owned.size(); i++) {
                if (owned.get(i) == coin) {
                    owned.remove(i);
                    break;
                }
            }
            coin.owner = null;
        }

        private void listOffers(ArrayList<Die> dies) {
            offered.clear();
            for (int i = 0; i < dies.size(); i++) {
                Coin coin = lowestOffered(dies.get(i));
                if (coin != null) {
                    offered.add(coin);
                }
            }
        }

        /**
         * The lowest coin of a die that is offered; null if there is none. It is the lowest true
         * one of the die: of two or more all are offered, and one alone is if it is marked.
         */
        private Coin lowestOffered(Die die) {
            Coin lowest = null;
            int count = 0;
            boolean isAnyMarked = false;
            for (int i = 0; i < owned.size(); i++) {
                Coin coin = owned.get(i);
                if (coin.die == die && coin.isGenuine()) {
                    count++;
                    isAnyMarked = isAnyMarked || coin.marked;
                    if (lowest == null || coin.number < lowest.number) {
                        lowest = coin;
                    }
                }
            }
            return count > 1 || isAnyMarked ? lowest : null;
        }

        /** How many of their coins stand before this one, by falling prices, then by numbers. */
        private int countDearerThan(Coin coin) {
            int count = 0;
            for (int i = 0; i < owned.size(); i++) {
                Coin other = owned.get(i);
                int difference = other.priceNow() - coin.priceNow();
                if (difference > 0 || (difference == 0 && other.number < coin.number)) {
                    count++;
                }
            }
            return count;
        }

        private boolean isAfter(Die die) {
            return (wanted & die.bit()) != 0;
        }

        private boolean isContentWith(Coin got, Coin given) {
            return got.priceNow() * WHOLE_PERCENT >= fairness * given.priceNow();
        }
    }

    /** A row of collectors, and the coin that each of them gives to the next one. */
    private static final class Ring {
        private final ArrayList<Collector> givers = new ArrayList<>();
        private final ArrayList<Coin> gifts = new ArrayList<>();

        /** How many there are; both lists are as long, so the bound holds for either of them. */
        private int length() {
            return Math.min(givers.size(), gifts.size());
        }

        private void empty() {
            givers.clear();
            gifts.clear();
        }

        private void add(Collector giver, Coin gift) {
            givers.add(giver);
            gifts.add(gift);
        }

        private void removeLast() {
            int last = length() - 1;
            if (last >= 0) {
                givers.remove(last);
                gifts.remove(last);
            }
        }

        /** Whether a collector may be the next one in the row, whatever they give. */
        private boolean mayBeJoinedBy(Collector collector) {
            int size = length();
            if (size == 0) {
                return true;
            }
            // The first collector has the lowest number of the ring.
            if (collector.number <= givers.get(0).number) {
                return false;
            }
            for (int i = 1; i < size; i++) {
                if (givers.get(i) == collector) {
                    return false;
                }
            }
            return collector.isAfter(gifts.get(size - 1).die);
        }

        /** Whether the next collector finds the last gift fair for the one that they give. */
        private boolean pleases(Collector next, Coin gift) {
            int last = length() - 1;
            return last < 0 || next.isContentWith(gifts.get(last), gift);
        }

        /** Whether the last gift can go to the first collector. */
        private boolean closes() {
            int last = length() - 1;
            if (last < LEAST_IN_A_RING - 1) {
                return false;
            }
            Collector first = givers.get(0);
            Coin gift = gifts.get(last);
            return first.isAfter(gift.die) && first.isContentWith(gift, gifts.get(0));
        }

        private void handOver() {
            int size = length();
            for (int place = 0; place < size; place++) {
                int next = place + 1 < size ? place + 1 : 0;
                Coin gift = gifts.get(place);
                givers.get(place).lose(gift);
                givers.get(next).gain(gift);
            }
        }

        private int tell(int place) {
            if (place < 0 || place >= length()) {
                throw new IndexOutOfBoundsException("no such place");
            }
            return COLLECTOR_TOLD * givers.get(place).number + gifts.get(place).number;
        }

        private boolean hasFalseGift() {
            for (int i = 0; i < length(); i++) {
                if (!gifts.get(i).isGenuine()) {
                    return true;
                }
            }
            return false;
        }
    }
}
