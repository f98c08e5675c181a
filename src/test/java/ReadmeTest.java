/** The examples of README.md, with the answers that stand beside them there. */
public final class ReadmeTest {
    private static final int NONE = DieRegister.NONE;

    private ReadmeTest() {
    }

    public static void main(String[] args) {
        collectorsSwap();
        aForgerIsFoundOut();
        Check.end();
    }

    private static void collectorsSwap() {
        DieRegister register = new DieRegister();
        int thaler = register.addDie(3);
        Check.same("addDie of thalers", 0, thaler);
        int florin = register.addDie(2);
        Check.same("addDie of florins", 1, florin);
        Check.same("crack", 1, register.crack(thaler, 4));
        int first = register.strike(thaler, 2);
        Check.same("strike thalers", 0, first);
        int other = register.strike(florin, 1);
        Check.same("strike a florin", 2, other);
        register.give(first, 0);
        register.give(first + 1, 0);
        register.give(other, 1);
        register.mark(other, true);
        register.want(0, florin, true);
        register.want(1, thaler, true);
        Check.same("ring", 2, register.ring());
        Check.same("ringAt 0", 0, register.ringAt(0));
        Check.same("ringAt 1", 1002, register.ringAt(1));
        Check.same("swap", 2, register.swap());
        Check.same("owner", 0, register.owner(other));
    }

    private static void aForgerIsFoundOut() {
        DieRegister register = new DieRegister();
        int ducat = register.addDie(3);
        Check.same("addDie", 0, ducat);
        register.crack(ducat, 4);
        register.crack(ducat, 9);
        int real = register.strike(ducat, 3);
        Check.same("strike", 0, real);
        int forged = register.cast(real);
        Check.same("cast", 1, forged);
        int fake = register.strike(forged, 2);
        Check.same("strike false ones", 3, fake);
        Check.same("couldBeOf", 0b11, register.couldBeOf(fake));
        Check.same("price of three", 5000, register.price(real));
        Check.same("proof", 0, register.proof(forged));
        Check.same("no proof", NONE, register.proof(ducat));
        Check.same("condemn", 2, register.condemn(forged));
        Check.no("isTrue", register.isTrue(fake));
        Check.same("price of a false one", 0, register.price(fake));
        Check.same("melt", NONE, register.melt(real + 1));
        Check.same("price of two", 6666, register.price(real));
    }
}
