import java.math.BigInteger;
import java.util.ArrayList;
import java.util.List;

/** The sentences of the promises 13 (count), 14 (pass), 15 (rules), 16 (foresee), 17 (best), 18 (mean), 19 (digest). */
public final class YearsBoundaryTest {
    public static void main(String[] args) {
        Sentences.run(YearsBoundaryTest.class);
    }

    // ---- promise 13

    @Sentence(of = "Promise 13", says = "0 the year")
    static void promise13_what0IsTheYear() {
        KingTies x = new KingTies();
        Check.same("at first", x.count(0), 0);
        x.pass(1);
        Check.same("a year later", x.count(0), 1);
        x.pass(100);
        Check.same("100 years later", x.count(0), 101);
        for (int call = 0; call < 505; call++) {
            x.pass(100);
        }
        Check.same("as late as can be", x.count(0), 50601);
    }

    @Sentence(of = "Promise 13", says = "1 persons")
    static void promise13_what1IsPersons() {
        Check.same("none", new KingTies().count(1), 0);
        Check.same("40", Worlds.full().count(1), 40);
        KingTies x = Worlds.family();
        x.die(2);
        Check.same("those who came, those born, and the dead", x.count(1), 6);
    }

    @Sentence(of = "Promise 13", says = "2 those who live")
    static void promise13_what2IsThoseWhoLive() {
        Check.same("none", new KingTies().count(2), 0);
        KingTies x = Worlds.full();
        Check.same("40", x.count(2), 40);
        x.die(39);
        Check.same("39", x.count(2), 39);
        x.pass(100);
        Check.same("none any more", x.count(2), 0);
    }

    @Sentence(of = "Promise 13", says = "3 marriages")
    static void promise13_what3IsMarriages() {
        KingTies x = Worlds.strangers();
        Check.same("none", x.count(3), 0);
        x.marry(0, 1, -1);
        x.marry(3, 2, -1);
        Check.same("two", x.count(3), 2);
        x.annul(0);
        Check.same("one is annulled", x.count(3), 1);
        x.die(2);
        Check.same("one ended by a death", x.count(3), 0);
        KingTies y = new KingTies();
        for (int one = 0; one < 40; one++) {
            y.come(one < 20, 20);
        }
        for (int one = 0; one < 20; one++) {
            y.marry(one, one + 20, -1);
        }
        Check.same("the most", y.count(3), 20);
    }

    @Sentence(of = "Promise 13", says = "4 lands")
    static void promise13_what4IsLands() {
        Check.same("none", new KingTies().count(4), 0);
        Check.same("12", Worlds.fullOfLands().count(4), 12);
        KingTies x = Worlds.fullOfLands();
        x.die(0);
        Check.same("12 without a ruler", x.count(4), 12);
    }

    @Sentence(of = "Promise 13", says = "5 lands without a ruler")
    static void promise13_what5IsLandsWithoutARuler() {
        Check.same("none", new KingTies().count(5), 0);
        KingTies x = Worlds.fullOfLands();
        Check.same("6", x.count(5), 6);
        x.die(0);
        Check.same("12", x.count(5), 12);
        Check.same("none of a family", Worlds.family().count(5), 0);
    }

    @Sentence(of = "Promise 13", says = "6 rulers (each one once)")
    static void promise13_what6IsRulersEachOnce() {
        Check.same("none", new KingTies().count(6), 0);
        KingTies x = Worlds.fullOfLands();
        Check.same("one of six lands", x.count(6), 1);
        x.die(0);
        Check.same("none any more", x.count(6), 0);
        KingTies y = Worlds.full();
        for (int land = 0; land < 12; land++) {
            y.found(5, 0, 39 - land % 11);
        }
        Check.same("eleven of twelve lands", y.count(6), 11);
    }

    @Sentence(of = "Promise 13", says = "7 rulers younger than 16 (each one once)")
    static void promise13_what7IsYoungRulersEachOnce() {
        KingTies x = new KingTies();
        x.come(true, 15);
        x.come(true, 16);
        x.come(true, 0);
        x.come(true, 15);
        Check.same("none", x.count(7), 0);
        for (int one : new int[] {0, 0, 1, 2, 2, 2}) {
            x.found(5, 0, one);
        }
        Check.same("one of 15, and one of 0", x.count(7), 2);
        x.pass(1);
        Check.same("the one of 1", x.count(7), 1);
        x.pass(14);
        Check.same("the one of 15", x.count(7), 1);
        x.pass(1);
        Check.same("none any more", x.count(7), 0);
    }

    @Sentence(of = "Promise 13", says = "Throws `IndexOutOfBoundsException` if what is not 0 to 7")
    static void promise13_throwsIfWhatIsNot0To7() {
        for (int what : Worlds.notBelow(8)) {
            Twins.refuseIndex("count(" + what + ")", Worlds::rich, x -> x.count(what));
            Twins.refuseIndex("count(" + what + ") at first", KingTies::new, x -> x.count(what));
        }
        Check.same("count(0) is not refused", Worlds.rich().count(0), 1);
        Check.same("count(7) is not refused", Worlds.rich().count(7), 0);
    }

    // ---- promise 14

    @Sentence(of = "Promise 14", says = "Lets years go by.")
    static void promise14_yearsGoBy() {
        KingTies x = Worlds.family();
        x.pass(15);
        Check.same("the year", x.count(0), 16);
        Check.same("the age grows", passed(1).mean(), Worlds.strangers().mean() + 1.0);
        Check.same("the ruler stays", x.land(0, 2), 0);
        Check.same("the law stays", x.land(0, 1), 0);
        Check.same("the marriage stays", x.person(0, 5), 1);
    }

    private static KingTies passed(int years) {
        KingTies x = Worlds.strangers();
        x.pass(years);
        return x;
    }

    @Sentence(of = "Promise 14", says = "how many")
    static void promise14_asManyAreToldGoBy() {
        Check.same("1 year", passed(1).count(0), 1);
        Check.same("2 years", passed(2).count(0), 2);
        Check.same("100 years", passed(100).count(0), 100);
        KingTies x = Worlds.family();
        KingTies y = Worlds.family();
        int deaths = 0;
        for (int year = 0; year < 100; year++) {
            deaths += x.pass(1);
        }
        Check.same("100 years, one by one", y.pass(100), deaths);
        Check.same("and what they leave", y.digest(), x.digest());
    }

    @Sentence(of = "Promise 14", says = "Returns how many persons die in them.")
    static void promise14_theDeathsAreReturned() {
        KingTies x = new KingTies();
        Check.same("nobody is there", x.pass(100), 0);
        x.come(true, 60);
        x.come(true, 60);
        x.come(true, 59);
        x.come(true, 0);
        x.come(true, 0);
        x.die(4);
        Check.same("nobody dies", x.pass(19), 0);
        Check.same("two", x.pass(1), 2);
        Check.same("one", x.pass(1), 1);
        Check.same("the last one, not the one who had died", x.pass(100), 1);
        Check.same("nobody is left", x.pass(100), 0);
        Check.same("40 in one call", Worlds.full().pass(60), 40);
    }

    @Sentence(of = "Promise 14", says = "Throws `IllegalArgumentException` if years is not 1 to 100")
    static void promise14_throwsIfYearsIsNot1To100() {
        for (int years : new int[] {0, -1, 101, Integer.MIN_VALUE, Integer.MAX_VALUE}) {
            Twins.refuseArgument("pass(" + years + ")", Worlds::rich, x -> x.pass(years));
            Twins.refuseArgument("pass(" + years + ") at first", KingTies::new, x -> x.pass(years));
        }
        Check.same("pass(1) is not refused", Worlds.rich().pass(1), 0);
        Check.same("pass(100) is not refused", Worlds.rich().pass(100), 7);
    }

    // ---- promise 15

    /** 0 he, so old, who rules the land 0, and 1 she, 20; their newborn son 2; 3 he, a newborn stranger. */
    private static KingTies kingOf(int age) {
        KingTies x = new KingTies();
        x.come(true, age);
        x.come(false, 20);
        x.marry(0, 1, -1);
        x.bear(1, true);
        x.come(true, 0);
        x.found(5, 0, 0);
        return x;
    }

    @Sentence(of = "Promise 15", says = "a person")
    static void promise15_anyPersonIsAsked() {
        KingTies x = kingOf(20);
        int[] due = {0, -1, 60, -1};
        for (int one = 0; one < due.length; one++) {
            Check.same("rules(" + one + ")", x.rules(one), due[one]);
        }
        KingTies y = Worlds.full();
        y.found(5, 0, 39);
        Check.same("rules(39)", y.rules(39), 0);
    }

    @Sentence(of = "Promise 15", says = "Returns behind how many years this one rules a land, if nothing is done")
    static void promise15_theYearsAreReturned() {
        KingTies x = kingOf(60);
        Check.same("the son", x.rules(2), 20);
        x.pass(1);
        Check.same("the son, a year later", x.rules(2), 19);
        x.pass(18);
        Check.same("the son, in the next year", x.rules(2), 1);
        x.pass(1);
        Check.same("the son, now", x.rules(2), 0);
        Check.same("two behind one another", twoBehindOneAnother().rules(3), 64);
    }

    /** 0 he rules, 40 by now; his sons are 2, 16, who inherits from him, and 3, 1, who inherits from his brother. */
    private static KingTies twoBehindOneAnother() {
        KingTies x = new KingTies();
        x.come(true, 24);
        x.come(false, 24);
        x.marry(0, 1, -1);
        x.bear(1, true);
        x.pass(15);
        x.bear(1, true);
        x.pass(1);
        x.found(5, 0, 0);
        return x;
    }

    @Sentence(of = "Promise 15", says = "0 if this one does")
    static void promise15_0IfThisOneRules() {
        KingTies x = kingOf(60);
        Check.same("the king", x.rules(0), 0);
        x.pass(19);
        Check.same("the king at 79", x.rules(0), 0);
        x.found(5, 0, 3);
        x.found(5, 0, 3);
        Check.same("one of two lands", x.rules(3), 0);
    }

    @Sentence(of = "Promise 15", says = "at most 100")
    static void promise15_theLongestWait() {
        KingTies x = kingOf(20);
        x.pass(1);
        x.bear(1, true);
        Check.same("a newborn, behind his father and a brother of 1", x.rules(4), 79);
        KingTies y = new KingTies();
        y.come(true, 20);
        y.come(false, 20);
        y.marry(0, 1, -1);
        y.bear(1, true);
        y.found(5, 0, 2);
        y.pass(1);
        y.bear(1, true);
        Check.same("the longest wait that can be, as nobody is 80", y.rules(3), 79);
        Check.same("the ruler behind it", y.foresee(79, 0), 3);
        Check.same("the ruler a year ahead of it", y.foresee(78, 0), 2);
    }

    @Sentence(of = "Promise 15", says = "-1 if not by then")
    static void promise15_minus1IfNotByThen() {
        KingTies x = kingOf(20);
        Check.same("the stranger", x.rules(3), -1);
        Check.same("the wife", x.rules(1), -1);
        x.die(2);
        Check.same("one who has died", x.rules(2), -1);
        x.pass(60);
        Check.same("the king, who has died", x.rules(0), -1);
        Check.same("nobody without lands", Worlds.couple().rules(0), -1);
        KingTies y = Worlds.couple();
        y.bear(1, true);
        y.bear(1, true);
        y.found(5, 0, 2);
        Check.same("a twin, who inherits and dies in one year", y.rules(3), -1);
    }

    @Sentence(of = "Promise 15", says = "(nothing is changed).")
    static void promise15_nothingIsChanged() {
        Twins.answer("79", "rules(9)", YearsBoundaryTest::withAYoungRuler, x -> x.rules(9));
        Twins.answer("-1", "rules(7)", Worlds::rich, x -> x.rules(7));
        Twins.answer("-1", "rules(0) of one who is married", Worlds::rich, x -> x.rules(0));
        Twins.answer("0", "rules(1)", Worlds::rich, x -> x.rules(1));
        Twins.answer("54", "rules(2)", Worlds::rich, x -> x.rules(2));
    }

    /** The rich world a year later: 8 she, who is 1, rules the land 4; 9 she, her sister, has just been born. */
    private static KingTies withAYoungRuler() {
        KingTies x = Worlds.rich();
        x.found(5, 1, x.bear(1, false));
        x.pass(1);
        x.bear(1, false);
        return x;
    }

    @Sentence(of = "Promise 15", says = "Throws `IndexOutOfBoundsException` if there is no such person")
    static void promise15_throwsIfThereIsNoSuchPerson() {
        for (int one : Worlds.notBelow(8)) {
            Twins.refuseIndex("rules(" + one + ")", Worlds::rich, x -> x.rules(one));
        }
        for (int one : Worlds.notBelow(40)) {
            Twins.refuseIndex("rules(" + one + ") with 40", Worlds::full, x -> x.rules(one));
        }
    }

    // ---- promise 16

    @Sentence(of = "Promise 16", says = "how many, 1 to 100")
    static void promise16_theYearsAre1To100() {
        KingTies x = kingOf(60);
        Check.same("in 1 year", x.foresee(1, 0), 0);
        Check.same("in 19 years", x.foresee(19, 0), 0);
        Check.same("in 20 years", x.foresee(20, 0), 2);
        Check.same("in 79 years", x.foresee(79, 0), 2);
        Check.same("in 80 years", x.foresee(80, 0), -1);
        Check.same("in 100 years", x.foresee(100, 0), -1);
        x.pass(19);
        Check.same("in 1 year, in which the king dies", x.foresee(1, 0), 2);
    }

    @Sentence(of = "Promise 16", says = "a land")
    static void promise16_thisLandIsAsked() {
        KingTies x = Worlds.fullOfLands();
        for (int land = 0; land < 12; land++) {
            Check.same("foresee(1, " + land + ")", x.foresee(1, land), land % 2 == 0 ? 0 : -1);
        }
    }

    @Sentence(of = "Promise 16", says = "Returns its ruler behind so many years, if nothing is done")
    static void promise16_theRulerIsReturned() {
        KingTies x = Worlds.family();
        x.found(5, 2, 0);
        x.found(5, 3, 0);
        int[] due = {3, 5, 2};
        int[] last = {4, 5, 4};
        for (int land = 0; land < 3; land++) {
            Check.same("in 48 years", x.foresee(48, land), 0);
            Check.same("in 49 years, by its law", x.foresee(49, land), due[land]);
            Check.same("in 79 years, behind two deaths", x.foresee(79, land), last[land]);
            Check.same("in 80 years", x.foresee(80, land), -1);
        }
        x.setLaw(0, 2);
        Check.same("by the law that is set", x.foresee(49, 0), 5);
        x.die(5);
        Check.same("behind a death", x.foresee(49, 0), 4);
        x.pass(49);
        Check.same("as it comes", x.land(0, 2), 4);
        Check.same("as it comes by the law 3", x.land(2, 2), 2);
    }

    @Sentence(of = "Promise 16", says = "-1 for none")
    static void promise16_minus1ForNone() {
        KingTies x = Worlds.strangers();
        x.found(5, 0, -1);
        x.found(5, 0, 0);
        Check.same("no ruler now", x.foresee(1, 0), -1);
        Check.same("no ruler now or later", x.foresee(100, 0), -1);
        Check.same("no heir", x.foresee(50, 1), -1);
        Check.same("one of 79, a ruler still", x.foresee(49, 1), 0);
    }

    @Sentence(of = "Promise 16", says = "(nothing is changed).")
    static void promise16_nothingIsChanged() {
        for (int land = 0; land < 4; land++) {
            int asked = land;
            Twins.answer(land < 2 ? "1" : "-1", "foresee(1, " + land + ")", Worlds::rich, x -> x.foresee(1, asked));
            Twins.answer("-1", "foresee(100, " + land + ")", Worlds::rich, x -> x.foresee(100, asked));
        }
        Twins.answer("2", "foresee(54, 0)", Worlds::rich, x -> x.foresee(54, 0));
    }

    @Sentence(of = "Promise 16", says = "Throws `IllegalArgumentException` if years is not 1 to 100")
    static void promise16_throwsIfYearsIsNot1To100() {
        for (int years : new int[] {0, -1, 101, Integer.MIN_VALUE, Integer.MAX_VALUE}) {
            Twins.refuseArgument("foresee(" + years + ", 0)", Worlds::rich, x -> x.foresee(years, 0));
            Twins.refuseArgument("foresee(" + years + ", 4)", Worlds::rich, x -> x.foresee(years, 4));
            Twins.refuseArgument("foresee(" + years + ", -1)", Worlds::rich, x -> x.foresee(years, -1));
        }
        Check.same("foresee(1, 0) is not refused", Worlds.rich().foresee(1, 0), 1);
        Check.same("foresee(100, 0) is not refused", Worlds.rich().foresee(100, 0), -1);
    }

    @Sentence(of = "Promise 16", says = "Throws `IndexOutOfBoundsException` if there is no such land")
    static void promise16_throwsIfThereIsNoSuchLand() {
        for (int land : Worlds.notBelow(4)) {
            Twins.refuseIndex("foresee(1, " + land + ")", Worlds::rich, x -> x.foresee(1, land));
            Twins.refuseIndex("foresee(100, " + land + ")", Worlds::rich, x -> x.foresee(100, land));
        }
        for (int land : Worlds.notBelow(12)) {
            Twins.refuseIndex("foresee(1, " + land + ") with 12", Worlds::fullOfLands, x -> x.foresee(1, land));
        }
    }

    // ---- promise 17

    @Sentence(of = "Promise 17", says = "a person")
    static void promise17_anyPersonIsAsked() {
        KingTies x = Worlds.strangers();
        int[] due = {1, 0, 1, 0};
        for (int one = 0; one < due.length; one++) {
            Check.same("best(" + one + ")", x.best(one), due[one]);
        }
        Check.same("best(39)", Worlds.full().best(39), 2);
    }

    @Sentence(of = "Promise 17", says = "Returns of those whom this one could marry now (without a land)")
    static void promise17_whomThisOneCouldMarryNow() {
        KingTies x = new KingTies();
        x.come(true, 16);
        x.come(false, 15);
        x.come(true, 16);
        x.come(false, 40);
        x.found(50, 0, 1);
        x.found(50, 0, 2);
        Check.same("neither one of 15, nor a man", x.best(0), 3);
        x.pass(1);
        Check.same("one of 16", x.best(0), 1);
        x.marry(1, 2, -1);
        Check.same("not a married one", x.best(0), 3);
        x.die(3);
        Check.same("not one who has died", x.best(0), -1);
        x.annul(1);
        Check.same("one whose marriage is annulled", x.best(0), 1);
        theNearestWhoCouldMarry();
    }

    private static void theNearestWhoCouldMarry() {
        KingTies x = new KingTies();
        x.come(true, 16);
        x.come(false, 16);
        x.marry(0, 1, -1);
        x.bear(1, true);
        x.bear(1, false);
        x.bear(1, true);
        x.pass(16);
        x.come(false, 16);
        x.marry(4, 5, -1);
        x.bear(5, false);
        x.pass(16);
        x.annul(0);
        x.annul(4);
        x.die(5);
        x.found(50, 0, 3);
        x.found(40, 0, 1);
        x.found(30, 0, 6);
        Check.same("a niece, by 3 steps, but neither the sister nor the mother", x.best(2), 6);
        Check.same("nobody but his wife, for the father", x.best(0), 1);
        Check.same("nobody but her uncle, for the niece", x.best(6), 2);
    }

    @Sentence(of = "Promise 17", says = "the one whose lands have the most worth, added (0 without lands)")
    static void promise17_theMostWorth() {
        KingTies x = new KingTies();
        x.come(true, 20);
        x.come(false, 20);
        Check.same("one without lands", x.best(0), 1);
        x.come(false, 20);
        x.found(1, 0, 2);
        Check.same("the least worth", x.best(0), 2);
        x.found(2, 0, 1);
        Check.same("one more", x.best(0), 1);
        x.found(2, 0, 2);
        Check.same("two lands, added", x.best(0), 2);
        x.found(50, 0, 0);
        Check.same("one's own lands don't count", x.best(0), 2);
        x.found(1, 0, 2);
        x.found(3, 0, 1);
        Check.same("two lands of more worth than three", x.best(0), 1);
        x.found(50, 0, -1);
        Check.same("nobody's land does not count", x.best(1), 0);
    }

    @Sentence(of = "Promise 17", says = "of several the one with the smallest number")
    static void promise17_ofSeveralTheSmallestNumber() {
        KingTies x = new KingTies();
        x.come(true, 20);
        x.come(false, 20);
        x.come(false, 60);
        x.come(false, 16);
        Check.same("of three without lands", x.best(0), 1);
        x.found(5, 0, 3);
        x.found(2, 0, 2);
        x.found(3, 0, 2);
        Check.same("of two with 5", x.best(0), 2);
        x.found(5, 0, 1);
        Check.same("of three with 5", x.best(0), 1);
    }

    @Sentence(of = "Promise 17", says = "-1 if there is nobody.")
    static void promise17_minus1ForNobody() {
        KingTies x = new KingTies();
        x.come(true, 20);
        Check.same("alone", x.best(0), -1);
        x.come(true, 20);
        Check.same("with a man", x.best(0), -1);
        x.come(false, 15);
        Check.same("with one of 15", x.best(0), -1);
        Check.same("for one of 15", x.best(2), -1);
        KingTies y = Worlds.couple();
        y.come(true, 20);
        y.come(false, 20);
        Check.same("for a married man", y.best(0), -1);
        Check.same("for a married woman", y.best(1), -1);
        y.die(2);
        Check.same("for one who has died", y.best(2), -1);
        Check.same("without any unmarried man", y.best(3), -1);
    }

    @Sentence(of = "Promise 17", says = "Throws `IndexOutOfBoundsException` if there is no such person")
    static void promise17_throwsIfThereIsNoSuchPerson() {
        for (int one : Worlds.notBelow(8)) {
            Twins.refuseIndex("best(" + one + ")", Worlds::rich, x -> x.best(one));
        }
        for (int one : Worlds.notBelow(40)) {
            Twins.refuseIndex("best(" + one + ") with 40", Worlds::full, x -> x.best(one));
        }
    }

    // ---- promise 18

    @Sentence(of = "Promise 18", says = "Returns the mean age of all who live")
    static void promise18_theMeanAge() {
        KingTies x = new KingTies();
        x.come(true, 60);
        Check.same("of one", x.mean(), 60.0);
        x.come(true, 0);
        x.come(true, 0);
        Check.same("a third", x.mean(), 20.0);
        x.come(true, 1);
        Check.same("a quarter", x.mean(), 15.25);
        x.come(true, 0);
        x.come(true, 0);
        Check.same("a sixth", x.mean(), 61.0 / 6.0);
        x.pass(19);
        Check.same("19 years later", x.mean(), (61.0 + 6 * 19) / 6.0);
        x.pass(1);
        Check.same("without the dead", x.mean(), 101.0 / 5.0);
        Check.same("of 40", Worlds.full().mean(), (55.0 + 38 * 20) / 40.0);
        KingTies y = Worlds.couple();
        y.bear(1, true);
        Check.same("with a newborn", y.mean(), 55.0 / 3.0);
    }

    @Sentence(of = "Promise 18", says = "0 if nobody does.")
    static void promise18_0IfNobodyLives() {
        KingTies x = new KingTies();
        Check.same("nobody has come", x.mean(), 0.0);
        x.come(true, 20);
        x.come(true, 60);
        x.die(0);
        x.pass(20);
        Check.same("all have died", x.mean(), 0.0);
        x.come(true, 0);
        Check.same("a newborn alone", x.mean(), 0.0);
        x.pass(1);
        Check.same("one of 1 alone", x.mean(), 1.0);
    }

    // ---- promise 19

    static long digestOf(long... numbers) {
        long sum = 887;
        for (long number : numbers) {
            sum = sum * 31 + number;
        }
        return sum;
    }

    @Sentence(of = "Promise 19", says = "A number d starts with 887")
    static void promise19_itStartsWith887() {
        Check.same("a new world", new KingTies().digest(), 887L * 31 * 31 * 31 * 31 * 31 * 31 * 31 * 31);
    }

    @Sentence(of = "Promise 19", says = {"for each of the following numbers x, d becomes d * 31 + x, ",
        "what count() tells, in its order"})
    static void promise19_countsAreDigestedInTheirOrder() {
        KingTies x = new KingTies();
        x.pass(5);
        Check.same("the year alone", x.digest(), digestOf(5, 0, 0, 0, 0, 0, 0, 0));
        x.found(3, 2, -1);
        Check.same("a land without a ruler", x.digest(), digestOf(5, 0, 0, 0, 1, 1, 0, 0, 3, 2, -1, -1, -1, 0));
    }

    @Sentence(of = "Promise 19", says = "which wraps around as a 64-bit integer")
    static void promise19_itWrapsAround() {
        KingTies x = Worlds.rich();
        BigInteger sum = BigInteger.valueOf(887);
        for (int number : numbersOf(x)) {
            sum = sum.multiply(BigInteger.valueOf(31)).add(BigInteger.valueOf(number));
        }
        Check.same("more than 64 bits", sum.bitLength() > 64 ? 1 : 0, 1);
        Check.same("its last 64 bits", x.digest(), sum.longValue());
        Check.same("its sign is kept too", signsOfDigests(), 2);
    }

    /** How many of the signs -1 and 1 come up in digests of some years. */
    private static int signsOfDigests() {
        boolean less = false;
        boolean more = false;
        KingTies x = Worlds.rich();
        for (int year = 0; year < 60; year++) {
            long due = 887;
            for (int number : numbersOf(x)) {
                due = due * 31 + number;
            }
            Check.same("the digest of the year " + x.count(0), x.digest(), due);
            less |= due < 0;
            more |= due > 0;
            x = Worlds.rich();
            x.pass(year + 1);
        }
        return (less ? 1 : 0) + (more ? 1 : 0);
    }

    private static List<Integer> numbersOf(KingTies x) {
        List<Integer> numbers = new ArrayList<>();
        for (int what = 0; what < 8; what++) {
            numbers.add(x.count(what));
        }
        for (int one = 0; one < numbers.get(1); one++) {
            for (int what = 0; what < 10; what++) {
                numbers.add(x.person(one, what));
            }
        }
        for (int land = 0; land < numbers.get(4); land++) {
            for (int what = 0; what < 6; what++) {
                numbers.add(x.land(land, what));
            }
            int kept = Math.min(15, x.land(land, 5));
            for (int back = 0; back < kept; back++) {
                numbers.add(x.ruled(land, back));
            }
        }
        return numbers;
    }

    @Sentence(of = "Promise 19", says = "for each person what person() tells, in its order")
    static void promise19_personsAreDigestedInTheirOrder() {
        KingTies x = Worlds.couple();
        x.pass(2);
        x.bear(1, false);
        x.die(0);
        Check.same("three persons", x.digest(), digestOf(
            2, 3, 2, 0, 0, 0, 0, 0,
            1, -30, 0, -1, -1, -1, 1, 0, 0, 2,
            0, -25, 1, -1, -1, -1, 1, 0, 0, -1,
            0, 2, 1, 1, 0, -1, 0, 0, 0, -1));
        KingTies y = Worlds.full();
        long sum = digestOf(0, 40, 40, 1, 0, 0, 0, 0,
            1, -30, 1, -1, -1, 1, 0, 0, 0, -1,
            0, -25, 1, -1, -1, 0, 0, 0, 0, -1);
        for (int one = 2; one < 40; one++) {
            for (int number : new int[] {one % 2 == 0 ? 1 : 0, -20, 1, -1, -1, -1, 0, 0, 0, -1}) {
                sum = sum * 31 + number;
            }
        }
        Check.same("40 persons", y.digest(), sum);
    }

    @Sentence(of = "Promise 19", says = {"for each land what land() tells, in its order, and its rulers that are kept, "
        + "from the latest one back."})
    static void promise19_landsAreDigestedWithTheirRulers() {
        KingTies x = Worlds.family();
        x.found(9, 1, -1);
        x.die(0);
        x.die(1);
        Check.same("two lands", x.digest(), digestOf(
            1, 6, 4, 0, 2, 1, 1, 1,
            1, -30, 0, -1, -1, -1, 4, 0, 0, 1,
            0, -25, 0, -1, -1, -1, 4, 0, 0, 1,
            0, 0, 1, 1, 0, -1, 0, 0, 0, -1,
            1, 0, 1, 1, 0, -1, 0, 1, 5, -1,
            1, 1, 1, 1, 0, -1, 0, 0, 0, -1,
            0, 1, 1, 1, 0, -1, 0, 0, 0, -1,
            5, 0, 3, -1, 4, 2, 3, 0,
            9, 1, -1, -1, -1, 0));
        KingTies y = Worlds.changed(15);
        Check.same("15 of 16 rulers are kept", y.digest(), digestOf(
            0, 2, 2, 1, 1, 0, 1, 0,
            1, -20, 1, -1, -1, 1, 0, 0, 0, -1,
            0, -20, 1, -1, -1, 0, 0, 1, 5, -1,
            5, 0, 1, -1, -1, 16, 1, 0, 1, 0, 1, 0, 1, 0, 1, 0, 1, 0, 1, 0, 1));
    }

    @Sentence(of = "Promise 19", says = "Returns d.")
    static void promise19_theSameWorldHasTheSameDigest() {
        KingTies x = Worlds.rich();
        long first = x.digest();
        Check.same("asked again", x.digest(), first);
        Check.same("of a twin", Worlds.rich().digest(), first);
        x.setLaw(0, 3);
        Check.same("of another law", x.digest() == first ? 1 : 0, 0);
        x.setLaw(0, 0);
        Check.same("of the law set back", x.digest(), first);
    }
}
