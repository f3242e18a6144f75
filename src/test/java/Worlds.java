/** Worlds that several tests begin with. */
final class Worlds {
    private Worlds() {
    }

    /** 0 he, 30, and 1 she, 25, married without a land. */
    static KingTies couple() {
        KingTies x = new KingTies();
        x.come(true, 30);
        x.come(false, 25);
        x.marry(0, 1, -1);
        return x;
    }

    /** 0 he, 30, 1 she, 25, 2 he, 16, 3 she, 16: nobody is married. */
    static KingTies strangers() {
        KingTies x = new KingTies();
        x.come(true, 30);
        x.come(false, 25);
        x.come(true, 16);
        x.come(false, 16);
        return x;
    }

    /** Of a couple the twins 2 she and 3 he, and a year later the twins 4 he and 5 she; 0 rules the land 0 by the law 0. */
    static KingTies family() {
        KingTies x = couple();
        x.bear(1, false);
        x.bear(1, true);
        x.pass(1);
        x.bear(1, true);
        x.bear(1, false);
        x.found(5, 0, 0);
        return x;
    }

    /** A couple and 38 more from afar: 40 persons. */
    static KingTies full() {
        KingTies x = couple();
        for (int one = 2; one < 40; one++) {
            x.come(one % 2 == 0, 20);
        }
        return x;
    }

    /** A couple, and 2 who has died; 12 lands, of which the even ones are his. */
    static KingTies fullOfLands() {
        KingTies x = couple();
        x.come(true, 40);
        x.die(2);
        for (int land = 0; land < 12; land++) {
            x.found(1 + land, land % 4, land % 2 == 0 ? 0 : -1);
        }
        return x;
    }

    /**
     * Some of all: 0 and 1 are married with the land 0, which he gave; their children 2 he and 3 she; 4 he, 15;
     * 5 she, 20; 6 he, who has died and left the land 3 to nobody; 7 she, 59. The land 1 is hers, the land 2 nobody's.
     */
    static KingTies rich() {
        KingTies x = new KingTies();
        x.come(true, 30);
        x.come(false, 25);
        x.found(7, 0, 0);
        x.found(11, 1, 1);
        x.found(13, 3, -1);
        x.marry(0, 1, 0);
        x.bear(1, true);
        x.bear(1, false);
        x.come(true, 14);
        x.come(false, 19);
        x.come(true, 40);
        x.come(false, 58);
        x.found(5, 2, 6);
        x.pass(1);
        x.die(6);
        return x;
    }

    /** The land 0 changes its ruler so many times, between 0 he and 1 she, who are unmarried; he is the first one. */
    static KingTies changed(int times) {
        KingTies x = new KingTies();
        x.come(true, 20);
        x.come(false, 20);
        x.found(5, 0, 0);
        for (int turn = 0; turn < times; turn++) {
            if (turn % 2 == 0) {
                x.marry(0, 1, 0);
            } else {
                x.annul(0);
            }
        }
        return x;
    }

    /** Numbers that are none of 0 to end - 1. */
    static int[] notBelow(int end) {
        return new int[] {-1, end, end + 1, Integer.MIN_VALUE, Integer.MAX_VALUE};
    }

    /** Numbers that are none of 0 to end - 1, and not -1 either. */
    static int[] notBelowNorNone(int end) {
        return new int[] {-2, end, end + 1, Integer.MIN_VALUE, Integer.MAX_VALUE};
    }
}
