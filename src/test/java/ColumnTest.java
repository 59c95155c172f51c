/** Promises 1 to 10: the column, told and gone on by turns. */
public final class ColumnTest {
    public static void main(String[] args) {
        newObject();
        temperatures();
        vapours();
        decks();
        core();
        pressures();
        phases();
        fallingIce();
        risingHeat();
        weights();
        radiation();
        orderOfTheTurn();
        Check.end();
    }

    private static void newObject() {
        Bandworld x = new Bandworld();
        for (int level = 0; level < 10; level++) {
            Check.due("new temperature " + level, x.getTemperature(level), 100 + 20 * level);
            for (int vapour = 0; vapour < 3; vapour++) {
                Check.due("new vapour", x.getVapour(level, vapour), 0);
                Check.due("new ice", x.getIce(level, vapour), 0);
            }
        }
        for (int belt = 0; belt < 12; belt++) {
            Check.due("new turning", x.getTurning(belt), 0);
            Check.due("new wind", x.getWind(belt), 0);
            Check.due("new shear", x.getShear(belt), 0);
        }
        Check.due("new radiated", x.getRadiated(), 0);
        Check.due("new deep", x.getDeep(), 0);
        Check.due("new happenings", x.happenings(), 0);
        Check.index("new: no storm", x, () -> x.isThere(0));
        Check.index("new: no scar", x, () -> x.getWidth(0));
        Check.index("new: no probe", x, () -> x.sent(0));
        Check.index("new: no frame", x, () -> x.countSeen(0));
        Check.index("new: no save", x, () -> x.load(0));
        Check.yes("new is sound", x.isSound());
        Check.due("new core", x.setCore(0), 2);
        Check.due("new drag", x.setDrag(0), 0);
        Check.due("first turn", x.turn(1), 1);
    }

    private static void temperatures() {
        Bandworld x = new Bandworld();
        Check.due("setTemperature(0, 50)", x.setTemperature(0, 50), 100);
        Check.due("setTemperature(0, 999)", x.setTemperature(0, 999), 50);
        Check.due("getTemperature(0)", x.getTemperature(0), 999);
        Check.due("setTemperature(9, 300)", x.setTemperature(9, 300), 280);
        Check.due("getTemperature(9)", x.getTemperature(9), 300);
        Check.due("the level 8 is as it was", x.getTemperature(8), 260);
        Check.argument("49", x, () -> x.setTemperature(0, 49));
        Check.argument("1000", x, () -> x.setTemperature(0, 1000));
        Check.argument("least int", x, () -> x.setTemperature(9, Integer.MIN_VALUE));
        Check.index("level -1", x, () -> x.setTemperature(-1, 100));
        Check.index("level 10", x, () -> x.setTemperature(10, 100));
        Check.index("level before number", x, () -> x.setTemperature(10, 49));
        Check.index("get level -1", x, () -> x.getTemperature(-1));
        Check.index("get level 10", x, () -> x.getTemperature(10));
        Check.index("get least level", x, () -> x.getTemperature(Integer.MIN_VALUE));
        Check.yes("sound", x.isSound());
    }

    private static void vapours() {
        Bandworld x = new Bandworld();
        Check.due("setVapour(9, 2, 20000)", x.setVapour(9, 2, 20000), 0);
        Check.due("setVapour(9, 2, 0)", x.setVapour(9, 2, 0), 20000);
        Check.due("setVapour(0, 0, 7)", x.setVapour(0, 0, 7), 0);
        Check.due("getVapour(0, 0)", x.getVapour(0, 0), 7);
        Check.due("getVapour(0, 1)", x.getVapour(0, 1), 0);
        Check.due("getVapour(1, 0)", x.getVapour(1, 0), 0);
        Check.argument("-1", x, () -> x.setVapour(0, 0, -1));
        Check.argument("20001", x, () -> x.setVapour(0, 0, 20001));
        Check.index("level -1", x, () -> x.setVapour(-1, 0, 0));
        Check.index("level 10", x, () -> x.setVapour(10, 0, 0));
        Check.index("vapour -1", x, () -> x.setVapour(0, -1, 0));
        Check.index("vapour 3", x, () -> x.setVapour(0, 3, 0));
        Check.index("vapour before amount", x, () -> x.setVapour(0, 3, -1));
        Check.index("level before amount", x, () -> x.setVapour(10, 0, 20001));
        Check.index("get level -1", x, () -> x.getVapour(-1, 0));
        Check.index("get level 10", x, () -> x.getVapour(10, 0));
        Check.index("get vapour -1", x, () -> x.getVapour(0, -1));
        Check.index("get vapour 3", x, () -> x.getVapour(0, 3));
        Check.index("ice level -1", x, () -> x.getIce(-1, 0));
        Check.index("ice level 10", x, () -> x.getIce(10, 0));
        Check.index("ice vapour -1", x, () -> x.getIce(0, -1));
        Check.index("ice vapour 3", x, () -> x.getIce(0, 3));
        x.turn(1);
        Check.due("what the top cannot hold is ice, half of it in it", x.getIce(0, 0), 3);
        x.setVapour(0, 0, 9);
        Check.due("telling a vapour leaves the ice", x.getIce(0, 0), 3);
        Check.yes("sound", x.isSound());
    }

    private static void decks() {
        Bandworld x = new Bandworld();
        Check.index("deck(-1)", x, () -> x.deck(-1));
        Check.index("deck(3)", x, () -> x.deck(3));
        Check.none("no ice at all", x, () -> x.deck(0));
        x.setVapour(3, 1, 100);
        Check.none("vapour is no ice", x, () -> x.deck(1));
        x.turn(1);
        Check.due("50 in 3 and 50 in 4: the highest", x.deck(1), 3);
        Check.none("no ice of another one", x, () -> x.deck(0));
        x.turn(1);
        // 25 stay in 3; 50 + 0 in 4, half of it to 5, and 25 from 3.
        Check.due("25 in 3, 50 in 4, 25 in 5", x.deck(1), 4);
        x.setVapour(0, 0, 2);
        x.turn(1);
        Check.due("the top itself", x.deck(0), 0);
        x.turn(1);
        Check.due("one grain falls whole", x.getIce(0, 0), 0);
        Check.due("both are in 1", x.deck(0), 1);
    }

    private static void core() {
        Bandworld x = new Bandworld();
        Check.argument("setCore(-1)", x, () -> x.setCore(-1));
        Check.argument("setCore(10)", x, () -> x.setCore(10));
        Check.due("setCore(9)", x.setCore(9), 2);
        Check.due("setCore(0)", x.setCore(0), 9);
        x.turn(1);
        Check.due("no core, no warmth", x.getTemperature(9), 280);
        x.setCore(5);
        x.turn(1);
        Check.due("core of 5", x.getTemperature(9), 285);
        Check.due("the core is kept", x.setCore(5), 5);
    }

    private static void pressures() {
        Bandworld x = new Bandworld();
        float due = 0.1f;
        for (int level = 0; level < 10; level++) {
            Check.due("pressure " + level, x.pressure(level), due);
            due *= 2.0f;
        }
        Check.index("pressure(-1)", x, () -> x.pressure(-1));
        Check.index("pressure(10)", x, () -> x.pressure(10));
    }

    /** A level holds 40, 60 and 90 for each degree above 120, 180 and 240, 0 at least. */
    private static void phases() {
        Bandworld x = new Bandworld();
        x.setCore(0);
        for (int vapour = 0; vapour < 3; vapour++) {
            for (int level = 0; level < 10; level++) {
                x.setVapour(level, vapour, 20000);
            }
        }
        x.turn(1);
        int[] first = {0, 0, 800, 1600, 2400, 3200, 4000, 4800, 5600, 6400};
        int[] second = {0, 0, 0, 0, 0, 1200, 2400, 3600, 4800, 6000};
        int[] third = {0, 0, 0, 0, 0, 0, 0, 0, 1800, 3600};
        for (int level = 0; level < 10; level++) {
            Check.due("held of 0 in " + level, x.getVapour(level, 0), first[level]);
            Check.due("held of 1 in " + level, x.getVapour(level, 1), second[level]);
            Check.due("held of 2 in " + level, x.getVapour(level, 2), third[level]);
        }
        Check.due("ice of 0 in 0", x.getIce(0, 0), 10000);
        Check.due("ice of 0 in 9", x.getIce(9, 0), 13600 + 7200);
        Check.yes("sound", x.isSound());

        Bandworld y = new Bandworld();
        y.setCore(0);
        y.setVapour(1, 0, 1001);
        y.turn(1);
        Check.due("501 fell into the level 2", y.getIce(2, 0), 501);
        y.turn(1);
        Check.due("it holds 800: all becomes vapour", y.getVapour(2, 0), 501);
        Check.due("250 came behind", y.getIce(2, 0), 250);
        y.turn(1);
        Check.due("all of that too", y.getVapour(2, 0), 751);
        y.turn(1);
        Check.due("as far as it holds it", y.getVapour(2, 0), 800);
        // 1001 -> 500 -> 250 -> 125 -> 62: 125 came, 49 of it thawed, 76 were ice, 38 fell, 63 came.
        Check.due("ice that it cannot hold falls on by half", y.getIce(2, 0), 38 + 63);
        Check.due("the level 3 got that half", y.getIce(3, 0), 38);
        Check.yes("sound", y.isSound());
    }

    private static void fallingIce() {
        Bandworld x = new Bandworld();
        x.setVapour(0, 0, 5);
        x.turn(1);
        Check.due("rounded up, 3 of 5 fall", x.getIce(1, 0), 3);
        Check.due("2 of 5 stay", x.getIce(0, 0), 2);
        Check.due("no more than a level in a turn", x.getIce(2, 0), 0);
        x.setTemperature(9, 50);
        x.setVapour(9, 2, 11);
        x.turn(3);
        Check.due("from the level 9 nothing falls", x.getIce(9, 2), 11);
    }

    /** The pair of the levels 8 and 9 with 260 and what is told, without weight and core. */
    private static Bandworld warmBelow(int temperature) {
        Bandworld x = new Bandworld();
        x.setCore(0);
        x.setTemperature(9, temperature);
        return x;
    }

    private static void risingHeat() {
        Bandworld x = warmBelow(285);
        x.setVapour(9, 0, 19);
        x.turn(1);
        Check.due("25 warmer does not rise", x.getTemperature(9), 285);
        Check.due("nor its vapour", x.getVapour(8, 0), 0);
        x.setTemperature(9, 286);
        x.turn(1);
        Check.due("26 warmer: 1 rises", x.getTemperature(9), 285);
        Check.due("to the level 8", x.getTemperature(8), 261);
        Check.due("a tenth of 19, cut", x.getVapour(8, 0), 1);
        Check.due("the rest stays", x.getVapour(9, 0), 18);

        Bandworld y = warmBelow(287);
        y.turn(1);
        Check.due("2 more: 1 rises", y.getTemperature(9), 286);
        Check.due("2 more: 1 comes", y.getTemperature(8), 261);

        Bandworld z = warmBelow(700);
        z.turn(1);
        int[] due = {99, 120, 140, 162, 187, 213, 247, 293, 366, 492};
        for (int level = 0; level < 10; level++) {
            Check.due("heat that goes up by many levels, " + level, z.getTemperature(level), due[level]);
        }
        Check.yes("sound", z.isSound());
    }

    private static void weights() {
        Bandworld x = warmBelow(290);
        x.setVapour(9, 0, 5000);
        x.turn(1);
        Check.due("5 more, 5 heavier: no", x.getTemperature(9), 290);
        x.setTemperature(9, 291);
        x.turn(1);
        Check.due("6 more, 5 heavier: half of 6", x.getTemperature(9), 288);
        Check.due("6 more, 5 heavier, above", x.getTemperature(8), 263);
        Check.due("a tenth of 5000", x.getVapour(8, 0), 500);

        Bandworld y = warmBelow(289);
        y.setVapour(9, 0, 5000);
        y.setVapour(8, 1, 2000);
        y.turn(1);
        Check.due("4 more, 3 heavier: half of 4", y.getTemperature(9), 287);

        Bandworld light = warmBelow(286);
        light.setVapour(9, 0, 999);
        light.turn(1);
        Check.due("999 has no weight", light.getTemperature(9), 285);

        Bandworld mixed = warmBelow(286);
        mixed.setVapour(9, 0, 999);
        mixed.setVapour(9, 1, 1);
        mixed.turn(1);
        Check.due("all vapours together weigh 1", mixed.getTemperature(9), 286);

        Bandworld iced = warmBelow(290);
        iced.setVapour(9, 2, 5000);
        iced.turn(1);
        Check.due("500 of it are ice", iced.getIce(9, 2), 500);
        Check.due("ice weighs too", iced.getTemperature(9), 290);

        Bandworld heavyAbove = warmBelow(286);
        heavyAbove.setVapour(8, 0, 5000);
        heavyAbove.turn(1);
        Check.due("a heavier one above hinders nothing", heavyAbove.getTemperature(9), 285);

        Bandworld cold = warmBelow(284);
        cold.setVapour(8, 0, 5000);
        cold.turn(1);
        Check.due("nor does it draw what is not warm enough", cold.getTemperature(9), 284);
    }

    private static void radiation() {
        Bandworld x = new Bandworld();
        x.setTemperature(0, 99);
        x.turn(1);
        Check.due("a hundredth of 99, cut", x.getRadiated(), 0);
        x.setTemperature(0, 999);
        x.turn(1);
        Check.due("a hundredth of 999, cut", x.getRadiated(), 9);
        Check.due("it is lost", x.getTemperature(0), 990);
        x.turn(1);
        Check.due("it is summed up", x.getRadiated(), 18);
        Check.due("again", x.getTemperature(0), 981);
        Check.yes("sound", x.isSound());
    }

    private static void orderOfTheTurn() {
        Bandworld x = new Bandworld();
        x.setTemperature(9, 284);
        x.turn(1);
        Check.due("the core comes before rising", x.getTemperature(9), 285);

        Bandworld y = new Bandworld();
        y.setVapour(9, 2, 3780);
        y.turn(1);
        Check.due("the core comes before freezing", y.getIce(9, 2), 0);

        Bandworld z = new Bandworld();
        z.setCore(0);
        z.setTemperature(1, 200);
        z.turn(1);
        // 100 and 200: half of 75, rounded up, is 38; then 138 loses 1.
        Check.due("the loss comes behind rising", z.getTemperature(0), 137);
        Check.due("that is 1", z.getRadiated(), 1);

        Bandworld w = warmBelow(286);
        w.setTemperature(8, 255);
        w.setVapour(8, 2, 3350);
        w.turn(1);
        // The level 8 holds 1350, 1000 of the 2000 that freeze fall; the level 9 thaws none of them in this turn.
        Check.due("ice falls behind freezing", w.getIce(9, 2), 1000);
        // 286 - 255 - 25 is 6, half is 3.
        Check.due("then heat rises", w.getTemperature(8), 258);
    }
}
