/**
 * The edges of promises 1 to 10: the column. Each test says in its remark which sentence of the document it holds.
 */
public final class ColumnEdgeTest {
    private static final int[] HELD = {40, 60, 90};
    private static final int[] FREEZING = {120, 180, 240};

    public static void main(String[] args) {
        Check.all(ColumnEdgeTest.class);
    }

    // New objects

    /** Promise 1: "Creates a giant with calm belts and no storms." */
    private static void newWorldIsCalmAndEmpty() {
        Bandworld x = new Bandworld();
        for (int belt = 0; belt < 12; belt++) {
            Check.due("wind of " + belt, x.getWind(belt), 0);
        }
        Edge.refused("a first storm", Edge.INDEX, Edge::empty, y -> y.isThere(0));
        Check.yes("sound", x.isSound());
    }

    /** Promise 1: a world that is made shares nothing with one that was made before. */
    private static void newWorldHasNothingOfAnOtherOne() {
        Edge.busy(new Bandworld());
        Check.due("the sum of all that is 0", new Bandworld().checksum(), sumOfNew());
        Check.due("nothing noted", new Bandworld().happenings(), 0);
    }

    private static long sumOfNew() {
        long sum = 7;
        for (int level = 0; level < 10; level++) {
            sum = (sum * 31 + 100 + 20 * level) * 31;
        }
        for (int number = 0; number < 13; number++) {
            sum *= 31;
        }
        return sum;
    }

    // Temperatures

    /** Terms: "A level has a temperature, [..] 100 at first and 20 more for each level down." */
    private static void temperaturesAtFirst() {
        for (int level = 0; level < 10; level++) {
            Check.due("level " + level, new Bandworld().getTemperature(level), 100 + 20 * level);
        }
    }

    /** Promise 2, for the level: "Throws IndexOutOfBoundsException if there is no such level"; there are 0 to 9. */
    private static void setTemperatureOfLevels0To9() {
        Bandworld x = new Bandworld();
        Check.due("level 0", x.setTemperature(0, 300), 100);
        Check.due("level 9", x.setTemperature(9, 301), 280);
        Check.due("level 0 then", x.getTemperature(0), 300);
        Check.due("level 9 then", x.getTemperature(9), 301);
        for (int level : Edge.beyond(0, 9)) {
            Edge.refused("level " + level, Edge.INDEX, y -> y.setTemperature(level, 300));
        }
    }

    /** Promise 2: "Throws IllegalArgumentException if a number is out of range"; it is "50 to 999 as it is told". */
    private static void setTemperatureFrom50To999() {
        Bandworld x = new Bandworld();
        Check.due("50", x.setTemperature(4, 50), 180);
        Check.due("999 behind 50", x.setTemperature(4, 999), 50);
        Check.due("then", x.getTemperature(4), 999);
        for (int temperature : Edge.beyond(50, 999)) {
            Edge.refused("temperature " + temperature, Edge.ARGUMENT, y -> y.setTemperature(4, temperature));
        }
        Edge.refused("temperature 0", Edge.ARGUMENT, y -> y.setTemperature(4, 0));
    }

    /** Terms: "If several exceptions apply, the one that is documented first is thrown": promise 2. */
    private static void setTemperatureLooksAtTheLevelFirst() {
        Edge.refused("level 10 with 49", Edge.INDEX, y -> y.setTemperature(10, 49));
        Edge.refused("level -1 with 1000", Edge.INDEX, y -> y.setTemperature(-1, 1000));
    }

    /** Terms: "50 to 999 as it is told": by itself it may become more. */
    private static void temperatureGoesBeyond999ByTheCore() {
        Bandworld x = new Bandworld();
        x.setTemperature(8, 999);
        x.setTemperature(9, 999);
        x.setCore(9);
        x.turn(1);
        Check.due("warmer than can be told", x.getTemperature(9), 1008);
        Check.due("as the one before", x.setTemperature(9, 999), 1008);
        Check.yes("sound", x.isSound());
    }

    /** Promise 3: "Throws IndexOutOfBoundsException if there is no such level". */
    private static void getTemperatureOfLevels0To9() {
        Check.due("level 0", new Bandworld().getTemperature(0), 100);
        Check.due("level 9", new Bandworld().getTemperature(9), 280);
        for (int level : Edge.beyond(0, 9)) {
            Edge.refused("level " + level, Edge.INDEX, y -> y.getTemperature(level));
        }
    }

    // Vapours and ice

    /** Terms: "of each vapour [..] 0 at first, and ice of each, 0 at first". */
    private static void vapoursAndIceAtFirst() {
        Bandworld x = new Bandworld();
        for (int level = 0; level < 10; level++) {
            for (int vapour = 0; vapour < 3; vapour++) {
                Check.due("vapour", x.getVapour(level, vapour), 0);
                Check.due("ice", x.getIce(level, vapour), 0);
            }
        }
    }

    /** Promise 4, for the level: "Throws IndexOutOfBoundsException if there is no such level or vapour". */
    private static void setVapourOfLevels0To9() {
        Bandworld x = new Bandworld();
        Check.due("level 0", x.setVapour(0, 1, 5), 0);
        Check.due("level 9", x.setVapour(9, 1, 6), 0);
        Check.due("level 0 then", x.getVapour(0, 1), 5);
        Check.due("level 9 then", x.getVapour(9, 1), 6);
        for (int level : Edge.beyond(0, 9)) {
            Edge.refused("level " + level, Edge.INDEX, y -> y.setVapour(level, 1, 5));
        }
    }

    /** Promise 4, for the vapour: "The vapours are 0, 1 and 2". */
    private static void setVapourOfVapours0To2() {
        Bandworld x = new Bandworld();
        x.setVapour(5, 0, 7);
        x.setVapour(5, 2, 9);
        Check.due("vapour 0", x.setVapour(5, 0, 1), 7);
        Check.due("vapour 2", x.setVapour(5, 2, 1), 9);
        Check.due("vapour 1 is another one", x.getVapour(5, 1), 0);
        for (int vapour : Edge.beyond(0, 2)) {
            Edge.refused("vapour " + vapour, Edge.INDEX, y -> y.setVapour(5, vapour, 5));
        }
    }

    /** Promise 4: "Throws IllegalArgumentException if a number is out of range"; it is "0 to 20000". */
    private static void setVapourFrom0To20000() {
        Bandworld x = new Bandworld();
        Check.due("20000", x.setVapour(5, 0, 20000), 0);
        Check.due("0 behind 20000", x.setVapour(5, 0, 0), 20000);
        Check.due("then", x.getVapour(5, 0), 0);
        for (int amount : Edge.beyond(0, 20000)) {
            Edge.refused("amount " + amount, Edge.ARGUMENT, y -> y.setVapour(5, 0, amount));
        }
    }

    /** Terms: "the one that is documented first is thrown": promise 4. */
    private static void setVapourLooksAtLevelAndVapourFirst() {
        Edge.refused("level 10 with -1", Edge.INDEX, y -> y.setVapour(10, 0, -1));
        Edge.refused("vapour 3 with 20001", Edge.INDEX, y -> y.setVapour(0, 3, 20001));
        Edge.refused("vapour -1 with -1", Edge.INDEX, y -> y.setVapour(9, -1, -1));
        Edge.refused("all three", Edge.INDEX, y -> y.setVapour(-1, 3, 20001));
    }

    /** Terms: "0 to 20000 as it is told": by itself it may become more. */
    private static void vapourGoesBeyond20000ByAPlume() {
        Bandworld x = new Bandworld();
        x.setTemperature(9, 300);
        x.setVapour(9, 0, 20000);
        x.setVapour(3, 0, 20000);
        x.burst(0, 0);
        Check.due("more than can be told", x.getVapour(3, 0), 30000);
        Check.due("as the amount before", x.setVapour(3, 0, 20000), 30000);
        Check.yes("sound", x.isSound());
    }

    /** Promise 5: "Throws IndexOutOfBoundsException if there is no such level or vapour". */
    private static void getVapourOfLevelsAndVapours() {
        Bandworld x = new Bandworld();
        x.setVapour(0, 0, 3);
        x.setVapour(9, 2, 4);
        Check.due("the first", x.getVapour(0, 0), 3);
        Check.due("the last", x.getVapour(9, 2), 4);
        for (int level : Edge.beyond(0, 9)) {
            Edge.refused("level " + level, Edge.INDEX, y -> y.getVapour(level, 0));
        }
        for (int vapour : Edge.beyond(0, 2)) {
            Edge.refused("vapour " + vapour, Edge.INDEX, y -> y.getVapour(0, vapour));
        }
    }

    /** Promise 6: "Throws IndexOutOfBoundsException if there is no such level or vapour". */
    private static void getIceOfLevelsAndVapours() {
        Bandworld x = new Bandworld();
        x.setTemperature(9, 50);
        x.setVapour(0, 0, 6);
        x.setVapour(9, 2, 4);
        x.turn(1);
        Check.due("the first", x.getIce(0, 0), 3);
        Check.due("the last", x.getIce(9, 2), 4);
        for (int level : Edge.beyond(0, 9)) {
            Edge.refused("level " + level, Edge.INDEX, y -> y.getIce(level, 0));
        }
        for (int vapour : Edge.beyond(0, 2)) {
            Edge.refused("vapour " + vapour, Edge.INDEX, y -> y.getIce(0, vapour));
        }
    }

    // Decks

    /** Promise 7: "Throws IndexOutOfBoundsException if there is no such vapour". */
    private static void deckOfVapours0To2() {
        Bandworld x = new Bandworld();
        x.setVapour(1, 0, 8);
        x.setVapour(2, 2, 8);
        x.turn(1);
        Check.due("vapour 0", x.deck(0), 1);
        Check.due("vapour 2", x.deck(2), 2);
        for (int vapour : Edge.beyond(0, 2)) {
            Edge.refused("vapour " + vapour, Edge.INDEX, y -> y.deck(vapour));
        }
    }

    /** Promise 7: "Throws NoSuchElementException if there is none": no ice of it, though vapour, or ice of another. */
    private static void deckWithoutIce() {
        for (int v = 0; v < 3; v++) {
            int vapour = v;
            Edge.refused("nothing of " + vapour, Edge.NONE, Edge::empty, y -> y.deck(vapour));
            Edge.refused("vapour of " + vapour, Edge.NONE, y -> y.setVapour(9, vapour, 9), y -> y.deck(vapour));
        }
        Look.Story iceOf1 = y -> {
            y.setVapour(0, 1, 9);
            y.turn(1);
        };
        Edge.refused("ice of 1, none of 0", Edge.NONE, iceOf1, y -> y.deck(0));
        Edge.refused("ice of 1, none of 2", Edge.NONE, iceOf1, y -> y.deck(2));
    }

    /** Terms: "the one that is documented first is thrown": promise 7, where there is no ice either. */
    private static void deckLooksAtTheVapourFirst() {
        Edge.refused("vapour 3 without ice", Edge.INDEX, Edge::empty, y -> y.deck(3));
        Edge.refused("vapour -1 without ice", Edge.INDEX, Edge::empty, y -> y.deck(-1));
    }

    /** Promise 7: "in which level a vapour has the most ice, of like ones the highest, with the lowest number". */
    private static void deckOfLikeOnesIsTheHighest() {
        Bandworld x = new Bandworld();
        x.setVapour(3, 2, 10);
        x.turn(1);
        Check.due("5 in 3, 5 in 4", x.deck(2), 3);
        x.turn(1);
        // 2 stay in 3, 2 + 3 are in 4, 3 in 5.
        Check.due("5 in 4 alone", x.deck(2), 4);
    }

    /** Promise 7: the most ice may be in the first level and in the last one, and a grain is enough. */
    private static void deckAtBothEnds() {
        Bandworld x = new Bandworld();
        x.setVapour(0, 2, 2);
        x.turn(1);
        Check.due("1 in 0, 1 in 1", x.deck(2), 0);
        Bandworld y = new Bandworld();
        y.setTemperature(9, 50);
        y.setVapour(9, 0, 1);
        y.turn(1);
        Check.due("1 in 9", y.deck(0), 9);
    }

    // The core, what is lost, and pressures

    /** Promise 8: "Throws IllegalArgumentException if a number is out of range"; "the core, 0 to 9, 2 at first". */
    private static void setCoreFrom0To9() {
        Bandworld x = new Bandworld();
        Check.due("2 at first", x.setCore(0), 2);
        Check.due("0", x.setCore(9), 0);
        Check.due("9", x.setCore(9), 9);
        for (int heat : Edge.beyond(0, 9)) {
            Edge.refused("core " + heat, Edge.ARGUMENT, y -> y.setCore(heat));
        }
    }

    /** Terms: "first the level 9 becomes warmer by the core": by nothing, by 2, by 9, and no other level. */
    private static void coreWarmsTheLevel9() {
        for (int core : new int[] {0, 2, 9}) {
            Bandworld x = new Bandworld();
            x.setTemperature(9, 270);
            x.setCore(core);
            x.turn(1);
            Check.due("by " + core, x.getTemperature(9), 270 + core);
            Check.due("not the level 8", x.getTemperature(8), 260);
        }
    }

    /** Promise 9: "Returns how many degrees the level 0 lost so far": 0 at first, summed up over turns. */
    private static void radiatedFromNothing() {
        Bandworld x = new Bandworld();
        Check.due("at first", x.getRadiated(), 0);
        x.setTemperature(0, 300);
        x.turn(1);
        x.setTemperature(0, 201);
        x.turn(1);
        Check.due("3 and 2", x.getRadiated(), 5);
        x.setTemperature(0, 50);
        Check.due("telling less is not losing", x.getRadiated(), 5);
    }

    /** Terms: "Then the level 0 loses a hundredth of its temperature, cut". */
    private static void lossIsCut() {
        int[] temperatures = {50, 99, 100, 199, 200, 999};
        int[] due = {0, 0, 1, 1, 2, 9};
        for (int i = 0; i < due.length; i++) {
            Bandworld x = new Bandworld();
            x.setTemperature(1, 50);
            x.setTemperature(2, 50);
            x.setTemperature(0, temperatures[i]);
            x.turn(1);
            Check.due("lost of " + temperatures[i], x.getRadiated(), due[i]);
            Check.due("left of " + temperatures[i], x.getTemperature(0), temperatures[i] - due[i]);
        }
    }

    /** Promise 10: "Throws IndexOutOfBoundsException if there is no such level". */
    private static void pressureOfLevels0To9() {
        for (int level : Edge.beyond(0, 9)) {
            Edge.refused("level " + level, Edge.INDEX, y -> y.pressure(level));
        }
    }

    /** Terms: "The pressure of the level 0 is 0.1f, of each other one 2.0f times that above it." */
    private static void pressureAtBothEnds() {
        Bandworld x = new Bandworld();
        Check.due("level 0", x.pressure(0), 0.1f);
        Check.due("level 1", x.pressure(1), 0.1f * 2.0f);
        Check.due("level 9", x.pressure(9), 51.2f);
    }

    // Freezing and thawing

    /** The level 9 with a temperature and an amount of a vapour, behind a turn without core. */
    private static Bandworld frozen(int temperature, int vapour, int amount) {
        Bandworld x = new Bandworld();
        x.setCore(0);
        x.setTemperature(9, temperature);
        x.setVapour(9, vapour, amount);
        x.turn(1);
        return x;
    }

    /** Terms: "a level holds of them 40, 60 and 90 for each degree above 120, 180 and 240". */
    private static void holdsForEachDegreeAbove() {
        for (int vapour = 0; vapour < 3; vapour++) {
            for (int degrees = 0; degrees <= 2; degrees++) {
                int held = HELD[vapour] * degrees;
                Bandworld full = frozen(FREEZING[vapour] + degrees, vapour, held);
                Check.due("all of " + held + " stays", full.getVapour(9, vapour), held);
                Check.due("none of " + held + " freezes", full.getIce(9, vapour), 0);
                Bandworld more = frozen(FREEZING[vapour] + degrees, vapour, held + 1);
                Check.due("of one more " + held + " stay", more.getVapour(9, vapour), held);
                Check.due("of one more 1 freezes", more.getIce(9, vapour), 1);
            }
        }
    }

    /** Terms: "a level holds [..] 0 at least": below 120, 180 and 240 it holds nothing, and no less than that. */
    private static void holdsNothingAtLeast() {
        for (int vapour = 0; vapour < 3; vapour++) {
            for (int temperature : new int[] {50, FREEZING[vapour] - 1, FREEZING[vapour]}) {
                Bandworld x = frozen(temperature, vapour, 5);
                Check.due("5 at " + temperature, x.getIce(9, vapour), 5);
                Check.due("no vapour is left", x.getVapour(9, vapour), 0);
                Bandworld none = frozen(temperature, vapour, 0);
                Check.due("of nothing nothing freezes", none.getIce(9, vapour), 0);
                Check.due("and nothing is left", none.getVapour(9, vapour), 0);
            }
        }
    }

    /** Terms: "if it holds more, ice becomes vapour as far as it holds it": less, as much, and more than it holds. */
    private static void iceThawsAsFarAsHeld() {
        int[] ices = {79, 80, 81};
        int[] thawed = {79, 80, 80};
        for (int i = 0; i < ices.length; i++) {
            Bandworld x = frozen(120, 0, ices[i]);
            x.setTemperature(9, 122);
            x.turn(1);
            Check.due("vapour of " + ices[i], x.getVapour(9, 0), thawed[i]);
            Check.due("ice of " + ices[i], x.getIce(9, 0), ices[i] - thawed[i]);
        }
    }

    /** Terms: "if it holds more": where it holds just what is there, no ice becomes vapour; with one less one does. */
    private static void iceStaysWhereNoMoreIsHeld() {
        Bandworld x = frozen(122, 0, 100);
        x.turn(1);
        Check.due("80 are held", x.getVapour(9, 0), 80);
        Check.due("20 stay ice", x.getIce(9, 0), 20);
        x.setVapour(9, 0, 79);
        x.turn(1);
        Check.due("80 again", x.getVapour(9, 0), 80);
        Check.due("one thawed", x.getIce(9, 0), 19);
    }

    // Falling ice

    /** Terms: "from the level 8 up, half of the ice of each, rounded up, falls to the level below". */
    private static void halfOfTheIceFallsRoundedUp() {
        int[] ices = {1, 2, 3, 20000};
        int[] falling = {1, 1, 2, 10000};
        for (int vapour = 0; vapour < 3; vapour++) {
            for (int i = 0; i < ices.length; i++) {
                Bandworld x = new Bandworld();
                x.setVapour(0, vapour, ices[i]);
                x.turn(1);
                Check.due("stays of " + ices[i], x.getIce(0, vapour), ices[i] - falling[i]);
                Check.due("falls of " + ices[i], x.getIce(1, vapour), falling[i]);
            }
        }
    }

    /** Terms: "from the level 8 up": in a turn ice falls by one level alone, from the level 0 as from the level 8. */
    private static void iceFallsByOneLevelInATurn() {
        Bandworld x = new Bandworld();
        x.setVapour(0, 2, 1);
        for (int level = 1; level <= 7; level++) {
            x.turn(1);
            Check.due("the grain is in " + level, x.deck(2), level);
            Check.due("the grain alone", x.getIce(level, 2), 1);
        }
        Bandworld y = new Bandworld();
        y.setTemperature(8, 50);
        y.setVapour(8, 2, 1);
        y.turn(1);
        Check.due("from 8 to 9", y.getIce(9, 2), 1);
        Check.due("not thawed in the same turn", y.getVapour(9, 2), 0);
    }

    /** Terms: "from the level 8 up": from the level 9 no ice falls. */
    private static void iceStaysInTheLevel9() {
        Bandworld x = frozen(50, 2, 3);
        x.turn(200);
        Check.due("all of it", x.getIce(9, 2), 3);
        Check.yes("sound", x.isSound());
    }

    // Rising heat

    /** The levels 8 and 9 with 260 and some degrees more, behind a turn without core. */
    private static Bandworld warmed(int warmer, int amountBelow, int amountAbove) {
        Bandworld x = new Bandworld();
        x.setCore(0);
        x.setTemperature(9, 260 + warmer);
        x.setVapour(9, 0, amountBelow);
        x.setVapour(8, 0, amountAbove);
        x.turn(1);
        return x;
    }

    /** Terms: "if the one below is warmer by more than 25 [..] half of that what is more than 25, rounded up". */
    private static void heatRisesAbove25() {
        int[] warmer = {24, 25, 26, 27, 28, 29};
        int[] due = {0, 0, 1, 1, 2, 2};
        for (int i = 0; i < due.length; i++) {
            Bandworld x = warmed(warmer[i], 0, 0);
            Check.due("above, warmer by " + warmer[i], x.getTemperature(8), 260 + due[i]);
            Check.due("below, warmer by " + warmer[i], x.getTemperature(9), 260 + warmer[i] - due[i]);
        }
    }

    /** Terms: "from the level 8 up, each level and that below it": up to the level 0. */
    private static void heatRisesIntoTheLevel0() {
        Bandworld x = new Bandworld();
        for (int level = 0; level < 10; level++) {
            x.setTemperature(level, level == 0 ? 50 : 75);
        }
        x.turn(1);
        Check.due("25 warmer", x.getTemperature(0), 50);
        x.setTemperature(1, 76);
        x.turn(1);
        Check.due("26 warmer", x.getTemperature(0), 51);
        Check.due("from the level 1", x.getTemperature(1), 75);
    }

    /** Terms: "what is more than that is more than the weight of the one below is above that of this one". */
    private static void heatRisesAgainstLessWeight() {
        Check.due("5 more, 5 heavier", warmed(30, 5000, 0).getTemperature(9), 290);
        Check.due("6 more, 5 heavier: 3 of 6", warmed(31, 5000, 0).getTemperature(9), 288);
        Check.due("5 more, 6 and 1", warmed(30, 6000, 1000).getTemperature(9), 290);
        Check.due("5 more, 6 and 2: 3 of 5", warmed(30, 6000, 2000).getTemperature(9), 287);
        Check.due("1 more, lighter by 5", warmed(26, 0, 5000).getTemperature(9), 285);
        Check.due("0 more, lighter by 5", warmed(25, 0, 5000).getTemperature(9), 285);
        Check.due("1 less, lighter by 5", warmed(24, 0, 5000).getTemperature(9), 284);
    }

    /** Terms: "the weight of a level is a thousandth, cut, of its vapours and ice together". */
    private static void weightIsCut() {
        Check.due("999 below", warmed(26, 999, 0).getTemperature(9), 285);
        Check.due("1000 below", warmed(26, 1000, 0).getTemperature(9), 286);
        Check.due("1999 below, 1 more than 25", warmed(26, 1999, 999).getTemperature(9), 286);
        Check.due("1999 below, 2 more than 25", warmed(27, 1999, 999).getTemperature(9), 286);
        Check.due("1999 and 1000", warmed(26, 1999, 1000).getTemperature(9), 285);
    }

    /** Terms: "of its vapours and ice together": 400, 300 and 200 of vapour with 99 and 100 of ice. */
    private static void weightIsOfVapoursAndIceTogether() {
        for (int more = 0; more <= 1; more++) {
            Bandworld x = new Bandworld();
            x.setCore(0);
            x.setTemperature(8, 215);
            x.setTemperature(7, 215);
            x.setTemperature(9, 240);
            x.setVapour(9, 2, 99 + more);
            x.turn(1);
            Check.due("ice", x.getIce(9, 2), 99 + more);
            x.setTemperature(9, 241);
            x.setVapour(9, 0, 400);
            x.setVapour(9, 1, 300);
            x.setVapour(9, 2, 200);
            x.turn(1);
            // The level 9 holds 90 of the vapour 2 at 241: the 110 that freeze weigh on.
            Check.due("ice then", x.getIce(9, 2), 209 + more);
            Check.due(more == 0 ? "999 weigh nothing" : "1000 weigh", x.getTemperature(9), 240 + more);
        }
    }

    /** Terms: "and a tenth of each vapour, cut". */
    private static void tenthOfEachVapourRises() {
        int[] amounts = {0, 9, 10, 19, 20};
        int[] due = {0, 0, 1, 1, 2};
        for (int vapour = 0; vapour < 3; vapour++) {
            for (int i = 0; i < due.length; i++) {
                Bandworld x = new Bandworld();
                x.setTemperature(9, 286);
                x.setVapour(9, vapour, amounts[i]);
                x.turn(1);
                Check.due("up of " + amounts[i], x.getVapour(8, vapour), due[i]);
                Check.due("left of " + amounts[i], x.getVapour(9, vapour), amounts[i] - due[i]);
            }
        }
    }

    /** Terms: ice does not go up, nor does vapour where no heat does. */
    private static void nothingElseRises() {
        Bandworld ice = frozen(120, 0, 100);
        ice.setTemperature(8, 50);
        ice.setTemperature(7, 50);
        ice.setTemperature(6, 50);
        ice.turn(1);
        Check.yes("heat rose", ice.getTemperature(8) > 50);
        Check.due("no ice did", ice.getIce(9, 0), 100);
        Check.due("no vapour rises without heat", warmed(25, 900, 0).getVapour(8, 0), 0);
        Check.due("nor below a heavier level", warmed(25, 900, 5000).getVapour(8, 0), 5000);
    }
}
