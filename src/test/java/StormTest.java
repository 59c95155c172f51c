/** Promises 18 to 25: storms, their names, ways, mergers, deaths and splits. */
public final class StormTest {
    public static void main(String[] args) {
        adding();
        naming();
        moving();
        ages();
        meeting();
        whoLivesOn();
        pairsInOrder();
        namesLiveOn();
        livesOn();
        shear();
        splits();
        roomForSplits();
        orderOfTheTurn();
        Check.end();
    }

    private static void adding() {
        Bandworld x = new Bandworld();
        Check.due("addStorm(0, 0, 10)", x.addStorm(0, 0, 10), 0);
        Check.due("addStorm(11, 3599, 400)", x.addStorm(11, 3599, 400), 1);
        Check.due("getLongitude(0)", x.getLongitude(0), 0);
        Check.due("getLongitude(1)", x.getLongitude(1), 3599);
        Check.due("getSize(0)", x.getSize(0), 10);
        Check.due("getSize(1)", x.getSize(1), 400);
        Check.yes("isThere(1)", x.isThere(1));
        Check.due("getAge(1)", x.getAge(1), 0);
        Check.due("adding is not noted", x.happenings(), 0);
        Check.index("belt -1", x, () -> x.addStorm(-1, 0, 10));
        Check.index("belt 12", x, () -> x.addStorm(12, 0, 10));
        Check.argument("longitude -1", x, () -> x.addStorm(0, -1, 10));
        Check.argument("longitude 3600", x, () -> x.addStorm(0, 3600, 10));
        Check.argument("size 9", x, () -> x.addStorm(0, 0, 9));
        Check.argument("size 401", x, () -> x.addStorm(0, 0, 401));
        Check.index("belt before number", x, () -> x.addStorm(12, -1, 9));
        for (int storm = 2; storm < 12; storm++) {
            Check.due("storm " + storm, x.addStorm(5, 300 * storm, 10), storm);
        }
        Check.state("a 13th", x, () -> x.addStorm(0, 0, 10));
        Check.argument("number before room", x, () -> x.addStorm(0, 0, 9));
        Check.index("belt before room", x, () -> x.addStorm(12, 0, 10));
        // The two at 600 and 900 in the belt 5 do not meet, but a strong shear takes all of the belts 4 to 6.
        x.setTurning(6, 3000);
        x.setTurning(4, -3000);
        x.turn(1);
        Check.no("gone", x.isThere(2));
        Check.state("those that are gone count", x, () -> x.addStorm(0, 0, 10));
        for (int bad : new int[] {-1, 12, Integer.MIN_VALUE, Integer.MAX_VALUE}) {
            Check.index("getLongitude", x, () -> x.getLongitude(bad));
            Check.index("getSize", x, () -> x.getSize(bad));
            Check.index("getAge", x, () -> x.getAge(bad));
            Check.index("isThere", x, () -> x.isThere(bad));
            Check.index("livesIn", x, () -> x.livesIn(bad));
            Check.index("nameStorm", x, () -> x.nameStorm(bad, 'A'));
        }
        Check.none("longitude of one that is gone", x, () -> x.getLongitude(2));
        Check.none("size of one that is gone", x, () -> x.getSize(2));
        Check.due("age of one that is gone", x.getAge(2), 1);
        Check.none("lives on nowhere", x, () -> x.livesIn(2));
        Check.yes("sound", x.isSound());
    }

    private static void naming() {
        Bandworld x = new Bandworld();
        Check.index("no storm yet", x, () -> x.nameStorm(0, 'A'));
        x.addStorm(0, 0, 10);
        x.addStorm(1, 0, 10);
        Check.index("storm 2", x, () -> x.nameStorm(2, 'A'));
        Check.index("storm before name", x, () -> x.nameStorm(2, 'a'));
        Check.argument("'@'", x, () -> x.nameStorm(0, '@'));
        Check.argument("'['", x, () -> x.nameStorm(0, '['));
        Check.argument("'-'", x, () -> x.nameStorm(0, '-'));
        Check.argument("'a'", x, () -> x.nameStorm(0, 'a'));
        Check.due("nameStorm(0, 'A')", x.nameStorm(0, 'A'), '-');
        Check.due("nameStorm(1, 'Z')", x.nameStorm(1, 'Z'), '-');
        Check.unsupported("another one has it", x, () -> x.nameStorm(1, 'A'));
        Check.due("its own name again", x.nameStorm(1, 'Z'), 'Z');
        Check.due("in place of another name", x.nameStorm(0, 'B'), 'A');
        Check.due("findName('B')", x.findName('B'), 0);
        Check.none("'A' is free", x, () -> x.findName('A'));
        Check.due("so it can be given", x.nameStorm(1, 'A'), 'Z');
        Check.due("findName('A')", x.findName('A'), 1);
        Check.argument("findName('a')", x, () -> x.findName('a'));
        Check.argument("findName('-')", x, () -> x.findName('-'));
        Check.argument("findName('@')", x, () -> x.findName('@'));
        Check.argument("findName('[')", x, () -> x.findName('['));
        x.setTurning(0, 3000);
        x.turn(1);
        Check.no("both are torn", x.isThere(0) || x.isThere(1));
        Check.none("a name goes with its storm", x, () -> x.findName('B'));
        Check.unsupported("one that is gone", x, () -> x.nameStorm(0, 'C'));
        Check.unsupported("not by its own name either", x, () -> x.nameStorm(0, 'B'));
        Check.argument("name before gone", x, () -> x.nameStorm(0, 'b'));
        x.addStorm(6, 0, 10);
        Check.due("a name that was", x.nameStorm(2, 'B'), '-');
    }

    private static void moving() {
        Bandworld x = new Bandworld();
        x.setTurning(5, 109);
        x.setTurning(6, -109);
        x.addStorm(5, 3595, 10);
        x.addStorm(6, 5, 10);
        x.addStorm(8, 5, 10);
        x.turn(1);
        Check.due("round to the east", x.getLongitude(0), 5);
        Check.due("round to the west", x.getLongitude(1), 3595);
        Check.due("calm", x.getLongitude(2), 5);
        x.turn(10);
        Check.due("ten more", x.getLongitude(0), 105);
        Check.due("ten more back", x.getLongitude(1), 3495);

        Bandworld y = new Bandworld();
        for (int i = 0; i < 10; i++) {
            y.stir(1, 0, 3000);
        }
        y.addStorm(0, 0, 400);
        y.turn(1);
        Check.due("15000 is four times round and 600 more", y.getLongitude(0), 600);
    }

    private static void ages() {
        Bandworld x = new Bandworld();
        x.addStorm(0, 0, 10);
        x.turn(3);
        x.addStorm(1, 0, 10);
        x.turn(2);
        Check.due("age 5", x.getAge(0), 5);
        Check.due("age 2", x.getAge(1), 2);
        x.setTurning(0, 3000);
        x.turn(4);
        Check.no("torn in the first of them", x.isThere(0));
        Check.due("the turn in which it went counts", x.getAge(0), 6);
    }

    /** Two in the belt 5 without wind; returns whether they met. */
    private static boolean doMeet(int longitude, int size, int other, int otherSize) {
        Bandworld x = new Bandworld();
        x.addStorm(5, longitude, size);
        x.addStorm(5, other, otherSize);
        x.turn(1);
        return x.happenings() > 0;
    }

    private static void meeting() {
        Check.yes("9 apart of 10 and 11", doMeet(0, 10, 9, 11));
        Check.no("10 apart of 10 and 11, cut", doMeet(0, 10, 10, 11));
        Check.yes("10 apart of 11 and 11", doMeet(20, 11, 10, 11));
        Check.no("11 apart of 11 and 11", doMeet(20, 11, 9, 11));
        Check.yes("round the longitudes", doMeet(3595, 11, 5, 11));
        Check.no("round, too far", doMeet(3595, 11, 6, 11));
        Check.yes("round, the other way", doMeet(4, 10, 3595, 10));
        Check.yes("at one place", doMeet(7, 10, 7, 10));

        Bandworld x = new Bandworld();
        x.addStorm(5, 0, 100);
        x.addStorm(6, 0, 100);
        x.turn(1);
        Check.due("of two belts none meet", x.happenings(), 0);

        Bandworld y = new Bandworld();
        y.addStorm(5, 0, 10);
        y.addStorm(5, 5, 11);
        y.turn(1);
        Check.due("the root of 221, whole", y.getSize(1), 14);
        Check.due("it stays where it was", y.getLongitude(1), 5);
        Check.due("a merger", y.happening(0), 'm');
        Check.due("by the one that lives on", y.happenedTo(0), 1);

        Bandworld z = new Bandworld();
        z.addStorm(5, 0, 30);
        z.addStorm(5, 5, 40);
        z.turn(1);
        Check.due("the root of a square", z.getSize(1), 50);
    }

    private static void whoLivesOn() {
        Bandworld x = new Bandworld();
        x.addStorm(5, 0, 100);
        x.addStorm(5, 5, 99);
        x.addStorm(7, 0, 99);
        x.addStorm(7, 5, 100);
        x.addStorm(9, 0, 100);
        x.addStorm(9, 5, 100);
        x.turn(1);
        Check.yes("the greater one, lower", x.isThere(0) && !x.isThere(1));
        Check.yes("the greater one, higher", x.isThere(3) && !x.isThere(2));
        Check.yes("of like ones the lower number", x.isThere(4) && !x.isThere(5));

        Bandworld y = new Bandworld();
        y.addStorm(5, 0, 100);
        y.turn(1);
        y.addStorm(5, 5, 100);
        y.turn(1);
        Check.yes("the older one", y.isThere(0) && !y.isThere(1));
    }

    private static void pairsInOrder() {
        Bandworld x = new Bandworld();
        x.addStorm(5, 0, 100);
        x.addStorm(5, 60, 100);
        x.addStorm(5, 115, 100);
        x.turn(1);
        Check.yes("0 takes 1, and then reaches 2", x.isThere(0) && !x.isThere(1) && !x.isThere(2));
        Check.due("141 and 100", x.getSize(0), 172);
        Check.due("two mergers", x.happenings(), 2);
        Check.due("both by 0", x.happenedTo(0) + x.happenedTo(1), 0);

        Bandworld y = new Bandworld();
        y.addStorm(5, 0, 50);
        y.addStorm(5, 20, 100);
        y.addStorm(5, 30, 60);
        y.turn(1);
        Check.yes("1 takes 0, then 2", !y.isThere(0) && y.isThere(1) && !y.isThere(2));
        Check.due("111 and 60", y.getSize(1), 126);
        Check.due("2 lives in 1", y.livesIn(2), 1);

        Bandworld z = new Bandworld();
        z.addStorm(5, 0, 50);
        z.addStorm(5, 60, 100);
        z.addStorm(5, 110, 100);
        z.turn(1);
        // 0 and 1 meet first: 1 has 111 and takes 2, which is 50 away.
        Check.due("the root of 111 and 100 in squares", z.getSize(1), 149);

        Bandworld w = new Bandworld();
        w.addStorm(5, 0, 60);
        w.addStorm(5, 100, 60);
        w.addStorm(5, 50, 100);
        w.turn(1);
        // 0 and 1 do not meet, 2 takes 0, then 1.
        Check.due("0 lives in 2", w.livesIn(0), 2);
        Check.due("1 lives in 2", w.livesIn(1), 2);
        Check.due("116 and 60", w.getSize(2), 130);
    }

    private static void namesLiveOn() {
        Bandworld x = new Bandworld();
        x.addStorm(5, 0, 100);
        x.addStorm(5, 5, 99);
        x.nameStorm(1, 'B');
        x.turn(1);
        Check.due("it takes the name", x.findName('B'), 0);

        Bandworld y = new Bandworld();
        y.addStorm(5, 0, 100);
        y.addStorm(5, 5, 99);
        y.nameStorm(0, 'A');
        y.nameStorm(1, 'B');
        y.turn(1);
        Check.due("it has one already", y.findName('A'), 0);
        Check.none("the other one goes", y, () -> y.findName('B'));
        Check.due("and is free", y.nameStorm(0, 'B'), 'A');

        Bandworld z = new Bandworld();
        z.addStorm(5, 0, 100);
        z.addStorm(5, 5, 99);
        z.turn(1);
        Check.due("none of both has one", z.nameStorm(0, 'C'), '-');
    }

    private static void livesOn() {
        Bandworld x = new Bandworld();
        x.addStorm(5, 0, 20);
        x.addStorm(5, 5, 30);
        Check.due("in itself", x.livesIn(0), 0);
        x.turn(1);
        x.addStorm(5, 10, 60);
        Check.due("in 1", x.livesIn(0), 1);
        x.turn(1);
        Check.due("by several mergers", x.livesIn(0), 2);
        Check.due("by one merger", x.livesIn(1), 2);
        Check.due("the one that is there", x.livesIn(2), 2);
        x.setTurning(4, 3000);
        x.turn(40);
        Check.no("torn", x.isThere(2));
        Check.none("0 lives on no more", x, () -> x.livesIn(0));
        Check.none("1 lives on no more", x, () -> x.livesIn(1));
        Check.none("2 lives on no more", x, () -> x.livesIn(2));
    }

    private static void shear() {
        Bandworld x = new Bandworld();
        x.setTurning(4, 900);
        x.addStorm(5, 0, 200);
        x.turn(1);
        Check.due("a shear of 100 takes nothing", x.getSize(0), 200);
        x.setTurning(4, 909);
        x.turn(1);
        Check.due("a shear of 101 takes a tenth", x.getSize(0), 180);

        Bandworld y = new Bandworld();
        y.setTurning(4, -909);
        y.addStorm(5, 0, 19);
        y.addStorm(5, 100, 10);
        y.addStorm(5, 200, 29);
        y.turn(1);
        Check.due("a tenth of 19, cut", y.getSize(0), 18);
        Check.due("a tenth of 29, cut", y.getSize(2), 27);
        Check.no("below 10 it is gone", y.isThere(1));
        Check.due("one thing is noted", y.happenings(), 1);
        Check.due("a storm gone by shear", y.happening(0), 'd');
        Check.due("that one", y.happenedTo(0), 1);
        y.turn(8);
        Check.due("10 is not below 10", y.getSize(0), 10);
        y.turn(1);
        Check.no("9 is", y.isThere(0));
        Check.yes("sound", y.isSound());
    }

    private static void splits() {
        Bandworld x = new Bandworld();
        x.addStorm(5, 3500, 301);
        x.addStorm(8, 0, 300);
        x.nameStorm(0, 'S');
        x.turn(1);
        Check.due("301 without a third", x.getSize(0), 201);
        Check.due("a third of 301, cut", x.getSize(2), 100);
        Check.due("farther on by 301, round", x.getLongitude(2), 201);
        Check.due("300 does not split", x.getSize(1), 300);
        Check.index("no other one", x, () -> x.isThere(3));
        Check.due("the age of the new one", x.getAge(2), 0);
        Check.due("the age of the old one", x.getAge(0), 1);
        Check.due("it lives in itself", x.livesIn(2), 2);
        Check.due("a split", x.happening(0), 's');
        Check.due("by the new one", x.happenedTo(0), 2);
        Check.due("the name stays", x.findName('S'), 0);
        Check.due("the new one has none", x.nameStorm(2, 'T'), '-');
        x.setTurning(5, 20);
        x.turn(1);
        Check.due("it is in the belt", x.getLongitude(2), 203);
        Check.due("it grows older", x.getAge(2), 1);
    }

    private static void roomForSplits() {
        Bandworld x = new Bandworld();
        for (int storm = 0; storm < 11; storm++) {
            x.addStorm(storm, 0, storm >= 9 ? 400 : 10);
        }
        x.turn(1);
        Check.due("the first one splits", x.getSize(9), 267);
        Check.due("the new one", x.getSize(11), 133);
        Check.due("the other one has no room", x.getSize(10), 400);
        Check.due("one thing is noted", x.happenings(), 1);
        x.turn(3);
        Check.due("nor later", x.getSize(10), 400);
        Check.yes("sound", x.isSound());
    }

    private static void orderOfTheTurn() {
        Bandworld x = new Bandworld();
        x.setTurning(5, 500);
        x.setTurning(4, 900);
        x.setTurning(6, -700);
        x.addStorm(5, 0, 320);
        x.addStorm(5, 100, 60);
        x.turn(1);
        // 325 by the merger, 293 by shear: no split.
        Check.due("merger, shear, then split", x.getSize(0), 293);
        Check.due("one thing is noted", x.happenings(), 1);

        Bandworld y = new Bandworld();
        y.setTurning(4, 3000);
        y.addStorm(5, 0, 10);
        y.addStorm(5, 2, 10);
        y.turn(1);
        // 14 by the merger, 13 by shear.
        Check.due("a merger saves both from shear", y.getSize(0), 13);

        Bandworld z = new Bandworld();
        z.setTurning(5, 1000);
        z.addStorm(5, 0, 20);
        z.addStorm(5, 15, 20);
        z.turn(1);
        Check.due("both blow before they meet", z.getLongitude(0), 100);

        Bandworld w = new Bandworld();
        w.setDrag(2);
        w.setTurning(5, 1000);
        w.addStorm(5, 0, 20);
        w.turn(1);
        Check.due("drag comes before storms", w.getLongitude(0), 50);
    }
}
