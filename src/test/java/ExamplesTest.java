/** The three examples of the document, call by call. */
public final class ExamplesTest {
    public static void main(String[] args) {
        coldAndLightning();
        stormsAndFrames();
        probesAndMergers();
        Check.end();
    }

    private static void coldAndLightning() {
        Bandworld x = new Bandworld();
        Check.due("pressure(0)", x.pressure(0), 0.1f);
        Check.due("pressure(9)", x.pressure(9), 51.2f);
        Check.due("getTemperature(9)", x.getTemperature(9), 280);
        Check.due("setVapour(5, 0, 5000)", x.setVapour(5, 0, 5000), 0);
        Check.due("setVapour(9, 2, 20000)", x.setVapour(9, 2, 20000), 0);
        Check.due("turn(1)", x.turn(1), 1);
        Check.due("getTemperature(9)", x.getTemperature(9), 282);
        Check.due("getTemperature(0)", x.getTemperature(0), 99);
        Check.due("getRadiated()", x.getRadiated(), 1);
        Check.due("getVapour(5, 0)", x.getVapour(5, 0), 3200);
        Check.due("getIce(5, 0)", x.getIce(5, 0), 900);
        Check.due("getIce(6, 0)", x.getIce(6, 0), 900);
        Check.due("deck(0)", x.deck(0), 5);
        Check.due("turn(3)", x.turn(3), 4);
        Check.due("deck(0)", x.deck(0), 6);
        Check.due("getVapour(8, 2)", x.getVapour(8, 2), 0);
        Check.due("setTemperature(9, 400)", x.setTemperature(9, 400), 288);
        Check.due("setCore(9)", x.setCore(9), 2);
        Check.due("turn(2)", x.turn(2), 6);
        Check.due("getTemperature(8)", x.getTemperature(8), 297);
        Check.due("getVapour(8, 2)", x.getVapour(8, 2), 2172);
        Check.due("burst(4, 100)", x.burst(4, 100), 0);
        Check.due("getVapour(3, 2)", x.getVapour(3, 2), 4698);
        Check.due("happening(0)", x.happening(0), 'p');
        Check.due("dropProbe(5, 6, 1, true)", x.dropProbe(5, 6, 1, true), 0);
        Check.due("tick 1", x.tick(0), 0);
        Check.due("tick 2", x.tick(0), 1);
        Check.due("tick 3", x.tick(0), 1);
        Check.due("tick 4", x.tick(0), 2);
        Check.due("tick 5", x.tick(0), 2);
        Check.due("sent(0)", x.sent(0), 5);
        Check.due("sentAt(0, 1, 'l')", x.sentAt(0, 1, 'l'), 0);
        Check.due("sentAt(0, 1, 't')", x.sentAt(0, 1, 't'), 99);
        Check.due("sentAt(0, 0, 'i')", x.sentAt(0, 0, 'i'), 0);
        Check.due("lost(0)", x.lost(0), 0);
        Check.due("checksum()", x.checksum(), -7871865318399044476L);
        Check.yes("isSound()", x.isSound());
    }

    private static void stormsAndFrames() {
        Bandworld x = new Bandworld();
        Check.due("setTurning(4, 900)", x.setTurning(4, 900), 0);
        Check.due("setTurning(5, 500)", x.setTurning(5, 500), 0);
        Check.due("setTurning(6, -700)", x.setTurning(6, -700), 0);
        Check.due("getWind(5)", x.getWind(5), 50);
        Check.due("getShear(5)", x.getShear(5), 170);
        Check.due("addStorm(5, 3590, 100)", x.addStorm(5, 3590, 100), 0);
        Check.due("addStorm(5, 60, 120)", x.addStorm(5, 60, 120), 1);
        Check.due("addStorm(5, 1800, 310)", x.addStorm(5, 1800, 310), 2);
        Check.due("nameStorm(0, 'R')", x.nameStorm(0, 'R'), '-');
        Check.unsupported("nameStorm(1, 'R')", x, () -> x.nameStorm(1, 'R'));
        Check.due("frame(0)", x.frame(0), 0);
        Check.due("countSeen(0)", x.countSeen(0), 2);
        Check.due("turn(1)", x.turn(1), 1);
        Check.no("isThere(0)", x.isThere(0));
        Check.due("livesIn(0)", x.livesIn(0), 1);
        Check.due("findName('R')", x.findName('R'), 1);
        Check.due("getSize(1)", x.getSize(1), 141);
        Check.due("getSize(2)", x.getSize(2), 279);
        Check.due("happenings()", x.happenings(), 1);
        Check.none("happening(1)", x, () -> x.happening(1));
        Check.none("happenedTo(1)", x, () -> x.happenedTo(1));
        Check.due("frame(100)", x.frame(100), 1);
        Check.due("placeIn(1, 'R')", x.placeIn(1, 'R'), 110);
        Check.due("drift('R', 0, 1)", x.drift('R', 0, 1), 120.0f);
        Check.due("stir(5, 4, 300)", x.stir(5, 4, 300), 1200);
        Check.due("getTurning(5)", x.getTurning(5), 200);
        Check.due("setDrag(10)", x.setDrag(10), 0);
        Check.due("turn(1)", x.turn(1), 2);
        Check.due("getDeep()", x.getDeep(), 70);
        Check.due("save()", x.save(), 0);
        Check.due("turn(5)", x.turn(5), 7);
        Check.due("load(0)", x.load(0), 340277944938851167L);
        Check.due("getAge(2)", x.getAge(2), 2);
        Check.due("strike(7, 0, 30)", x.strike(7, 0, 30), 0);
        Check.due("turn(4)", x.turn(4), 6);
        Check.due("getWidth(0)", x.getWidth(0), 42);
        Check.due("scarTurns(0)", x.scarTurns(0), 4);
        Check.due("thereShare()", x.thereShare(), 0.6666667f);
        Check.due("meanWind()", x.meanWind(), 4.0);
        Check.due("checksum()", x.checksum(), -8405071495088210237L);
        Check.yes("isSound()", x.isSound());
    }

    private static void probesAndMergers() {
        Bandworld x = new Bandworld();
        Check.due("setTemperature(0, 700)", x.setTemperature(0, 700), 100);
        Check.due("dropProbe(1, 60, 3, false)", x.dropProbe(1, 60, 3, false), 0);
        Check.due("tick(0)", x.tick(0), -1);
        Check.unsupported("tick(0)", x, () -> x.tick(0));
        Check.due("setTemperature(0, 100)", x.setTemperature(0, 100), 700);
        Check.due("dropProbe(9, 2, 1, false)", x.dropProbe(9, 2, 1, false), 1);
        Check.due("tick 1", x.tick(1), 0);
        Check.due("tick 2", x.tick(1), 1);
        Check.due("tick 3", x.tick(1), 1);
        Check.due("tick 4", x.tick(1), 2);
        Check.due("sent(1)", x.sent(1), 2);
        Check.due("sentAt(1, 1, 't')", x.sentAt(1, 1, 't'), 100);
        Check.due("addStorm(0, 0, 12)", x.addStorm(0, 0, 12), 0);
        Check.due("setTurning(1, 3000)", x.setTurning(1, 3000), 0);
        Check.due("turn(1)", x.turn(1), 1);
        Check.due("getSize(0)", x.getSize(0), 11);
        Check.due("turn(1)", x.turn(1), 2);
        Check.due("getSize(0)", x.getSize(0), 10);
        Check.due("turn(2)", x.turn(2), 4);
        Check.no("isThere(0)", x.isThere(0));
        Check.none("livesIn(0)", x, () -> x.livesIn(0));
        Check.unsupported("nameStorm(0, 'A')", x, () -> x.nameStorm(0, 'A'));
        Check.due("happening(0)", x.happening(0), 'd');
        Check.due("addStorm(5, 10, 400)", x.addStorm(5, 10, 400), 1);
        Check.due("addStorm(5, 20, 400)", x.addStorm(5, 20, 400), 2);
        Check.due("turn(1)", x.turn(1), 5);
        Check.no("isThere(2)", x.isThere(2));
        Check.due("getSize(1)", x.getSize(1), 267);
        Check.due("happenings()", x.happenings(), 3);
        Check.due("happenedTo(2)", x.happenedTo(2), 3);
        Check.due("getLongitude(3)", x.getLongitude(3), 410);
        Check.due("thereShare()", x.thereShare(), 0.5f);
        Check.due("checksum()", x.checksum(), 4399860488605452979L);
        Check.yes("isSound()", x.isSound());
    }
}
