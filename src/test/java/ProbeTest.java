/** Promises 31 to 35: probes. */
public final class ProbeTest {
    public static void main(String[] args) {
        dropping();
        falling();
        dying();
        records();
        losing();
        refused();
        Check.end();
    }

    private static void dropping() {
        Bandworld x = new Bandworld();
        Check.argument("chute 0", x, () -> x.dropProbe(0, 1, 1, true));
        Check.argument("chute 10", x, () -> x.dropProbe(10, 1, 1, true));
        Check.argument("relay 0", x, () -> x.dropProbe(1, 0, 1, true));
        Check.argument("relay 61", x, () -> x.dropProbe(1, 61, 1, true));
        Check.argument("records 0", x, () -> x.dropProbe(1, 1, 0, true));
        Check.argument("records 4", x, () -> x.dropProbe(1, 1, 4, true));
        Check.due("least", x.dropProbe(1, 1, 1, true), 0);
        Check.due("most", x.dropProbe(9, 60, 3, false), 1);
        Check.due("third", x.dropProbe(5, 5, 2, true), 2);
        Check.due("fourth", x.dropProbe(5, 5, 2, true), 3);
        Check.state("a 5th", x, () -> x.dropProbe(1, 1, 1, true));
        Check.argument("number before room", x, () -> x.dropProbe(0, 1, 1, true));
        Check.due("nothing is sent yet", x.sent(3), 0);
        Check.due("nothing is lost yet", x.lost(3), 0);
        x.tick(2);
        Check.due("each one by itself", x.sent(2), 1);
        Check.due("so the others", x.sent(3), 0);
    }

    private static void falling() {
        Bandworld x = new Bandworld();
        x.dropProbe(3, 60, 1, true);
        int[] due = {0, 1, 1, 2, 2, 3, 4, 5, 6, 7, 8, 9, -1};
        for (int tick = 0; tick < due.length; tick++) {
            Check.due("chute 3, tick " + (tick + 1), x.tick(0), due[tick]);
        }
        x.dropProbe(1, 60, 1, true);
        int[] early = {0, 1, 2, 3, 4, 5, 6, 7, 8, 9, -1};
        for (int tick = 0; tick < early.length; tick++) {
            Check.due("chute 1, tick " + (tick + 1), x.tick(1), early[tick]);
        }
        x.dropProbe(9, 60, 1, true);
        for (int tick = 1; tick <= 18; tick++) {
            Check.due("chute 9, tick " + tick, x.tick(2), tick / 2);
        }
        Check.due("chute 9, tick 19", x.tick(2), -1);
        Check.unsupported("it is dead", x, () -> x.tick(2));
        Check.due("a record of each tick", x.sent(2), 19);
        Check.due("ticks are no turns", x.turn(1), 1);
    }

    private static void dying() {
        Bandworld x = new Bandworld();
        x.setTemperature(0, 600);
        x.setTemperature(1, 601);
        x.dropProbe(1, 60, 1, true);
        Check.due("600 is not too hot", x.tick(0), 0);
        Check.due("it falls", x.tick(0), 1);
        Check.due("601 is too hot", x.tick(0), -1);
        Check.unsupported("dead", x, () -> x.tick(0));
        Check.due("the last record was sent", x.sent(0), 3);
        Check.due("at its level", x.sentAt(0, 2, 'l'), 1);
        Check.due("with its temperature", x.sentAt(0, 2, 't'), 601);
        x.setTemperature(1, 100);
        Check.unsupported("dead for good", x, () -> x.tick(0));
    }

    private static void records() {
        Bandworld x = new Bandworld();
        x.setVapour(0, 0, 5);
        x.setVapour(0, 1, 10);
        x.setVapour(0, 2, 1);
        x.turn(1);
        // 2, 5 and 0 stay as ice, 3, 5 and 1 fall to the level 1.
        x.dropProbe(1, 60, 3, false);
        x.tick(0);
        x.setTemperature(0, 77);
        x.tick(0);
        x.tick(0);
        Check.due("level 0", x.sentAt(0, 0, 'l'), 0);
        Check.due("its temperature as it was", x.sentAt(0, 0, 't'), 99);
        Check.due("the sum of its ice", x.sentAt(0, 0, 'i'), 7);
        Check.due("level 0 again", x.sentAt(0, 1, 'l'), 0);
        Check.due("its temperature then", x.sentAt(0, 1, 't'), 77);
        Check.due("level 1", x.sentAt(0, 2, 'l'), 1);
        Check.due("the sum of its ice", x.sentAt(0, 2, 'i'), 9);
        x.turn(5);
        Check.due("as it was sent", x.sentAt(0, 2, 'i'), 9);
        Check.due("no more than there are", x.sent(0), 3);
    }

    private static void losing() {
        Bandworld x = new Bandworld();
        x.dropProbe(9, 1, 3, true);
        for (int tick = 1; tick <= 7; tick++) {
            x.tick(0);
            Check.due("6 are kept, tick " + tick, x.lost(0), 0);
            Check.due("one was heard, tick " + tick, x.sent(0), 1);
        }
        for (int tick = 8; tick <= 19; tick++) {
            x.tick(0);
            Check.due("the oldest is lost, tick " + tick, x.lost(0), tick - 7);
        }
        Check.due("still one sent", x.sent(0), 1);
        Check.unsupported("dead", x, () -> x.tick(0));
        Check.due("those that are kept are not lost", x.lost(0), 12);

        Bandworld y = new Bandworld();
        y.dropProbe(9, 12, 1, false);
        for (int tick = 1; tick <= 19; tick++) {
            y.tick(0);
        }
        Check.due("heard in 12 ticks", y.sent(0), 12);
        Check.due("7 behind them", y.lost(0), 1);
        for (int i = 0; i < 12; i++) {
            Check.due("in the order of the ticks, " + i, y.sentAt(0, i, 'l'), i / 2);
        }
    }

    private static void refused() {
        Bandworld x = new Bandworld();
        x.dropProbe(1, 1, 1, true);
        for (int bad : new int[] {-1, 1, Integer.MIN_VALUE, Integer.MAX_VALUE}) {
            Check.index("tick", x, () -> x.tick(bad));
            Check.index("sent", x, () -> x.sent(bad));
            Check.index("lost", x, () -> x.lost(bad));
            Check.index("sentAt", x, () -> x.sentAt(bad, 0, 'l'));
            Check.index("sentAt: probe before thing", x, () -> x.sentAt(bad, 0, 'x'));
        }
        Check.argument("no such thing", x, () -> x.sentAt(0, 0, 'L'));
        Check.argument("thing before record", x, () -> x.sentAt(0, 9, 'k'));
        Check.none("no record yet", x, () -> x.sentAt(0, 0, 'l'));
        x.tick(0);
        Check.none("record -1", x, () -> x.sentAt(0, -1, 'l'));
        Check.none("record 1", x, () -> x.sentAt(0, 1, 't'));
        Check.none("record of the most", x, () -> x.sentAt(0, Integer.MAX_VALUE, 'i'));
        x.tick(0);
        Check.none("kept, but not sent", x, () -> x.sentAt(0, 1, 'l'));
    }
}
