/**
 * The edges of promises 31 to 35: probes. Each test says in its remark which sentence of the document it holds.
 */
public final class ProbeEdgeTest {
    public static void main(String[] args) {
        Check.all(ProbeEdgeTest.class);
    }

    /** A probe that was heard in 3 of 5 ticks, and one that has not begun. */
    private static void twoProbes(Bandworld x) {
        x.dropProbe(1, 3, 1, true);
        x.dropProbe(9, 60, 3, false);
        for (int tick = 0; tick < 5; tick++) {
            x.tick(0);
        }
    }

    /** Four probes that are dead. */
    private static void deadProbes(Bandworld x) {
        x.setTemperature(0, 601);
        for (int probe = 0; probe < 4; probe++) {
            x.dropProbe(1, 1, 1, true);
            x.tick(probe);
        }
    }

    // Dropping

    /** Promise 31: "Throws IllegalArgumentException if a number is out of range"; the chute's level is "1 to 9". */
    private static void dropProbeWithAChuteAt1To9() {
        Bandworld x = new Bandworld();
        Check.due("chute 1", x.dropProbe(1, 5, 2, true), 0);
        Check.due("chute 9", x.dropProbe(9, 5, 2, true), 1);
        for (int chute : Edge.beyond(1, 9)) {
            Edge.refused("chute " + chute, Edge.ARGUMENT, y -> y.dropProbe(chute, 5, 2, true));
        }
    }

    /** Promise 31: "ticks in which the relay hears it, 1 to 60". */
    private static void dropProbeHeardIn1To60Ticks() {
        Bandworld x = new Bandworld();
        Check.due("relay 1", x.dropProbe(5, 1, 2, true), 0);
        Check.due("relay 60", x.dropProbe(5, 60, 2, true), 1);
        for (int relay : Edge.beyond(1, 60)) {
            Edge.refused("relay " + relay, Edge.ARGUMENT, y -> y.dropProbe(5, relay, 2, true));
        }
    }

    /** Promise 31: "how many records it sends in a tick, 1 to 3". */
    private static void dropProbeThatSends1To3Records() {
        Bandworld x = new Bandworld();
        Check.due("records 1", x.dropProbe(5, 5, 1, false), 0);
        Check.due("records 3", x.dropProbe(5, 5, 3, false), 1);
        for (int records : Edge.beyond(1, 3)) {
            Edge.refused("records " + records, Edge.ARGUMENT, y -> y.dropProbe(5, 5, records, false));
        }
    }

    /** Promise 31: "Throws IllegalStateException if there are 4"; the 4th has room, and those that are dead count. */
    private static void dropProbeUpTo4() {
        Bandworld x = new Bandworld();
        for (int probe = 0; probe < 4; probe++) {
            Check.due("the number", x.dropProbe(5, 5, 2, true), probe);
        }
        Edge.refused("a 5th", Edge.STATE, Edge::full, y -> y.dropProbe(5, 5, 2, true));
        Look.Story dead = ProbeEdgeTest::deadProbes;
        Edge.refused("a 5th where all are dead", Edge.STATE, dead, y -> y.dropProbe(5, 5, 2, true));
    }

    /** Terms: "the one that is documented first is thrown": promise 31. */
    private static void dropProbeLooksAtNumbersThenRoom() {
        Edge.refused("chute 0, no room", Edge.ARGUMENT, Edge::full, y -> y.dropProbe(0, 5, 2, true));
        Edge.refused("relay 61, no room", Edge.ARGUMENT, Edge::full, y -> y.dropProbe(5, 61, 2, true));
        Edge.refused("records 4, no room", Edge.ARGUMENT, Edge::full, y -> y.dropProbe(5, 5, 4, true));
    }

    // Ticks

    /** Promise 32: "Throws IndexOutOfBoundsException if there is no such probe": none, two, or 4 of them. */
    private static void tickOfThoseThatAre() {
        refusedBeyond(probe -> y -> y.tick(probe));
    }

    private interface Call {
        Look.Ask of(int probe);
    }

    private static void refusedBeyond(Call call) {
        Edge.refused("the first where there is none", Edge.INDEX, Edge::empty, call.of(0));
        for (int probe : Edge.beyond(0, 1)) {
            Edge.refused("of two, probe " + probe, Edge.INDEX, ProbeEdgeTest::twoProbes, call.of(probe));
        }
        for (int probe : Edge.beyond(0, 3)) {
            Edge.refused("of 4, probe " + probe, Edge.INDEX, Edge::full, call.of(probe));
        }
        for (int probe : new int[] {0, 3}) {
            Bandworld x = new Bandworld();
            Edge.full(x);
            x.tick(probe);
            Check.no("probe " + probe + " answers", Look.answer(x, call.of(probe)).endsWith("Exception"));
        }
    }

    /** Promise 32: "Throws UnsupportedOperationException if it is dead": by heat, or at the level 9; and for good. */
    private static void tickOfOneThatIsDead() {
        Edge.refused("by heat", Edge.UNSUPPORTED, ProbeEdgeTest::deadProbes, y -> y.tick(0));
        Edge.refused("by heat, the last of 4", Edge.UNSUPPORTED, ProbeEdgeTest::deadProbes, y -> y.tick(3));
        Edge.refused("cold again", Edge.UNSUPPORTED, y -> {
            deadProbes(y);
            y.setTemperature(0, 50);
        }, y -> y.tick(0));
        Edge.refused("at the level 9", Edge.UNSUPPORTED, y -> {
            y.dropProbe(1, 60, 1, true);
            for (int tick = 0; tick < 11; tick++) {
                y.tick(0);
            }
        }, y -> y.tick(0));
    }

    /** Promise 32: "-1 if it is dead"; "a level with a temperature above 600": 600 is not above it, 601 is. */
    private static void tickAtATemperatureAbove600() {
        for (int level = 0; level < 9; level++) {
            for (int more = 0; more <= 1; more++) {
                Bandworld x = new Bandworld();
                x.setTemperature(level, 600 + more);
                x.dropProbe(1, 60, 1, true);
                int now = x.tick(0);
                for (int tick = 0; tick < level; tick++) {
                    now = x.tick(0);
                }
                // With the chute at 1 it is a tick longer at the level 0.
                now = level == 0 ? now : x.tick(0);
                int due = more == 1 ? -1 : level == 0 ? 0 : level + 1;
                Check.due("at " + (600 + more) + " in " + level, now, due);
            }
        }
    }

    /** Terms: "It does not fall, and is dead, behind a tick in which it was at the level 9": not yet at 8. */
    private static void tickAtTheLevel9() {
        Bandworld x = new Bandworld();
        x.dropProbe(1, 60, 1, true);
        int now = 0;
        for (int tick = 1; tick <= 10; tick++) {
            now = x.tick(0);
        }
        Check.due("it is at 9 behind a tick at 8", now, 9);
        Check.due("dead behind a tick at 9", x.tick(0), -1);
        Check.due("with a record of it", x.sentAt(0, 10, 'l'), 9);
    }

    /** Terms: "with a level less than that of the chute in its ticks 2, 4 and so on alone, otherwise in each tick". */
    private static void tickBehindTheChute() {
        for (int chute = 1; chute <= 9; chute++) {
            Bandworld x = new Bandworld();
            x.dropProbe(chute, 60, 1, true);
            for (int tick = 1; tick <= chute + 9; tick++) {
                int due = tick <= 2 * chute ? tick / 2 : tick - chute;
                Check.due("chute " + chute + ", tick " + tick, x.tick(0), due);
            }
            Check.due("chute " + chute + ", the last one", x.tick(0), -1);
        }
    }

    /** Terms: "in its ticks 2, 4 and so on": its own ones, not those of another probe, nor turns. */
    private static void tickCountsItsOwnTicks() {
        Bandworld x = new Bandworld();
        x.dropProbe(9, 60, 1, true);
        x.dropProbe(9, 60, 1, true);
        Check.due("the first of 0", x.tick(0), 0);
        Check.due("the first of 1", x.tick(1), 0);
        x.turn(1);
        Check.due("the second of 1", x.tick(1), 1);
        Check.due("the second of 0", x.tick(0), 1);
    }

    // Records

    /** Promise 33: "Throws IndexOutOfBoundsException if there is no such probe". */
    private static void sentOfThoseThatAre() {
        refusedBeyond(probe -> y -> y.sent(probe));
    }

    /** Promise 33: "Returns how many records a probe sent": none at first, one in each tick in which it is heard. */
    private static void sentFromNothing() {
        for (int records = 1; records <= 3; records++) {
            Bandworld x = new Bandworld();
            x.dropProbe(9, 60, records, records == 2);
            Check.due("at first", x.sent(0), 0);
            for (int tick = 1; tick <= 19; tick++) {
                x.tick(0);
                Check.due("behind tick " + tick, x.sent(0), tick);
                Check.due("the record of tick " + tick, x.sentAt(0, tick - 1, 'l'), (tick - 1) / 2);
            }
            Check.due("none is lost", x.lost(0), 0);
        }
    }

    /** Terms: "while the relay hears it, it sends": in the tick of that number, and not in the next one. */
    private static void sentWhileHeard() {
        for (int relay = 1; relay <= 19; relay++) {
            Bandworld x = new Bandworld();
            x.dropProbe(9, relay, 3, true);
            for (int tick = 1; tick <= 19; tick++) {
                x.tick(0);
                Check.due("relay " + relay + ", tick " + tick, x.sent(0), Math.min(tick, relay));
            }
        }
    }

    /** Promise 34: "Throws IndexOutOfBoundsException if there is no such probe". */
    private static void sentAtOfThoseThatAre() {
        refusedBeyond(probe -> y -> y.sentAt(probe, 0, 'l'));
    }

    /** Promise 34: "Throws IllegalArgumentException if there is no such thing": 'l', 't' and 'i' alone. */
    private static void sentAtOfThingsThatAre() {
        char[] bad = {'h', 'j', 'k', 'm', 's', 'u', 'L', 'T', 'I', ' ', (char) 0, (char) ('l' + 256), '\uffff'};
        for (char what : bad) {
            Edge.refused("thing " + (int) what, Edge.ARGUMENT, ProbeEdgeTest::twoProbes, y -> y.sentAt(0, 0, what));
        }
        Bandworld x = new Bandworld();
        x.setVapour(0, 0, 4);
        x.turn(1);
        x.dropProbe(1, 1, 1, true);
        x.tick(0);
        Check.due("the level", x.sentAt(0, 0, 'l'), 0);
        Check.due("the temperature", x.sentAt(0, 0, 't'), 99);
        Check.due("the ice", x.sentAt(0, 0, 'i'), 2);
    }

    /** Promise 34: "Throws NoSuchElementException if there is no such record": the index is from 0 to what was sent. */
    private static void sentAtOfRecordsThatWereSent() {
        Bandworld x = new Bandworld();
        twoProbes(x);
        Check.due("the first", x.sentAt(0, 0, 'l'), 0);
        Check.due("the last of 3", x.sentAt(0, 2, 't'), 120);
        for (int index : Edge.beyond(0, 2)) {
            Edge.refused("of 3, record " + index, Edge.NONE, ProbeEdgeTest::twoProbes, y -> y.sentAt(0, index, 'l'));
        }
        Edge.refused("of none, record 0", Edge.NONE, ProbeEdgeTest::twoProbes, y -> y.sentAt(1, 0, 'l'));
        Look.Story allSent = y -> {
            y.dropProbe(9, 60, 1, true);
            for (int tick = 0; tick < 19; tick++) {
                y.tick(0);
            }
        };
        for (int index : Edge.beyond(0, 18)) {
            Edge.refused("of 19, record " + index, Edge.NONE, allSent, y -> y.sentAt(0, index, 'i'));
        }
        Bandworld all = new Bandworld();
        allSent.tell(all);
        Check.due("the last of 19", all.sentAt(0, 18, 'l'), 9);
    }

    /** Terms: "the one that is documented first is thrown": promise 34. */
    private static void sentAtLooksAtProbeThenThingThenRecord() {
        Edge.refused("probe 2, thing 'x'", Edge.INDEX, ProbeEdgeTest::twoProbes, y -> y.sentAt(2, 0, 'x'));
        Edge.refused("probe -1, record 9", Edge.INDEX, ProbeEdgeTest::twoProbes, y -> y.sentAt(-1, 9, 'l'));
        Edge.refused("thing 'x', record 3", Edge.ARGUMENT, ProbeEdgeTest::twoProbes, y -> y.sentAt(0, 3, 'x'));
        Edge.refused("thing 'x', record -1", Edge.ARGUMENT, ProbeEdgeTest::twoProbes, y -> y.sentAt(1, -1, 'x'));
        Edge.refused("all three", Edge.INDEX, ProbeEdgeTest::twoProbes, y -> y.sentAt(2, -1, 'x'));
    }

    /** Promise 35: "Throws IndexOutOfBoundsException if there is no such probe". */
    private static void lostOfThoseThatAre() {
        refusedBeyond(probe -> y -> y.lost(probe));
    }

    /** Terms: "it keeps 6 records that are not sent, the oldest one being lost otherwise": with the 7th, not before. */
    private static void lostBeyond6() {
        for (int relay = 1; relay <= 19; relay++) {
            Bandworld x = new Bandworld();
            x.dropProbe(9, relay, 1, false);
            for (int tick = 1; tick <= 19; tick++) {
                x.tick(0);
                Check.due("relay " + relay + ", tick " + tick, x.lost(0), Math.max(0, tick - relay - 6));
            }
        }
    }

    /** Promise 35: those "that are neither sent nor kept": a probe that is dead keeps what it has. */
    private static void lostOfOneThatIsDead() {
        Bandworld x = new Bandworld();
        x.dropProbe(1, 4, 1, true);
        int now = 0;
        for (int tick = 0; tick < 20 && now >= 0; tick++) {
            now = x.tick(0);
        }
        Check.due("4 were sent", x.sent(0), 4);
        Check.due("6 are kept, 1 of 11 is lost", x.lost(0), 1);
    }
}
